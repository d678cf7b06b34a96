/-! the reference's table, cell by cell -/
section FIND
variable {s w0 kf : Nat → Int32} {sl : Nat → Nat} {en : Nat} {wt : Nat → Int64} {kk : Int32}
variable (kh12 : (Nat → Int64) → (Nat → Int64) → (Nat → Int32) → (Int32) → (Int64) → (Int64) → Int32 → Int32 → Int32 → Int64 → Int32 → Option ((Nat → Int64) × (Nat → Int64) × (Nat → Int32) × (Int32) × (Int64) × (Int64)))
variable (kh21 : (Nat → Int64) → (Nat → Int64) → (Nat → Int32) → (Int32) → (Int64) → (Int64) → Int32 → Int32 → Int32 → Int64 → Int32 → Int32 → Option ((Nat → Int64) × (Nat → Int64) × (Nat → Int32) × (Int32) × (Int64) × (Int64)))
variable (kh30 : (Nat → Int64) → (Nat → Int64) → (Nat → Int32) → (Int32) → (Int64) → (Int64) → Int32 → Int32 → Int32 → Int64 → Int32 → Int32 → Int32 → Option ((Nat → Int64) × (Nat → Int64) × (Nat → Int32) × (Int32) × (Int64) × (Int64)))
theorem s76 {C B : Nat → Int64} {wz : Nat → Int32} {d K M c m kx : Nat} (h : day9 sl en wt C B d K M) (hs : slO s sl) (hwz : ∀ v, v < 4 → wt v = (wz v).toInt64) (hd : d ≤ 11) (hK : K ≤ 12) (hM : M ≤ 120) (hc : c ≤ K) (hm : m ≤ M) (hm1 : 0 < m) (he : en ≤ 20) (hkx : kx < 20449) (wo : Int32) (wc wb : Int64) (x1 x2 x3 : Int32) (j n : Nat) (hj : j < 4) :
    g_X9_find_76 kk w0 kf s (nI en) kh12 kh21 kh30 (n + 1) C B wz wo wc wb x1 x2 x3 (p16 (d + 1)) (nI (d + 1)) (nI c) (nI m) (nI kx) (nI j) = g_X9_find_76 kk w0 kf s (nI en) kh12 kh21 kh30 n (vp_updL C kx (C kx + wt j * (dpO sl en wt d m c j).2.1)) (vp_updL B kx (B kx + wt j * (dpO sl en wt d m c j).2.2)) wz (dpO sl en wt d m c j).1 (dpO sl en wt d m c j).2.1 (dpO sl en wt d m c j).2.2 x1 x2 x3 (p16 (d + 1)) (nI (d + 1)) (nI c) (nI m) (nI kx) (nI (j + 1)) := by
  rw [gs_X9_find_76]
  unfold f_X9_find_76
  have e : ¬ (4 : Int32) ≤ nI j := nI_ge (a := j) (b := 4) (by omega) (by omega)
  have e1 : ¬ nI (d + 1) ≤ (0 : Int32) := nI_nle (by omega) (by omega)
  have e2 : ¬ nI m ≤ (0 : Int32) := nI_nle (by omega) (by omega)
  rw [if_neg e, if_neg e1, if_neg e2, p16_div d hd, p_choose h hs hd hK hM hc hm he hj]
  simp only [Option.bind_some, inb_t hkx (show 20449 < 2 ^ 31 by omega), inb_t (show j < 4 by omega) (show 4 < 2 ^ 31 by omega), nI_clamp (show kx < 2 ^ 31 by omega), nI_clamp (show j < 2 ^ 31 by omega), if_true, ← hwz j hj]
  have e3 : nI j + 1 = nI (j + 1) := nI_1 j
  rw [e3]
theorem day9.upd {C B : Nat → Int64} {d K M kx : Nat} (h : day9 sl en wt C B d K M) (hne : ∀ c m, c ≤ K → m ≤ M → (13 * d + c) * 121 + m ≠ kx) (a b : Int64) : day9 sl en wt (vp_updL C kx a) (vp_updL B kx b) d K M := by
  intro c m hc hm
  rw [updL_at, updL_at, if_neg (hne c m hc hm), if_neg (hne c m hc hm)]
  exact h c m hc hm
theorem c76 {C B : Nat → Int64} {wz : Nat → Int32} {d K M c m : Nat} (h : day9 sl en wt C B d K M) (hs : slO s sl) (hwz : ∀ v, v < 4 → wt v = (wz v).toInt64) (hd : d ≤ 11) (hK : K ≤ 12) (hM : M ≤ 120) (hc : c ≤ K) (hm : m ≤ M) (hm1 : 0 < m) (he : en ≤ 20) (hz1 : C ((13 * (d + 1) + c) * 121 + m) = 0) (hz2 : B ((13 * (d + 1) + c) * 121 + m) = 0) (wo : Int32) (wc wb : Int64) (x1 x2 x3 : Int32) :
    ∃ C' B' wo' wc' wb', g_X9_find_76 kk w0 kf s (nI en) kh12 kh21 kh30 FU C B wz wo wc wb x1 x2 x3 (p16 (d + 1)) (nI (d + 1)) (nI c) (nI m) (nI ((13 * (d + 1) + c) * 121 + m)) 0 = kh30 C' B' wz wo' wc' wb' x1 x2 x3 (p16 (d + 1)) (nI (d + 1)) (nI c) (nI (m + 1)) ∧ (∀ i, i ≠ (13 * (d + 1) + c) * 121 + m → C' i = C i ∧ B' i = B i) ∧ (C' ((13 * (d + 1) + c) * 121 + m), B' ((13 * (d + 1) + c) * 121 + m)) = dpV sl en wt (d + 1) m c := by
  have hkx : (13 * (d + 1) + c) * 121 + m < 20449 := by omega
  have hne : ∀ c' m', c' ≤ K → m' ≤ M → (13 * d + c') * 121 + m' ≠ (13 * (d + 1) + c) * 121 + m := fun c' m' h1 h2 => by omega
  generalize hk : (13 * (d + 1) + c) * 121 + m = kx at *
  have z : (0 : Int32) = nI 0 := rfl
  have f5 : FU = 999995 + 1 + 1 + 1 + 1 + 1 := rfl
  have h1 := h.upd (kx := kx) hne (C kx + wt 0 * (dpO sl en wt d m c 0).2.1) (B kx + wt 0 * (dpO sl en wt d m c 0).2.2)
  generalize hC1 : vp_updL C kx (C kx + wt 0 * (dpO sl en wt d m c 0).2.1) = C1 at h1
  generalize hB1 : vp_updL B kx (B kx + wt 0 * (dpO sl en wt d m c 0).2.2) = B1 at h1
  have h2 := h1.upd (kx := kx) hne (C1 kx + wt 1 * (dpO sl en wt d m c 1).2.1) (B1 kx + wt 1 * (dpO sl en wt d m c 1).2.2)
  generalize hC2 : vp_updL C1 kx (C1 kx + wt 1 * (dpO sl en wt d m c 1).2.1) = C2 at h2
  generalize hB2 : vp_updL B1 kx (B1 kx + wt 1 * (dpO sl en wt d m c 1).2.2) = B2 at h2
  have h3 := h2.upd (kx := kx) hne (C2 kx + wt 2 * (dpO sl en wt d m c 2).2.1) (B2 kx + wt 2 * (dpO sl en wt d m c 2).2.2)
  generalize hC3 : vp_updL C2 kx (C2 kx + wt 2 * (dpO sl en wt d m c 2).2.1) = C3 at h3
  generalize hB3 : vp_updL B2 kx (B2 kx + wt 2 * (dpO sl en wt d m c 2).2.2) = B3 at h3
  rw [z, f5, s76 kh12 kh21 kh30 h hs hwz hd hK hM hc hm hm1 he hkx _ _ _ _ _ _ 0 _ (by omega), hC1, hB1, s76 kh12 kh21 kh30 h1 hs hwz hd hK hM hc hm hm1 he hkx _ _ _ _ _ _ 1 _ (by omega), hC2, hB2, s76 kh12 kh21 kh30 h2 hs hwz hd hK hM hc hm hm1 he hkx _ _ _ _ _ _ 2 _ (by omega), hC3, hB3, s76 kh12 kh21 kh30 h3 hs hwz hd hK hM hc hm hm1 he hkx _ _ _ _ _ _ 3 _ (by omega), gs_X9_find_76]
  unfold f_X9_find_76 f_X9_find_162
  have e : (4 : Int32) ≤ nI (3 + 1) := by decide
  have e3 : nI m + 1 = nI (m + 1) := nI_1 m
  rw [if_pos e, e3]
  refine ⟨_, _, _, _, _, rfl, ?_, ?_⟩
  · intro i hi
    simp only [updL_at, if_neg hi, ← hC3, ← hC2, ← hC1, ← hB3, ← hB2, ← hB1]
    exact ⟨trivial, trivial⟩
  · simp only [updL_at, if_true, ← hC3, ← hC2, ← hC1, ← hB3, ← hB2, ← hB1, hz1, hz2]
    rw [dpV_s sl en wt d c hm1]
    rfl
/-- one cell -/
theorem c30 {C B : Nat → Int64} {wz : Nat → Int32} {D K M c m : Nat} (h : ∀ d, d + 1 = D → day9 sl en wt C B d K M) (hs : slO s sl) (hwz : ∀ v, v < 4 → wt v = (wz v).toInt64) (hD : D ≤ 12) (hK : K ≤ 12) (hM : M ≤ 120) (hc : c ≤ K) (hm : m ≤ M) (he : en ≤ 20) (wo : Int32) (wc wb : Int64) (x1 : Int32) :
    ∃ C' B' wo' wc' wb', f_X9_find_30 kk w0 kf s (nI en) kh12 kh21 kh30 C B wz wo wc wb x1 (nI K) (nI M) (p16 D) (nI D) (nI c) (nI m) = kh30 C' B' wz wo' wc' wb' x1 (nI K) (nI M) (p16 D) (nI D) (nI c) (nI (m + 1)) ∧ (∀ i, i ≠ (13 * D + c) * 121 + m → C' i = C i ∧ B' i = B i) ∧ (C' ((13 * D + c) * 121 + m), B' ((13 * D + c) * 121 + m)) = dpV sl en wt D m c := by
  unfold f_X9_find_30
  have e : ¬ nI M < nI m := nI_nlt (by omega) (by omega)
  have hkx : (13 * D + c) * 121 + m < 20449 := by omega
  have e3 : nI m + 1 = nI (m + 1) := nI_1 m
  rw [if_neg e, p_at9 (by omega) (by omega) (by omega)]
  simp only [Option.bind_some]
  unfold f_X9_find_64
  rw [inb_t hkx (by omega), nI_clamp (show (13 * D + c) * 121 + m < 2 ^ 31 by omega)]
  simp only [if_true]
  have f5 : FU = 999999 + 1 := rfl
  by_cases hm0 : m = 0
  · subst hm0
    have e0 : nI 0 = (0 : Int32) := rfl
    rw [if_pos e0, f5, gs_X9_find_76]
    unfold f_X9_find_76 f_X9_find_162
    have a1 : ¬ (4 : Int32) ≤ 0 := by decide
    have a2 : nI 0 ≤ (0 : Int32) := by decide
    rw [if_neg a1, if_pos a2, e3]
    have : (if nI D ≤ (0 : Int32) then kh30 (vp_updL C ((13 * D + c) * 121 + 0) (p16 D)) (vp_updL B ((13 * D + c) * 121 + 0) 0) wz wo wc wb x1 (nI K) (nI M) (p16 D) (nI D) (nI c) (nI (0 + 1)) else kh30 (vp_updL C ((13 * D + c) * 121 + 0) (p16 D)) (vp_updL B ((13 * D + c) * 121 + 0) 0) wz wo wc wb x1 (nI K) (nI M) (p16 D) (nI D) (nI c) (nI (0 + 1))) = kh30 (vp_updL C ((13 * D + c) * 121 + 0) (p16 D)) (vp_updL B ((13 * D + c) * 121 + 0) 0) wz wo wc wb x1 (nI K) (nI M) (p16 D) (nI D) (nI c) (nI (0 + 1)) := by split <;> rfl
    rw [this]
    refine ⟨_, _, _, _, _, rfl, ?_, ?_⟩
    · intro i hi
      simp only [updL_at, if_neg hi]
      exact ⟨trivial, trivial⟩
    · simp only [updL_at, if_true]
      rw [dpV_0]
  · have e0 : ¬ nI m = (0 : Int32) := nI_ne0 (by omega) (by omega)
    rw [if_neg e0]
    by_cases hD0 : D = 0
    · subst hD0
      rw [f5, gs_X9_find_76]
      unfold f_X9_find_76 f_X9_find_162
      have a1 : ¬ (4 : Int32) ≤ 0 := by decide
      have a2 : nI 0 ≤ (0 : Int32) := by decide
      rw [if_neg a1, if_pos a2, e3]
      refine ⟨_, _, _, _, _, rfl, ?_, ?_⟩
      · intro i hi
        simp only [updL_at, if_neg hi]
        exact ⟨trivial, trivial⟩
      · simp only [updL_at, if_true]
        show _ = ((if m = 0 then (1 : Int64) else 0), (0 : Int64))
        rw [if_neg hm0]
    · obtain ⟨d, rfl⟩ : ∃ d, D = d + 1 := ⟨D - 1, by omega⟩
      have hne : ∀ c' m', c' ≤ K → m' ≤ M → (13 * d + c') * 121 + m' ≠ (13 * (d + 1) + c) * 121 + m := fun c' m' h1 h2 => by omega
      obtain ⟨C', B', wo', wc', wb', q1, q2, q3⟩ := c76 kh12 kh21 kh30 (kk := kk) (w0 := w0) (kf := kf) ((h d rfl).upd hne 0 0) hs hwz (by omega) hK hM hc hm (by omega) he (by rw [updL_at, if_pos rfl]) (by rw [updL_at, if_pos rfl]) wo wc wb x1 (nI K) (nI M)
      refine ⟨C', B', wo', wc', wb', q1, ?_, q3⟩
      intro i hi
      obtain ⟨a1, a2⟩ := q2 i hi
      rw [a1, a2, updL_at, updL_at, if_neg hi, if_neg hi]
      exact ⟨rfl, rfl⟩
end FIND
