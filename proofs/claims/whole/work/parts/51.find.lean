/-! the reference's table, whole -/
def fillI (sl : Nat → Nat) (en : Nat) (wt : Nat → Int64) (C B : Nat → Int64) (K M D c m : Nat) : Prop :=
  ∀ d' c' m', d' ≤ 12 → c' ≤ K → m' ≤ M → (d' < D ∨ (d' = D ∧ (c' < c ∨ (c' = c ∧ m' < m)))) → (C ((13 * d' + c') * 121 + m'), B ((13 * d' + c') * 121 + m')) = dpV sl en wt d' m' c'
theorem fillI.day {sl : Nat → Nat} {en : Nat} {wt : Nat → Int64} {C B : Nat → Int64} {K M D c m : Nat} (h : fillI sl en wt C B K M D c m) (hD : D ≤ 12) : ∀ d, d + 1 = D → day9 sl en wt C B d K M := fun d hd c' m' h1 h2 => h d c' m' (by omega) h1 h2 (by omega)
section FIND2
variable {s w0 kf : Nat → Int32} {sl : Nat → Nat} {en : Nat} {wt : Nat → Int64} {kk : Int32}
theorem l30 (kh12 : (Nat → Int64) → (Nat → Int64) → (Nat → Int32) → (Int32) → (Int64) → (Int64) → Int32 → Int32 → Int32 → Int64 → Int32 → Option ((Nat → Int64) × (Nat → Int64) × (Nat → Int32) × (Int32) × (Int64) × (Int64))) (kh21 : (Nat → Int64) → (Nat → Int64) → (Nat → Int32) → (Int32) → (Int64) → (Int64) → Int32 → Int32 → Int32 → Int64 → Int32 → Int32 → Option ((Nat → Int64) × (Nat → Int64) × (Nat → Int32) × (Int32) × (Int64) × (Int64)))
    {wz : Nat → Int32} {D K M c : Nat} (hs : slO s sl) (hwz : ∀ v, v < 4 → wt v = (wz v).toInt64) (hD : D ≤ 12) (hK : K ≤ 12) (hM : M ≤ 120) (hc : c ≤ K) (he : en ≤ 20) (x1 : Int32) :
    ∀ (r m n : Nat) (C B : Nat → Int64) (wo : Int32) (wc wb : Int64), m + r = M + 1 → r < n → fillI sl en wt C B K M D c m → ∃ C' B' wo' wc' wb', g_X9_find_30 kk w0 kf s (nI en) kh12 kh21 n C B wz wo wc wb x1 (nI K) (nI M) (p16 D) (nI D) (nI c) (nI m) = kh21 C' B' wz wo' wc' wb' x1 (nI K) (nI M) (p16 D) (nI D) (nI (c + 1)) ∧ fillI sl en wt C' B' K M D (c + 1) 0 := by
  intro r
  induction r with
  | zero =>
    intro m n C B wo wc wb hm hn hI
    obtain ⟨k, rfl, hk⟩ := succ_of hn
    rw [gs_X9_find_30]
    unfold f_X9_find_30
    have e : nI M < nI m := nI_lt (by omega) (by omega)
    have e3 : nI c + 1 = nI (c + 1) := nI_1 c
    rw [if_pos e, e3]
    exact ⟨C, B, wo, wc, wb, rfl, fun d' c' m' h1 h2 h3 h4 => hI d' c' m' h1 h2 h3 (by omega)⟩
  | succ r ih =>
    intro m n C B wo wc wb hm hn hI
    obtain ⟨k, rfl, hk⟩ := succ_of hn
    rw [gs_X9_find_30]
    obtain ⟨C1, B1, wo1, wc1, wb1, q1, q2, q3⟩ := c30 (kk := kk) (w0 := w0) (kf := kf) kh12 kh21 (fun a b cc d e f g h i j k1 l m1 => g_X9_find_30 kk w0 kf s (nI en) kh12 kh21 k a b cc d e f g h i j k1 l m1) (hI.day hD) hs hwz hD hK hM hc (show m ≤ M by omega) he wo wc wb x1
    rw [q1]
    apply ih (m + 1) k C1 B1 wo1 wc1 wb1 (by omega) (by omega)
    intro d' c' m' h1 h2 h3 h4
    by_cases hq : d' = D ∧ c' = c ∧ m' = m
    · obtain ⟨rfl, rfl, rfl⟩ := hq
      exact q3
    · have hne : (13 * d' + c') * 121 + m' ≠ (13 * D + c) * 121 + m := by omega
      rw [(q2 _ hne).1, (q2 _ hne).2]
      exact hI d' c' m' h1 h2 h3 (by omega)
theorem l21 (kh12 : (Nat → Int64) → (Nat → Int64) → (Nat → Int32) → (Int32) → (Int64) → (Int64) → Int32 → Int32 → Int32 → Int64 → Int32 → Option ((Nat → Int64) × (Nat → Int64) × (Nat → Int32) × (Int32) × (Int64) × (Int64)))
    {wz : Nat → Int32} {D K M : Nat} (hs : slO s sl) (hwz : ∀ v, v < 4 → wt v = (wz v).toInt64) (hD : D ≤ 12) (hK : K ≤ 12) (hM : M ≤ 120) (he : en ≤ 20) (x1 : Int32) :
    ∀ (r c n : Nat) (C B : Nat → Int64) (wo : Int32) (wc wb : Int64), c + r = K + 1 → r < n → fillI sl en wt C B K M D c 0 → ∃ C' B' wo' wc' wb', g_X9_find_21 kk w0 kf s (nI en) kh12 n C B wz wo wc wb x1 (nI K) (nI M) (p16 D) (nI D) (nI c) = kh12 C' B' wz wo' wc' wb' x1 (nI K) (nI M) (p16 (D + 1)) (nI (D + 1)) ∧ fillI sl en wt C' B' K M (D + 1) 0 0 := by
  intro r
  induction r with
  | zero =>
    intro c n C B wo wc wb hc hn hI
    obtain ⟨k, rfl, hk⟩ := succ_of hn
    rw [gs_X9_find_21]
    unfold f_X9_find_21
    have e : nI K < nI c := nI_lt (by omega) (by omega)
    have e3 : nI D + 1 = nI (D + 1) := nI_1 D
    rw [if_pos e, e3, p16_mul D hD]
    exact ⟨C, B, wo, wc, wb, rfl, fun d' c' m' h1 h2 h3 h4 => hI d' c' m' h1 h2 h3 (by omega)⟩
  | succ r ih =>
    intro c n C B wo wc wb hc hn hI
    obtain ⟨k, rfl, hk⟩ := succ_of hn
    rw [gs_X9_find_21]
    unfold f_X9_find_21
    have e : ¬ nI K < nI c := nI_nlt (by omega) (by omega)
    rw [if_neg e]
    obtain ⟨C1, B1, wo1, wc1, wb1, q1, q2⟩ := l30 (kk := kk) (w0 := w0) (kf := kf) kh12 (fun a b cc d e f g h i j k1 l => g_X9_find_21 kk w0 kf s (nI en) kh12 k a b cc d e f g h i j k1 l) hs hwz hD hK hM (show c ≤ K by omega) he x1 (M + 1) 0 FU C B wo wc wb (by omega) (FU_gt (by omega)) hI
    have z : (0 : Int32) = nI 0 := rfl
    rw [z, q1]
    exact ih (c + 1) k C1 B1 wo1 wc1 wb1 (by omega) (by omega) q2
theorem l12 {wz : Nat → Int32} {K M dd : Nat} (hs : slO s sl) (hwz : ∀ v, v < 4 → wt v = (wz v).toInt64) (hdd : dd ≤ 12) (hK : K ≤ 12) (hM : M ≤ 120) (he : en ≤ 20) :
    ∀ (r D n : Nat) (C B : Nat → Int64) (wo : Int32) (wc wb : Int64), D + r = dd + 1 → r < n → fillI sl en wt C B K M D 0 0 → ∃ C' B' wo' wc' wb', g_X9_find_12 kk w0 kf s (nI en) n C B wz wo wc wb (nI dd) (nI K) (nI M) (p16 D) (nI D) = some (C', B', wz, wo', wc', wb') ∧ fillI sl en wt C' B' K M (dd + 1) 0 0 := by
  intro r
  induction r with
  | zero =>
    intro D n C B wo wc wb hD hn hI
    obtain ⟨k, rfl, hk⟩ := succ_of hn
    rw [gs_X9_find_12]
    unfold f_X9_find_12
    have e : nI dd < nI D := nI_lt (by omega) (by omega)
    have e2 : D = dd + 1 := by omega
    subst e2
    rw [if_pos e]
    exact ⟨C, B, wo, wc, wb, rfl, hI⟩
  | succ r ih =>
    intro D n C B wo wc wb hD hn hI
    obtain ⟨k, rfl, hk⟩ := succ_of hn
    rw [gs_X9_find_12]
    unfold f_X9_find_12
    have e : ¬ nI dd < nI D := nI_nlt (by omega) (by omega)
    rw [if_neg e]
    obtain ⟨C1, B1, wo1, wc1, wb1, q1, q2⟩ := l21 (kk := kk) (w0 := w0) (kf := kf) (fun a b cc d e f g h i j k1 => g_X9_find_12 kk w0 kf s (nI en) k a b cc d e f g h i j k1) hs hwz (show D ≤ 12 by omega) hK hM he (nI dd) (K + 1) 0 FU C B wo wc wb (by omega) (FU_gt (by omega)) hI
    have z : (0 : Int32) = nI 0 := rfl
    rw [z, q1]
    exact ih (D + 1) k C1 B1 wo1 wc1 wb1 (by omega) (by omega) q2
end FIND2
def wtL (w kf : Nat → Int32) (y : Int32) (k : Nat) : Nat → Int64 := fun v => (wtOf w kf y k v).toInt64
theorem p_find {s w kf : Nat → Int32} {sl : Nat → Nat} {en k : Nat} (hs : slO s sl) (he : en ≤ 20) (hk : k ≤ 40) (y : Int32) {d c m : Nat} (hd : d ≤ 12) (hc : c ≤ 12) (hm : m ≤ 120) (C B : Nat → Int64) (wz : Nat → Int32) (wo : Int32) (wc wb : Int64) :
    ∃ C' B' wz' wo' wc' wb', f_X9_find (nI k) w kf s (nI en) C B wz wo wc wb (nI d) (nI c) (nI m) y = some (C', B', wz', wo', wc', wb') ∧ fillI sl en (wtL w kf y k) C' B' c m (d + 1) 0 0 := by
  unfold f_X9_find
  obtain ⟨wz', h1, h2⟩ := p_fw w kf y k hk wz
  rw [h1]
  simp only [Option.bind_some]
  have z : (0 : Int32) = nI 0 := rfl
  have o : (1 : Int64) = p16 0 := rfl
  rw [z, o]
  obtain ⟨C', B', wo', wc', wb', q1, q2⟩ := l12 (kk := nI k) (w0 := w) (kf := kf) (wt := wtL w kf y k) (wz := wz') hs (fun v hv => by unfold wtL; rw [h2 v hv]) hd hc hm he (d + 1) 0 FU C B wo wc wb (by omega) (FU_gt (by omega)) (fun d' c' m' h1 h2 h3 h4 => by omega)
  exact ⟨C', B', wz', wo', wc', wb', q1, q2⟩
