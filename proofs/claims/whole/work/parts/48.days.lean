/-! the class's table: days -/
theorem updL_at (f : Nat → Int64) (k : Nat) (x : Int64) (i : Nat) : vp_updL f k x i = if i = k then x else f i := rfl
/-- while day d + 1 is being reckoned: all before (m, c) is done, nothing else has changed -/
def dayI (sl : Nat → Nat) (en : Nat) (wt : Nat → Int64) (C0 B0 C B : Nat → Int64) (d M K m c : Nat) : Prop :=
  (∀ i, (∀ m' c', 0 < m' → m' ≤ M → c' ≤ K → i ≠ (d + 1) * 1573 + m' * 13 + c') → C i = C0 i ∧ B i = B0 i) ∧
  ∀ m' c', 0 < m' → m' ≤ M → c' ≤ K → (m' < m ∨ (m' = m ∧ c' < c)) → (C ((d + 1) * 1573 + m' * 13 + c'), B ((d + 1) * 1573 + m' * 13 + c')) = dpV sl en wt (d + 1) m' c'
theorem dayI.day {sl : Nat → Nat} {en : Nat} {wt : Nat → Int64} {C0 B0 C B : Nat → Int64} {d M K m c : Nat} (hM : M ≤ 120) (hK : K ≤ 12) (h0 : dayOK sl en wt C0 B0 d M K) (h : dayI sl en wt C0 B0 C B d M K m c) : dayOK sl en wt C B d M K := by
  intro a b ha hb
  have := h.1 (d * 1573 + a * 13 + b) (fun m' c' h1 h2 h3 => by omega)
  rw [this.1, this.2]
  exact h0 a b ha hb
theorem dayI.put {sl : Nat → Nat} {en : Nat} {wt : Nat → Int64} {C0 B0 C B : Nat → Int64} {d M K m c : Nat} (hM : M ≤ 120) (hK : K ≤ 12) (hm1 : 0 < m) (hm : m ≤ M) (hc : c ≤ K) (h : dayI sl en wt C0 B0 C B d M K m c) :
    dayI sl en wt C0 B0 (vp_updL C ((d + 1) * 1573 + m * 13 + c) (dpV sl en wt (d + 1) m c).1) (vp_updL B ((d + 1) * 1573 + m * 13 + c) (dpV sl en wt (d + 1) m c).2) d M K m (c + 1) := by
  refine ⟨?_, ?_⟩
  · intro i hi
    have hne : i ≠ (d + 1) * 1573 + m * 13 + c := hi m c hm1 hm hc
    rw [updL_at, updL_at, if_neg hne, if_neg hne]
    exact h.1 i hi
  · intro m' c' h1 h2 h3 h4
    rw [updL_at, updL_at]
    by_cases q : m' = m ∧ c' = c
    · obtain ⟨rfl, rfl⟩ := q
      rw [if_pos rfl, if_pos rfl]
    · have hne : (d + 1) * 1573 + m' * 13 + c' ≠ (d + 1) * 1573 + m * 13 + c := by omega
      rw [if_neg hne, if_neg hne]
      exact h.2 m' c' h1 h2 h3 (by omega)
theorem dayI.next {sl : Nat → Nat} {en : Nat} {wt : Nat → Int64} {C0 B0 C B : Nat → Int64} {d M K m : Nat} (h : dayI sl en wt C0 B0 C B d M K m (K + 1)) : dayI sl en wt C0 B0 C B d M K (m + 1) 0 :=
  ⟨h.1, fun m' c' h1 h2 h3 h4 => h.2 m' c' h1 h2 h3 (by omega)⟩
theorem l_coal {s wts : Nat → Int32} {sl : Nat → Nat} {en : Nat} {wt : Nat → Int64} {C0 B0 : Nat → Int64} {d M K m : Nat} (h0 : dayOK sl en wt C0 B0 d M K) (hs : slO s sl) (hwt : ∀ w, w < 4 → wt w = (wts w).toInt64) (hd : d ≤ 11) (hM : M ≤ 120) (hK : K ≤ 12) (hm1 : 0 < m) (hm : m ≤ M) (he : en ≤ 20) (kh : (Nat → Int64) → (Nat → Int64) → Int32 → Int32 → Option ((Nat → Int64) × (Nat → Int64))) :
    ∀ (r c n : Nat) (C B : Nat → Int64), c + r = K + 1 → r < n → dayI sl en wt C0 B0 C B d M K m c → ∃ C' B', g_X2_reckonDay_12 s wts (nI en) (nI M) (nI K) kh n C B (nI (d + 1)) (nI m) (nI c) = kh C' B' (nI (d + 1)) (nI (m + 1)) ∧ dayI sl en wt C0 B0 C' B' d M K (m + 1) 0 := by
  intro r
  induction r with
  | zero =>
    intro c n C B hc hn hI
    obtain ⟨k, rfl, hk⟩ := succ_of hn
    rw [gs_X2_reckonDay_12]
    unfold f_X2_reckonDay_12
    have e : nI K < nI c := nI_lt (by omega) (by omega)
    have e2 : c = K + 1 := by omega
    subst e2
    rw [if_pos e, nI_1]
    exact ⟨C, B, rfl, hI.next⟩
  | succ r ih =>
    intro c n C B hc hn hI
    obtain ⟨k, rfl, hk⟩ := succ_of hn
    rw [gs_X2_reckonDay_12]
    unfold f_X2_reckonDay_12
    have e : ¬ nI K < nI c := nI_nlt (by omega) (by omega)
    rw [if_neg e, p_place (hI.day hM hK h0) hs hwt hd hM hK hm1 hm (by omega) he]
    simp only [Option.bind_some]
    rw [nI_1]
    exact ih (c + 1) k _ _ (by omega) (by omega) (hI.put hM hK hm1 hm (by omega))
theorem l_miles {s wts : Nat → Int32} {sl : Nat → Nat} {en : Nat} {wt : Nat → Int64} {C0 B0 : Nat → Int64} {d M K : Nat} (h0 : dayOK sl en wt C0 B0 d M K) (hs : slO s sl) (hwt : ∀ w, w < 4 → wt w = (wts w).toInt64) (hd : d ≤ 11) (hM : M ≤ 120) (hK : K ≤ 12) (he : en ≤ 20) :
    ∀ (r m n : Nat) (C B : Nat → Int64), m + r = M + 1 → 0 < m → r < n → dayI sl en wt C0 B0 C B d M K m 0 → ∃ C' B', g_X2_reckonDay_2 s wts (nI en) (nI M) (nI K) n C B (nI (d + 1)) (nI m) = some (C', B') ∧ dayI sl en wt C0 B0 C' B' d M K (M + 1) 0 := by
  intro r
  induction r with
  | zero =>
    intro m n C B hm hm1 hn hI
    obtain ⟨k, rfl, hk⟩ := succ_of hn
    rw [gs_X2_reckonDay_2]
    unfold f_X2_reckonDay_2
    have e : nI M < nI m := nI_lt (by omega) (by omega)
    have e2 : m = M + 1 := by omega
    subst e2
    rw [if_pos e]
    exact ⟨C, B, rfl, hI⟩
  | succ r ih =>
    intro m n C B hm hm1 hn hI
    obtain ⟨k, rfl, hk⟩ := succ_of hn
    rw [gs_X2_reckonDay_2]
    unfold f_X2_reckonDay_2
    have e : ¬ nI M < nI m := nI_nlt (by omega) (by omega)
    rw [if_neg e]
    obtain ⟨C1, B1, h1, h2⟩ := l_coal h0 hs hwt hd hM hK hm1 (by omega) he (fun C B x y => g_X2_reckonDay_2 s wts (nI en) (nI M) (nI K) k C B x y) (K + 1) 0 FU C B (by omega) (FU_gt (by omega)) hI
    have z : (0 : Int32) = nI 0 := rfl
    rw [z, h1]
    exact ih (m + 1) k C1 B1 (by omega) (by omega) (by omega) h2
/-- the whole table as far as D days, M miles, K coal -/
def tabI (sl : Nat → Nat) (en : Nat) (wt : Nat → Int64) (C B : Nat → Int64) (D M K : Nat) : Prop :=
  (∀ d c, d ≤ 12 → c ≤ 12 → C (d * 1573 + c) = p16 d ∧ B (d * 1573 + c) = 0) ∧ (∀ m c, 0 < m → m ≤ 120 → c ≤ 12 → C (m * 13 + c) = 0 ∧ B (m * 13 + c) = 0) ∧ ∀ d, d ≤ D → dayOK sl en wt C B d M K
theorem tab_day0 {C B : Nat → Int64} (sl : Nat → Nat) (en : Nat) (wt : Nat → Int64) {M K : Nat} (h1 : ∀ d c, d ≤ 12 → c ≤ 12 → C (d * 1573 + c) = p16 d ∧ B (d * 1573 + c) = 0) (h2 : ∀ m c, 0 < m → m ≤ 120 → c ≤ 12 → C (m * 13 + c) = 0 ∧ B (m * 13 + c) = 0) (hM : M ≤ 120) (hK : K ≤ 12) : dayOK sl en wt C B 0 M K := by
  intro m c hm hc
  by_cases h : m = 0
  · subst h
    have := h1 0 c (by omega) (by omega)
    have e : 0 * 1573 + 0 * 13 + c = 0 * 1573 + c := by omega
    rw [e, this.1, this.2, dpV_0]
  · have := h2 m c (by omega) (by omega) (by omega)
    have e : 0 * 1573 + m * 13 + c = m * 13 + c := by omega
    rw [e, this.1, this.2]
    show _ = ((if m = 0 then (1 : Int64) else 0), (0 : Int64))
    rw [if_neg h]
theorem tabI.reset {sl sl' : Nat → Nat} {en en' : Nat} {wt wt' : Nat → Int64} {C B : Nat → Int64} {D M K M' K' : Nat} (h : tabI sl en wt C B D M K) (hM : M' ≤ 120) (hK : K' ≤ 12) : tabI sl' en' wt' C B 0 M' K' :=
  ⟨h.1, h.2.1, fun d hd => by have e : d = 0 := by omega
                              subst e
                              exact tab_day0 _ _ _ h.1 h.2.1 hM hK⟩
theorem p_day {s wts : Nat → Int32} {sl : Nat → Nat} {en : Nat} {wt : Nat → Int64} {C B : Nat → Int64} {D M K : Nat} (h : tabI sl en wt C B D M K) (hs : slO s sl) (hwt : ∀ w, w < 4 → wt w = (wts w).toInt64) (hD : D ≤ 11) (hM : M ≤ 120) (hK : K ≤ 12) (he : en ≤ 20) :
    ∃ C' B', f_X2_reckonDay s wts C B (nI en) (nI M) (nI K) (nI (D + 1)) = some (C', B') ∧ tabI sl en wt C' B' (D + 1) M K := by
  unfold f_X2_reckonDay
  have h0 := h.2.2 D (Nat.le_refl D)
  obtain ⟨C', B', h1, h2⟩ := l_miles h0 hs hwt hD hM hK he M 1 FU C B (by omega) (by omega) (FU_gt (by omega)) ⟨fun i _ => ⟨rfl, rfl⟩, fun m' c' a1 a2 a3 a4 => by omega⟩
  refine ⟨C', B', h1, ?_, ?_, ?_⟩
  · intro d c hd hc
    have := h2.1 (d * 1573 + c) (fun m' c' b1 b2 b3 => by omega)
    rw [this.1, this.2]
    exact h.1 d c hd hc
  · intro m c hm hm2 hc
    have := h2.1 (m * 13 + c) (fun m' c' b1 b2 b3 => by omega)
    rw [this.1, this.2]
    exact h.2.1 m c hm hm2 hc
  · intro d hd m c hm hc
    by_cases hdD : d = D + 1
    · subst hdD
      by_cases hm0 : m = 0
      · subst hm0
        have := h2.1 ((D + 1) * 1573 + 0 * 13 + c) (fun m' c' b1 b2 b3 => by omega)
        have e : (D + 1) * 1573 + 0 * 13 + c = (D + 1) * 1573 + c := by omega
        rw [this.1, this.2, e, (h.1 (D + 1) c (by omega) (by omega)).1, (h.1 (D + 1) c (by omega) (by omega)).2, dpV_0]
      · exact h2.2 m c (by omega) hm hc (by omega)
    · have := h2.1 (d * 1573 + m * 13 + c) (fun m' c' b1 b2 b3 => by omega)
      rw [this.1, this.2]
      exact h.2.2 d (by omega) m c hm hc
theorem l_days {s wts : Nat → Int32} {sl : Nat → Nat} {en : Nat} {wt : Nat → Int64} {M K : Nat} (hs : slO s sl) (hwt : ∀ w, w < 4 → wt w = (wts w).toInt64) (hM : M ≤ 120) (hK : K ≤ 12) (he : en ≤ 20) (dd : Nat) (hdd : dd ≤ 12) :
    ∀ (r D n : Nat) (C B : Nat → Int64), dd ≤ D + r → D ≤ 12 → r < n → tabI sl en wt C B D M K → ∃ C' B' D', g_X2_reckon_38 s wts (nI en) n C B (nI D) (nI M) (nI K) (nI dd) = some (C', B', nI D', nI M, nI K) ∧ D ≤ D' ∧ dd ≤ D' ∧ D' ≤ 12 ∧ tabI sl en wt C' B' D' M K := by
  intro r
  induction r with
  | zero =>
    intro D n C B hr hD hn hT
    obtain ⟨k, rfl, hk⟩ := succ_of hn
    rw [gs_X2_reckon_38]
    unfold f_X2_reckon_38
    have e : nI dd ≤ nI D := nI_le (by omega) (by omega)
    rw [if_pos e]
    exact ⟨C, B, D, rfl, Nat.le_refl _, by omega, hD, hT⟩
  | succ r ih =>
    intro D n C B hr hD hn hT
    obtain ⟨k, rfl, hk⟩ := succ_of hn
    rw [gs_X2_reckon_38]
    unfold f_X2_reckon_38
    by_cases h : dd ≤ D
    · have e : nI dd ≤ nI D := nI_le (by omega) (by omega)
      rw [if_pos e]
      exact ⟨C, B, D, rfl, Nat.le_refl _, by omega, hD, hT⟩
    · have e : ¬ nI dd ≤ nI D := nI_ge (by omega) (by omega)
      obtain ⟨C1, B1, h1, h2⟩ := p_day hT hs hwt (by omega) hM hK he
      have e1 : nI D + (1 : Int32) = nI (D + 1) := nI_1 D
      rw [if_neg e, e1, h1]
      simp only [Option.bind_some]
      obtain ⟨C2, B2, D2, q1, q2, q3, q4, q5⟩ := ih (D + 1) k C1 B1 (by omega) (by omega) (by omega) h2
      exact ⟨C2, B2, D2, q1, by omega, q3, q4, q5⟩
theorem p_reckon {s wts : Nat → Int32} {sl : Nat → Nat} {en : Nat} {wt : Nat → Int64} {C B : Nat → Int64} {D M K : Nat} (hT : tabI sl en wt C B D M K) (hs : slO s sl) (hwt : ∀ w, w < 4 → wt w = (wts w).toInt64) (hD : D ≤ 12) (hM : M ≤ 120) (hK : K ≤ 12) (he : en ≤ 20) (m d c : Nat) (hm : m ≤ 120) (hd : d ≤ 12) (hc : c ≤ 12) :
    ∃ C' B' D' M' K', f_X2_reckon s wts C B (nI en) (nI D) (nI M) (nI K) (nI m) (nI d) (nI c) = some (C', B', nI D', nI M', nI K') ∧ D' ≤ 12 ∧ M' ≤ 120 ∧ K' ≤ 12 ∧ m ≤ M' ∧ c ≤ K' ∧ d ≤ D' ∧ tabI sl en wt C' B' D' M' K' := by
  have fresh : ∃ C' B' D' M' K', g_X2_reckon_38 s wts (nI en) FU C B 0 (nI m) (nI c) (nI d) = some (C', B', nI D', nI M', nI K') ∧ D' ≤ 12 ∧ M' ≤ 120 ∧ K' ≤ 12 ∧ m ≤ M' ∧ c ≤ K' ∧ d ≤ D' ∧ tabI sl en wt C' B' D' M' K' := by
    obtain ⟨C1, B1, D1, h1, h2, h3, h4, h5⟩ := l_days hs hwt hm hc he d hd 12 0 FU C B (by omega) (by omega) (FU_gt (by omega)) (hT.reset hm hc)
    exact ⟨C1, B1, D1, m, c, h1, h4, hm, hc, Nat.le_refl _, Nat.le_refl _, h3, h5⟩
  unfold f_X2_reckon f_X2_reckon_23
  by_cases h0 : D = 0
  · subst h0
    have e : nI 0 = (0 : Int32) := rfl
    rw [if_pos e]
    exact fresh
  · have e : ¬ nI D = (0 : Int32) := nI_ne0 (by omega) (by omega)
    rw [if_neg e]
    by_cases h1 : M < m
    · rw [if_pos (nI_lt h1 (by omega))]
      exact fresh
    · rw [if_neg (nI_nlt (by omega) (by omega))]
      by_cases h2 : c ≤ K
      · rw [if_pos (nI_le h2 (by omega))]
        obtain ⟨C1, B1, D1, q1, q2, q3, q4, q5⟩ := l_days hs hwt hM hK he d hd 12 D FU C B (by omega) hD (FU_gt (by omega)) hT
        exact ⟨C1, B1, D1, M, K, q1, q4, hM, hK, by omega, h2, q3, q5⟩
      · rw [if_neg (nI_ge (by omega) (by omega))]
        exact fresh
