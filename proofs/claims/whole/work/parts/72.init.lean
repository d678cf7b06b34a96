/-! both sides as they begin -/
theorem l_init0 (p b f l g : Nat → Int32) (t h : Int32) : ∀ (r j n : Nat), j + r = 6 → r < n → g_X0_init_54 n (fa_fill (fun _ => (1 : Int32)) (fun _ => (0 : Int32)) j) p b f l g t h (nI j) = some (fa_fill (fun _ => (1 : Int32)) (fun _ => (0 : Int32)) 6, p, b, f, l, g, t, h) := by
  intro r
  induction r with
  | zero =>
    intro j n hj hn
    obtain ⟨m, rfl, hm⟩ := succ_of hn
    rw [gs_X0_init_54]
    unfold f_X0_init_54
    have hj6 : j = 6 := by omega
    subst hj6
    rw [if_pos (by decide)]
  | succ r ih =>
    intro j n hj hn
    obtain ⟨m, rfl, hm⟩ := succ_of hn
    rw [gs_X0_init_54]
    unfold f_X0_init_54
    have e0 : ¬ (6 : Int32) ≤ nI j := by
      have q : ¬ nI 6 ≤ nI j := nI_ge (by omega) (by omega)
      exact q
    have e1 : nI j + 1 = nI (j + 1) := nI_1 j
    have e2 : upd (fa_fill (fun _ => (1 : Int32)) (fun _ => (0 : Int32)) j) j 1 = fa_fill (fun _ => (1 : Int32)) (fun _ => (0 : Int32)) (j + 1) := fa_fill_succ _ _ j
    rw [if_neg e0, inb_t (show j < 6 by omega) (by omega), if_pos rfl, nI_clamp (by omega), e1, e2]
    exact ih (j + 1) m (by omega) (by omega)
theorem l_init6 (s f : Nat → Int32) (g : Int32) : ∀ (r j n : Nat), j + r = 12 → r < n → g_X6_init_35 n s f (fa_fill (fun _ => (-1 : Int32)) (fun _ => (0 : Int32)) j) g (nI j) = some (s, f, fa_fill (fun _ => (-1 : Int32)) (fun _ => (0 : Int32)) 12, g) := by
  intro r
  induction r with
  | zero =>
    intro j n hj hn
    obtain ⟨m, rfl, hm⟩ := succ_of hn
    rw [gs_X6_init_35]
    unfold f_X6_init_35
    have hj6 : j = 12 := by omega
    subst hj6
    rw [if_pos (by decide)]
  | succ r ih =>
    intro j n hj hn
    obtain ⟨m, rfl, hm⟩ := succ_of hn
    rw [gs_X6_init_35]
    unfold f_X6_init_35
    have e0 : ¬ (12 : Int32) ≤ nI j := by
      have q : ¬ nI 12 ≤ nI j := nI_ge (by omega) (by omega)
      exact q
    have e1 : nI j + 1 = nI (j + 1) := nI_1 j
    have e2 : upd (fa_fill (fun _ => (-1 : Int32)) (fun _ => (0 : Int32)) j) j (-1) = fa_fill (fun _ => (-1 : Int32)) (fun _ => (0 : Int32)) (j + 1) := fa_fill_succ _ _ j
    rw [if_neg e0, inb_t (show j < 12 by omega) (by omega), if_pos rfl, nI_clamp (by omega), e1, e2]
    exact ih (j + 1) m (by omega) (by omega)
def c0 (d c : Nat) : Nat → Int64 := fun i => if i % 1573 ≤ 12 ∧ (i / 1573 < d ∨ (i / 1573 = d ∧ i % 1573 < c)) then p16 (i / 1573) else 0
theorem c0_upd {d c : Nat} (hc : c ≤ 12) : vp_updL (c0 d c) (d * 1573 + 0 * 13 + c) (p16 d) = c0 d (c + 1) := by
  funext i
  have h1 : (d * 1573 + 0 * 13 + c) / 1573 = d := by omega
  have h2 : (d * 1573 + 0 * 13 + c) % 1573 = c := by omega
  by_cases q : i = d * 1573 + 0 * 13 + c
  · subst q
    rw [pk_uLs]
    unfold c0
    rw [h1, h2, if_pos ⟨hc, Or.inr ⟨rfl, by omega⟩⟩]
  · rw [pk_uLn q]
    unfold c0
    by_cases z : i % 1573 ≤ 12 ∧ (i / 1573 < d ∨ (i / 1573 = d ∧ i % 1573 < c))
    · rw [if_pos z, if_pos (by omega)]
    · rw [if_neg z, if_neg (by omega)]
theorem c0_row (d : Nat) : c0 d 13 = c0 (d + 1) 0 := by
  funext i
  unfold c0
  by_cases z : i % 1573 ≤ 12 ∧ (i / 1573 < d ∨ (i / 1573 = d ∧ i % 1573 < 13))
  · rw [if_pos z, if_pos (by omega)]
  · rw [if_neg z, if_neg (by omega)]
theorem c0_0 : c0 0 0 = fun _ => (0 : Int64) := by
  funext i
  unfold c0
  rw [if_neg (by omega)]
theorem l_i46 (kh : (Nat → Int32) → (Nat → Int32) → (Nat → Int64) → (Nat → Int64) → (Int32) → (Int32) → (Int32) → (Int32) → Int32 → Option ((Nat → Int32) × (Nat → Int32) × (Nat → Int64) × (Nat → Int64) × (Int32) × (Int32) × (Int32) × (Int32))) (s w : Nat → Int32) (B : Nat → Int64) (e dr mr cr : Int32) (d : Nat) (hd : d ≤ 12) : ∀ (r c n : Nat), c + r = 13 → r < n → g_X2_init_46 kh n s w (c0 d c) B e dr mr cr (nI d) (nI c) = kh s w (c0 (d + 1) 0) B e dr mr cr (nI (d + 1)) := by
  intro r
  induction r with
  | zero =>
    intro c n hc hn
    obtain ⟨m, rfl, hm⟩ := succ_of hn
    rw [gs_X2_init_46]
    unfold f_X2_init_46
    have hc13 : c = 13 := by omega
    subst hc13
    have e1 : nI d + 1 = nI (d + 1) := nI_1 d
    rw [if_pos (by decide), e1, c0_row]
  | succ r ih =>
    intro c n hc hn
    obtain ⟨m, rfl, hm⟩ := succ_of hn
    rw [gs_X2_init_46]
    unfold f_X2_init_46
    have e0 : ¬ (12 : Int32) < nI c := fun q => by have := (nI_ltI (a := 12) (b := c) (by omega) (by omega)).mp q; omega
    have e1 : nI c + 1 = nI (c + 1) := nI_1 c
    have A : f_X2_at (nI d) (0 : Int32) (nI c) = some (nI (d * 1573 + 0 * 13 + c)) := p_at d 0 c
    rw [if_neg e0, A]
    simp only [Option.bind_some]
    rw [p_parts hd]
    simp only [Option.bind_some]
    rw [inb_t (show d * 1573 + 0 * 13 + c < 20449 by omega) (by omega), if_pos rfl, nI_clamp (by omega), c0_upd (by omega), e1]
    exact ih (c + 1) m (by omega) (by omega)
theorem l_i38 (s w : Nat → Int32) (B : Nat → Int64) (e dr mr cr : Int32) : ∀ (r d n : Nat), d + r = 13 → r < n → g_X2_init_38 n s w (c0 d 0) B e dr mr cr (nI d) = some (s, w, c0 13 0, B, e, dr, mr, cr) := by
  intro r
  induction r with
  | zero =>
    intro d n hd hn
    obtain ⟨m, rfl, hm⟩ := succ_of hn
    rw [gs_X2_init_38]
    unfold f_X2_init_38
    have hd13 : d = 13 := by omega
    subst hd13
    rw [if_pos (by decide)]
  | succ r ih =>
    intro d n hd hn
    obtain ⟨m, rfl, hm⟩ := succ_of hn
    rw [gs_X2_init_38]
    unfold f_X2_init_38
    have e0 : ¬ (12 : Int32) < nI d := fun q => by have := (nI_ltI (a := 12) (b := d) (by omega) (by omega)).mp q; omega
    rw [if_neg e0]
    have L := l_i46 (fun a1 a2 a3 a4 a5 a6 a7 a8 a9 => g_X2_init_38 m a1 a2 a3 a4 a5 a6 a7 a8 a9) s w B e dr mr cr d (by omega) 13 0 FU (by omega) (FU_gt (by omega))
    have z : nI 0 = (0 : Int32) := rfl
    rw [z] at L
    rw [L]
    exact ih (d + 1) m (by omega) (by omega)
theorem init_0 : f_X0_init = some (fa_fill (fun _ => (1 : Int32)) (fun _ => (0 : Int32)) 6, (fun _ => (0 : Int32)), (fun _ => (0 : Int32)), (fun _ => (0 : Int32)), (fun _ => (0 : Int32)), (fun _ => (0 : Int32)), (0 : Int32), (0 : Int32)) := by
  unfold f_X0_init
  have := l_init0 (fun _ => (0 : Int32)) (fun _ => (0 : Int32)) (fun _ => (0 : Int32)) (fun _ => (0 : Int32)) (fun _ => (0 : Int32)) 0 0 6 0 FU (by omega) (FU_gt (by omega))
  rw [fa_fill_0] at this
  exact this
theorem init_6 : f_X6_init = some ((fun _ => (0 : Int32)), (fun _ => (0 : Int32)), fa_fill (fun _ => (-1 : Int32)) (fun _ => (0 : Int32)) 12, (0 : Int32)) := by
  unfold f_X6_init
  have := l_init6 (fun _ => (0 : Int32)) (fun _ => (0 : Int32)) 0 12 0 FU (by omega) (FU_gt (by omega))
  rw [fa_fill_0] at this
  exact this
theorem init_2 : f_X2_init = some ((fun _ => (0 : Int32)), (fun _ => (0 : Int32)), c0 13 0, (fun _ => (0 : Int64)), (0 : Int32), (0 : Int32), (0 : Int32), (0 : Int32)) := by
  unfold f_X2_init
  have := l_i38 (fun _ => (0 : Int32)) (fun _ => (0 : Int32)) (fun _ => (0 : Int64)) 0 0 0 0 13 0 FU (by omega) (FU_gt (by omega))
  rw [c0_0] at this
  exact this
theorem init_PI : PI (fun _ => (0 : Int32)) (fun _ => (0 : Int32)) (c0 13 0) (fun _ => (0 : Int64)) 0 0 0 0 := by
  have h1 : ∀ d c, d ≤ 12 → c ≤ 12 → c0 13 0 (d * 1573 + c) = p16 d ∧ (fun _ => (0 : Int64)) (d * 1573 + c) = 0 := by
    intro d c hd hc
    have q1 : (d * 1573 + c) / 1573 = d := by omega
    have q2 : (d * 1573 + c) % 1573 = c := by omega
    refine ⟨?_, rfl⟩
    unfold c0
    rw [q1, q2, if_pos ⟨hc, Or.inl (by omega)⟩]
  have h2 : ∀ m c, 0 < m → m ≤ 120 → c ≤ 12 → c0 13 0 (m * 13 + c) = 0 ∧ (fun _ => (0 : Int64)) (m * 13 + c) = 0 := by
    intro m c hm hm2 hc
    refine ⟨?_, rfl⟩
    unfold c0
    rw [if_neg (by omega)]
  refine ⟨fun _ => 0, 0, 0, 0, 0, fun w _ => ⟨rfl, Nat.zero_le _⟩, rfl, by omega, rfl, rfl, rfl, by omega, by omega, by omega, h1, h2, ?_⟩
  intro d hd
  have hd0 : d = 0 := by omega
  subst hd0
  exact tab_day0 _ _ _ h1 h2 (by omega) (by omega)
