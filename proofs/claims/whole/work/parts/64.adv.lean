/-! the reader: from token to token -/
theorem srN_lt (b : Nat) : srN b < 2 ^ 31 := by
  unfold srN
  by_cases c : 97 ≤ b ∧ b ≤ 122
  · rw [if_pos c]; omega
  · rw [if_neg c]
    by_cases c2 : 48 ≤ b ∧ b ≤ 57
    · rw [if_pos c2]; omega
    · rw [if_neg c2]; omega
def tpOK (B : Nat → Int32) (b : Nat → Nat) (N : Nat) : Prop := N ≤ 200 ∧ ∀ j, j < N → B j = nI (b j) ∧ b j ≤ 255
theorem l_243_no (B : Nat → Int32) (N m : Nat) (s t so : Int32) (w : Int64) (h : ¬ so = 2) : g_X9_next_243 B (nI N) (m + 1) s t so w = some (s, t, so, w) := by
  rw [gs_X9_next_243]
  unfold f_X9_next_243
  rw [if_neg h]
theorem FU_1 : FU = 999999 + 1 := rfl
/-- one letter more -/
theorem l_149_s {B : Nat → Int32} {b : Nat → Nat} {N : Nat} (h : tpOK B b N) (m s t : Nat) (hst : s ≤ t) (ht : t < N) (hc : srN (b t) = 1) (hal : ∀ i, s ≤ i → i < t → srN (b i) = 1) : g_X9_next_149 B (nI N) (m + 1) (nI s) (nI t) 1 (wW b s (t - s)) = g_X9_next_149 B (nI N) m (nI s) (nI (t + 1)) 1 (wW b s (t + 1 - s)) := by
  obtain ⟨hN, hB⟩ := h
  obtain ⟨q1, q2⟩ := hB t ht
  rw [gs_X9_next_149]
  unfold f_X9_next_149 f_X9_next_227
  have e : ¬ nI N ≤ nI t := nI_ge (by omega) (by omega)
  have e1 : inb (nI t) 200 = true := inb_t (by omega) (by omega)
  have e2 : (nI t).toNatClampNeg = t := nI_clamp (by omega)
  have e3 : nI t + (1 : Int32) = nI (t + 1) := nI_1 t
  have e4 : nI t - nI s = nI (t - s) := pk_sub hst
  have e5 : ((7 : Int32) ≤ nI (t - s)) ↔ 7 ≤ t - s := nI_leI (a := 7) (by omega) (by omega)
  have z1 : ¬ (1 : Int32) = 0 := by decide
  simp only [e, e1, e2, e3, e4, q1, p_small q2, hc, if_true, if_false, Option.bind_some, z1]
  have ed : t + 1 - s = (t - s) + 1 := by omega
  by_cases c : 7 ≤ t - s
  · rw [if_pos (e5.mpr c)]
    have : wW b s (t + 1 - s) = -1 := by unfold wW; rw [if_neg (by omega)]
    rw [this]
  · rw [if_neg (fun q => c (e5.mp q))]
    have hb := srN_1.mp hc
    have e6 : wW b s (t - s) = lN (cW (fun i => b (s + i) - 96) (t - s)) := by unfold wW; rw [if_pos (by omega)]
    have e7 : wW b s (t + 1 - s) = lN (cW (fun i => b (s + i) - 96) (t - s) * 32 + (b t - 96)) := by
      unfold wW
      rw [if_pos (by omega), ed, cW_s]
      simp only [show s + (t - s) = t by omega]
    rw [e6, e7, nI_l (show b t < 2 ^ 31 by omega)]
    have z32 : (32 : Int64) = lN 32 := rfl
    have z96 : (96 : Int64) = lN 96 := rfl
    rw [z32, z96, lN_mul, lN_add, lN_sub (by omega)]
    rw [show cW (fun i => b (s + i) - 96) (t - s) * 32 + b t - 96 = cW (fun i => b (s + i) - 96) (t - s) * 32 + (b t - 96) by omega]
theorem l_adL {B : Nat → Int32} {b : Nat → Nat} {N : Nat} (h : tpOK B b N) (s : Nat) : ∀ (r t f1 f2 : Nat), t + r = N → s < t → (∀ i, s ≤ i → i < t → srN (b i) = 1) → r < f1 → r < f2 → ∃ e, s < e ∧ e ≤ N ∧ (∀ i, s ≤ i → i < e → srN (b i) = 1) ∧ g_X3_advance_94 B (nI N) f1 (nI s) (nI t) 1 = some (nI s, nI e) ∧ g_X9_next_149 B (nI N) f2 (nI s) (nI t) 1 (wW b s (t - s)) = some (nI s, nI e, 1, wW b s (e - s)) := by
  have hN := h.1
  have z1 : ¬ (1 : Int32) = 0 := by decide
  have z2 : ¬ (1 : Int32) = 2 := by decide
  intro r
  induction r with
  | zero =>
    intro t f1 f2 ht hst hal h1 h2
    obtain ⟨m1, rfl, hm1⟩ := succ_of h1
    obtain ⟨m2, rfl, hm2⟩ := succ_of h2
    refine ⟨t, hst, by omega, hal, ?_, ?_⟩
    · rw [gs_X3_advance_94]
      unfold f_X3_advance_94
      have e : nI N ≤ nI t := nI_le (by omega) (by omega)
      rw [if_neg z1, if_pos e]
    · rw [gs_X9_next_149]
      unfold f_X9_next_149
      have e : nI N ≤ nI t := nI_le (by omega) (by omega)
      rw [if_pos rfl, if_pos e, FU_1, l_243_no _ _ _ _ _ _ _ z2]
  | succ r ih =>
    intro t f1 f2 ht hst hal h1 h2
    obtain ⟨m1, rfl, hm1⟩ := succ_of h1
    obtain ⟨m2, rfl, hm2⟩ := succ_of h2
    obtain ⟨q1, q2⟩ := h.2 t (by omega)
    have e : ¬ nI N ≤ nI t := nI_ge (by omega) (by omega)
    have e1 : inb (nI t) 200 = true := inb_t (by omega) (by omega)
    have e2 : (nI t).toNatClampNeg = t := nI_clamp (by omega)
    have e3 : nI t + (1 : Int32) = nI (t + 1) := nI_1 t
    by_cases c : srN (b t) = 1
    · rw [l_149_s h m2 s t (by omega) (by omega) c hal]
      rw [gs_X3_advance_94]
      unfold f_X3_advance_94
      simp only [z1, e, e1, e2, e3, q1, p_sort q2, c, if_true, if_false, Option.bind_some]
      have zz : nI 1 = (1 : Int32) := rfl
      simp only [zz, if_true]
      refine ih (t + 1) m1 m2 (by omega) (by omega) ?_ (by omega) (by omega)
      intro i h3 h4
      by_cases q : i = t
      · subst q; exact c
      · exact hal i h3 (by omega)
    · refine ⟨t, hst, by omega, hal, ?_, ?_⟩
      · rw [gs_X3_advance_94]
        unfold f_X3_advance_94
        simp only [z1, e, e1, e2, q1, p_sort q2, if_true, if_false, Option.bind_some]
        have : ¬ nI (srN (b t)) = (1 : Int32) := fun q => c ((nI_eq (b := 1) (srN_lt _) (by omega)).mp q)
        rw [if_neg this]
      · rw [gs_X9_next_149]
        unfold f_X9_next_149
        simp only [e, e1, e2, q1, p_small q2, c, if_true, if_false, Option.bind_some]
        rw [FU_1, l_243_no _ _ _ _ _ _ _ z2]
theorem l_243_s {B : Nat → Int32} {b : Nat → Nat} {N : Nat} (h : tpOK B b N) (m s t : Nat) (hst : s ≤ t) (ht : t < N) (hc : srN (b t) = 2) (hal : ∀ i, s ≤ i → i < t → srN (b i) = 2) : g_X9_next_243 B (nI N) (m + 1) (nI s) (nI t) 2 (lN (nW b s (t - s))) = g_X9_next_243 B (nI N) m (nI s) (nI (t + 1)) 2 (lN (nW b s (t + 1 - s))) := by
  obtain ⟨hN, hB⟩ := h
  obtain ⟨q1, q2⟩ := hB t ht
  rw [gs_X9_next_243]
  unfold f_X9_next_243 f_X9_next_319
  have e : ¬ nI N ≤ nI t := nI_ge (by omega) (by omega)
  have e1 : inb (nI t) 200 = true := inb_t (by omega) (by omega)
  have e2 : (nI t).toNatClampNeg = t := nI_clamp (by omega)
  have e3 : nI t + (1 : Int32) = nI (t + 1) := nI_1 t
  have z1 : ¬ (1 : Int32) = 0 := by decide
  have hd := srN_2.mp hc
  have hle := nW_le (b := b) (s := s) (t - s) (fun i hi => (srN_2.mp (hal (s + i) (by omega) (by omega))).2)
  have e5 : (lN (nW b s (t - s)) ≤ (10000 : Int64)) ↔ nW b s (t - s) ≤ 10000 := lN_le (b := 10000) (by omega) (by omega)
  simp only [e, e1, e2, e3, q1, p_digit q2, hc, if_true, if_false, Option.bind_some, z1]
  have ed : t + 1 - s = (t - s) + 1 := by omega
  rw [ed, nW_s, show s + (t - s) = t by omega]
  by_cases c : nW b s (t - s) ≤ 10000
  · rw [if_pos (e5.mpr c), if_pos c, nI_l (show b t < 2 ^ 31 by omega)]
    have z10 : (10 : Int64) = lN 10 := rfl
    have z48 : (48 : Int64) = lN 48 := rfl
    rw [z10, z48, lN_mul, lN_add, lN_sub (by omega), show nW b s (t - s) * 10 + b t - 48 = nW b s (t - s) * 10 + (b t - 48) by omega]
  · rw [if_neg (fun q => c (e5.mp q)), if_neg c]
theorem l_adD {B : Nat → Int32} {b : Nat → Nat} {N : Nat} (h : tpOK B b N) (s : Nat) : ∀ (r t f1 f2 : Nat), t + r = N → s < t → (∀ i, s ≤ i → i < t → srN (b i) = 2) → r < f1 → r < f2 → ∃ e, s < e ∧ e ≤ N ∧ (∀ i, s ≤ i → i < e → srN (b i) = 2) ∧ g_X3_advance_94 B (nI N) f1 (nI s) (nI t) 2 = some (nI s, nI e) ∧ g_X9_next_243 B (nI N) f2 (nI s) (nI t) 2 (lN (nW b s (t - s))) = some (nI s, nI e, 2, lN (nW b s (e - s))) := by
  have hN := h.1
  have z1 : ¬ (2 : Int32) = 0 := by decide
  intro r
  induction r with
  | zero =>
    intro t f1 f2 ht hst hal h1 h2
    obtain ⟨m1, rfl, hm1⟩ := succ_of h1
    obtain ⟨m2, rfl, hm2⟩ := succ_of h2
    refine ⟨t, hst, by omega, hal, ?_, ?_⟩
    · rw [gs_X3_advance_94]
      unfold f_X3_advance_94
      have e : nI N ≤ nI t := nI_le (by omega) (by omega)
      rw [if_neg z1, if_pos e]
    · rw [gs_X9_next_243]
      unfold f_X9_next_243
      have e : nI N ≤ nI t := nI_le (by omega) (by omega)
      rw [if_pos rfl, if_pos e]
  | succ r ih =>
    intro t f1 f2 ht hst hal h1 h2
    obtain ⟨m1, rfl, hm1⟩ := succ_of h1
    obtain ⟨m2, rfl, hm2⟩ := succ_of h2
    obtain ⟨q1, q2⟩ := h.2 t (by omega)
    have e : ¬ nI N ≤ nI t := nI_ge (by omega) (by omega)
    have e1 : inb (nI t) 200 = true := inb_t (by omega) (by omega)
    have e2 : (nI t).toNatClampNeg = t := nI_clamp (by omega)
    have e3 : nI t + (1 : Int32) = nI (t + 1) := nI_1 t
    by_cases c : srN (b t) = 2
    · rw [l_243_s h m2 s t (by omega) (by omega) c hal]
      rw [gs_X3_advance_94]
      unfold f_X3_advance_94
      simp only [z1, e, e1, e2, e3, q1, p_sort q2, c, if_true, if_false, Option.bind_some]
      have zz : nI 2 = (2 : Int32) := rfl
      simp only [zz, if_true]
      refine ih (t + 1) m1 m2 (by omega) (by omega) ?_ (by omega) (by omega)
      intro i h3 h4
      by_cases q : i = t
      · subst q; exact c
      · exact hal i h3 (by omega)
    · refine ⟨t, hst, by omega, hal, ?_, ?_⟩
      · rw [gs_X3_advance_94]
        unfold f_X3_advance_94
        simp only [z1, e, e1, e2, q1, p_sort q2, if_true, if_false, Option.bind_some]
        have : ¬ nI (srN (b t)) = (2 : Int32) := fun q => c ((nI_eq (b := 2) (srN_lt _) (by omega)).mp q)
        rw [if_neg this]
      · rw [gs_X9_next_243]
        unfold f_X9_next_243
        simp only [e, e1, e2, q1, p_digit q2, c, if_true, if_false, Option.bind_some]
/-- at the token's first place -/
theorem l_at {B : Nat → Int32} {b : Nat → Nat} {N : Nat} (h : tpOK B b N) (s : Nat) (hs : s ≤ N) (te to so : Int32) (wo : Int64) : ∃ e so' wo', Tok b N s e so' wo' ∧ f_X3_advance_52 B (nI N) (nI s) te = some (nI s, nI e) ∧ f_X9_next_46 B (nI N) (nI s) to so wo = some (nI s, nI e, so', wo') := by
  have hN := h.1
  unfold f_X3_advance_52 f_X3_isAtEnd f_X9_next_46
  have z01 : ¬ (0 : Int32) = 1 := by decide
  have z02 : ¬ (0 : Int32) = 2 := by decide
  have z03 : ¬ (0 : Int32) = 3 := by decide
  have z13 : ¬ (1 : Int32) = 3 := by decide
  have z21 : ¬ (2 : Int32) = 1 := by decide
  have z23 : ¬ (2 : Int32) = 3 := by decide
  have z31 : ¬ (3 : Int32) = 1 := by decide
  have z32 : ¬ (3 : Int32) = 2 := by decide
  have z10 : ¬ (1 : Int32) = 0 := by decide
  by_cases c0 : s = N
  · subst c0
    have e1 : ¬ nI s < nI s := fun q => by have := (nI_ltI (a := s) (b := s) (by omega) (by omega)).mp q; omega
    refine ⟨s, 0, 0, ⟨Nat.le_refl _, Nat.le_refl _, Or.inl ⟨rfl, rfl⟩⟩, ?_, ?_⟩
    · rw [if_neg e1, Option.bind_some, if_neg z10]
    · rw [if_pos rfl]
      unfold f_X9_next_114
      rw [if_neg z03, FU_1, gs_X9_next_149]
      unfold f_X9_next_149
      rw [if_neg z01, FU_1, l_243_no _ _ _ _ _ _ _ z02]
  · have hsN : s < N := by omega
    obtain ⟨q1, q2⟩ := h.2 s hsN
    have e0 : ¬ nI s = nI N := fun q => c0 ((nI_eq (by omega) (by omega)).mp q)
    have e1 : nI s < nI N := nI_lt (by omega) (by omega)
    have e2 : inb (nI s) 200 = true := inb_t (by omega) (by omega)
    have e3 : (nI s).toNatClampNeg = s := nI_clamp (by omega)
    have e4 : nI s + (1 : Int32) = nI (s + 1) := nI_1 s
    simp only [e0, e1, e2, e3, e4, q1, p_sort q2, p_small q2, p_digit q2, if_true, if_false, Option.bind_some]
    by_cases c1 : srN (b s) = 1
    · have hone : ∀ i, s ≤ i → i < s + 1 → srN (b i) = 1 := fun i h1 h2 => by rw [show i = s by omega]; exact c1
      obtain ⟨e, g1, g2, g3, g4, g5⟩ := l_adL h s (N - (s + 1)) (s + 1) FU 999999 (by omega) (by omega) hone (FU_gt (by omega)) (by omega)
      refine ⟨e, 1, wW b s (e - s), ⟨by omega, g2, Or.inr (Or.inr (Or.inr ⟨g1, rfl, g3, rfl⟩))⟩, ?_, ?_⟩
      · rw [c1]; exact g4
      · simp only [c1, if_true, z10, if_false]
        unfold f_X9_next_114
        rw [if_neg z13, FU_1]
        have w0 : (0 : Int64) = wW b s (s - s) := by
          unfold wW
          rw [Nat.sub_self, if_pos (by omega)]
          rfl
        rw [w0, l_149_s h 999999 s s (Nat.le_refl _) hsN c1 (fun i h1 h2 => by omega)]
        exact g5
    · by_cases c2 : srN (b s) = 2
      · have hone : ∀ i, s ≤ i → i < s + 1 → srN (b i) = 2 := fun i h1 h2 => by rw [show i = s by omega]; exact c2
        obtain ⟨e, g1, g2, g3, g4, g5⟩ := l_adD h s (N - (s + 1)) (s + 1) FU 999999 (by omega) (by omega) hone (FU_gt (by omega)) (by omega)
        refine ⟨e, 2, lN (nW b s (e - s)), ⟨by omega, g2, Or.inr (Or.inr (Or.inl ⟨g1, rfl, g3, rfl⟩))⟩, ?_, ?_⟩
        · rw [c2]; exact g4
        · simp only [c1, c2, if_true, z10, if_false]
          have z211 : ¬ (2 : Nat) = 1 := by decide
          simp only [z211, if_false, if_true]
          unfold f_X9_next_114
          rw [if_neg z23, FU_1, gs_X9_next_149]
          unfold f_X9_next_149
          rw [if_neg z21, FU_1]
          have w0 : (0 : Int64) = lN (nW b s (s - s)) := by
            rw [Nat.sub_self]
            rfl
          rw [w0, l_243_s h 999999 s s (Nat.le_refl _) hsN c2 (fun i h1 h2 => by omega)]
          exact g5
      · have c3 : srN (b s) = 0 := by
          have h1 : ¬ (97 ≤ b s ∧ b s ≤ 122) := fun q => c1 (srN_1.mpr q)
          have h2 : ¬ (48 ≤ b s ∧ b s ≤ 57) := fun q => c2 (srN_2.mpr q)
          unfold srN
          rw [if_neg h1, if_neg h2]
        refine ⟨s + 1, 3, lN (b s), ⟨by omega, by omega, Or.inr (Or.inl ⟨hsN, rfl, rfl, rfl, c3⟩)⟩, ?_, ?_⟩
        · rw [c3, FU_1, gs_X3_advance_94]
          unfold f_X3_advance_94
          rw [if_pos (show nI 0 = (0 : Int32) from rfl)]
        · simp only [c1, c2, if_true, z10, if_false]
          unfold f_X9_next_114
          rw [if_pos rfl, e2, if_pos rfl, e3, e4, q1, nI_l (show b s < 2 ^ 31 by omega), FU_1, gs_X9_next_149]
          unfold f_X9_next_149
          rw [if_neg z31, FU_1, l_243_no _ _ _ _ _ _ _ z32]
theorem l_skip {B : Nat → Int32} {b : Nat → Nat} {N : Nat} (h : tpOK B b N) (te to so : Int32) (wo : Int64) : ∀ (r p f1 f2 : Nat), p + r = N → r < f1 → r < f2 → ∃ s e so' wo', Tok b N s e so' wo' ∧ g_X3_advance_8 B (nI N) f1 (nI p) te = some (nI s, nI e) ∧ g_X9_next_8 B (nI N) f2 (nI p) to so wo = some (nI s, nI e, so', wo') := by
  have hN := h.1
  intro r
  induction r with
  | zero =>
    intro p f1 f2 hp h1 h2
    obtain ⟨m1, rfl, hm1⟩ := succ_of h1
    obtain ⟨m2, rfl, hm2⟩ := succ_of h2
    rw [gs_X3_advance_8, gs_X9_next_8]
    unfold f_X3_advance_8 f_X9_next_8
    have e : nI N ≤ nI p := nI_le (by omega) (by omega)
    rw [if_pos e, if_pos e]
    exact ⟨p, l_at h p (by omega) te to so wo⟩
  | succ r ih =>
    intro p f1 f2 hp h1 h2
    obtain ⟨m1, rfl, hm1⟩ := succ_of h1
    obtain ⟨m2, rfl, hm2⟩ := succ_of h2
    rw [gs_X3_advance_8, gs_X9_next_8]
    unfold f_X3_advance_8 f_X9_next_8
    have e : ¬ nI N ≤ nI p := nI_ge (by omega) (by omega)
    have e1 : inb (nI p) 200 = true := inb_t (by omega) (by omega)
    have e2 : (nI p).toNatClampNeg = p := nI_clamp (by omega)
    have e3 : nI p + (1 : Int32) = nI (p + 1) := nI_1 p
    simp only [e, e1, e2, e3, if_true, if_false]
    by_cases c : B p = 32
    · rw [if_pos c, if_pos c]
      exact ih (p + 1) m1 m2 (by omega) (by omega) (by omega)
    · rw [if_neg c, if_neg c]
      exact ⟨p, l_at h p (by omega) te to so wo⟩
theorem p_adv {B : Nat → Int32} {b : Nat → Nat} {N : Nat} (h : tpOK B b N) (p : Nat) (hp : p ≤ N) (ts fr so : Int32) (wo : Int64) : ∃ s e so' wo', Tok b N s e so' wo' ∧ f_X3_advance ts (nI p) B (nI N) = some (nI s, nI e) ∧ f_X9_next B (nI N) fr (nI p) so wo = some (nI s, nI e, so', wo') := by
  have hN := h.1
  exact l_skip h (nI p) (nI p) so wo (N - p) p FU FU (by omega) (FU_gt (by omega)) (FU_gt (by omega))
