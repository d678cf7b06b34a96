/-! steps without loops -/
theorem lt_lit {k n : Nat} (hk : k < 2 ^ 31) (hn : n < 2 ^ 31) : (nI k < nI n) = (k < n) := propext (nI_ltI hk hn)
theorem le_lit {k n : Nat} (hk : k < 2 ^ 31) (hn : n < 2 ^ 31) : (nI k ≤ nI n) = (k ≤ n) := propext (nI_leI hk hn)
theorem eq_lit {k n : Nat} (hk : k < 2 ^ 31) (hn : n < 2 ^ 31) : (nI k = nI n) = (k = n) := propext (nI_eq hk hn)
theorem sx_load (rb th st : Int32) (k : Nat) (hk : k ≤ 12) (t w : Nat → Int32) (hb : ∀ j, j < k → wi (t j) 1 200 ∧ wi (w j) 0 10000) (a b : Int32) :
    ∃ X Y, f_X8_load rb t w (nI k) a b = some X ∧ f_X9_load th st (nI k) t w a b = some Y ∧ X.1 = Y.1 ∧ X.2.1 = Y.2.2.1 ∧ X.2.2.1 = Y.2.2.2.2.1 ∧ X.2.2.2.1 = Y.2.2.2.2.2 ∧ X.2.2.2.2 = Y.2.2.2.1 ∧ ∃ k' : Nat, k ≤ k' ∧ k' ≤ 12 ∧ X.2.2.2.2 = nI k' ∧ ∀ j, j < k' → wi (X.2.2.1 j) 1 200 ∧ wi (X.2.2.2.1 j) 0 10000 := by
  unfold f_X8_load f_X1_add f_X9_load f_X9_load_29
  simp only [p_iw, p_in32, p_ans, p_told, Option.bind_some, if01b, if01, t32_0, t64_0, t32_1, t64_1, t32_2, t64_2, t32_3, t64_3, t32_5, t64_5, t32_12, t64_12, t32_16, t64_16, t32_20, t64_20, t32_30, t64_30, t32_120, t64_120, t32_200, t64_200, t32_400, t64_400, t32_1000, t64_1000, t32_10000, t64_10000, t32_100000, t64_100000, t32_1000000, t64_1000000]
  rcases Bool.eq_false_or_eq_true (wi a 1 200) with h1 | h1
  · skip
    rcases Bool.eq_false_or_eq_true (wi b 0 10000) with h2 | h2
    · skip
      simp only [h1, h2, reduceCtorEq, if_false]
      by_cases h3 : k = 12
      · subst h3
        have e1 : ¬ (nI 12 < (12 : Int32)) := by decide
        have e2 : nI 12 = (12 : Int32) := rfl
        simp only [e1, e2, if_false, if_true, Option.bind_some]
        exact ⟨_, _, rfl, rfl, rfl, rfl, rfl, rfl, rfl, 12, Nat.le_refl _, Nat.le_refl _, rfl, hb⟩
      · have e1 : nI k < (12 : Int32) := nI_lt (a := k) (b := 12) (by omega) (by omega)
        have e2 : ¬ (nI k = (12 : Int32)) := fun q => h3 ((nI_eq (a := k) (b := 12) (by omega) (by omega)).mp q)
        have e3 : inb (nI k) 12 = true := inb_t (by omega) (by omega)
        have e4 : (nI k).toNatClampNeg = k := nI_clamp (by omega)
        have e5 : nI k + (1 : Int32) = nI (k + 1) := nI_1 k
        have e6 : nI (k + 1) - (1 : Int32) = nI k := nI_pred k
        simp only [e1, e2, e3, e4, e5, e6, if_false, if_true, Option.bind_some]
        refine ⟨_, _, rfl, rfl, rfl, rfl, rfl, rfl, rfl, k + 1, by omega, by omega, rfl, ?_⟩
        intro j hj
        by_cases hjk : j = k
        · subst hjk; simp only [upd, if_true]; exact ⟨h1, h2⟩
        · simp only [upd, hjk, if_false]; exact hb j (by omega)
    · skip
      simp only [h1, h2, reduceCtorEq, if_false, if_true, Option.bind_some]
      exact ⟨_, _, rfl, rfl, rfl, rfl, rfl, rfl, rfl, k, Nat.le_refl _, hk, rfl, hb⟩
  · skip
    simp only [h1, reduceCtorEq, if_true, Option.bind_some]
    exact ⟨_, _, rfl, rfl, rfl, rfl, rfl, rfl, rfl, k, Nat.le_refl _, hk, rfl, hb⟩
theorem sx_leg (rb th st : Int32) (k : Nat) (hk : k ≤ 10) (t : Nat → Int32) (hb : ∀ j, j < k → wi (t j) 0 100000) (a : Int32) :
    ∃ X Y, f_X8_leg rb t (nI k) a = some X ∧ f_X9_leg th st (nI k) t a = some Y ∧ X.1 = Y.1 ∧ X.2.1 = Y.2.2.1 ∧ X.2.2.1 = Y.2.2.2.2 ∧ X.2.2.2 = Y.2.2.2.1 ∧ ∃ k' : Nat, k ≤ k' ∧ k' ≤ 10 ∧ X.2.2.2 = nI k' ∧ ∀ j, j < k' → wi (X.2.2.1 j) 0 100000 := by
  unfold f_X8_leg f_X6_add f_X9_leg
  simp only [p_iw, p_in32, p_ans, p_told, Option.bind_some, if01b, if01, t32_0, t64_0, t32_1, t64_1, t32_2, t64_2, t32_3, t64_3, t32_5, t64_5, t32_12, t64_12, t32_16, t64_16, t32_20, t64_20, t32_30, t64_30, t32_120, t64_120, t32_200, t64_200, t32_400, t64_400, t32_1000, t64_1000, t32_10000, t64_10000, t32_100000, t64_100000, t32_1000000, t64_1000000]
  rcases Bool.eq_false_or_eq_true (wi a 0 100000) with h1 | h1
  · skip
    simp only [h1, reduceCtorEq, if_false]
    by_cases h3 : k = 10
    · subst h3
      have e1 : ¬ (nI 10 < (10 : Int32)) := by decide
      have e2 : nI 10 = (10 : Int32) := rfl
      simp only [e1, e2, if_false, if_true, Option.bind_some]
      exact ⟨_, _, rfl, rfl, rfl, rfl, rfl, rfl, 10, Nat.le_refl _, Nat.le_refl _, rfl, hb⟩
    · have e1 : nI k < (10 : Int32) := nI_lt (a := k) (b := 10) (by omega) (by omega)
      have e2 : ¬ (nI k = (10 : Int32)) := fun q => h3 ((nI_eq (a := k) (b := 10) (by omega) (by omega)).mp q)
      have e3 : inb (nI k) 10 = true := inb_t (by omega) (by omega)
      have e4 : (nI k).toNatClampNeg = k := nI_clamp (by omega)
      have e5 : nI k + (1 : Int32) = nI (k + 1) := nI_1 k
      have e6 : nI (k + 1) - (1 : Int32) = nI k := nI_pred k
      simp only [e1, e2, e3, e4, e5, e6, if_false, if_true, Option.bind_some]
      refine ⟨_, _, rfl, rfl, rfl, rfl, rfl, rfl, k + 1, by omega, by omega, rfl, ?_⟩
      intro j hj
      by_cases hjk : j = k
      · subst hjk; simp only [upd, if_true]; exact h1
      · simp only [upd, hjk, if_false]; exact hb j (by omega)
  · skip
    simp only [h1, reduceCtorEq, if_true, Option.bind_some]
    exact ⟨_, _, rfl, rfl, rfl, rfl, rfl, rfl, k, Nat.le_refl _, hk, rfl, hb⟩
theorem sx_winds (rb th st : Int32) (k : Nat) (hk : k ≤ 40) (w f : Nat → Int32) (a b c d y : Int32) :
    ∃ X Y, f_X8_winds rb w f (nI k) a b c d y = some X ∧ f_X9_winds th st (nI k) w f a b c d y = some Y ∧ X.1 = Y.1 ∧ X.2.1 = Y.2.2.1 ∧ X.2.2.1 = Y.2.2.2.2.1 ∧ X.2.2.2.1 = Y.2.2.2.2.2 ∧ X.2.2.2.2 = Y.2.2.2.1 ∧ ∃ k' : Nat, k' ≤ 40 ∧ X.2.2.2.2 = nI k' := by
  unfold f_X8_winds f_X7_tell f_X9_winds f_X9_winds_66 f_X9_winds_67 f_X9_winds_87
  simp only [p_isWeight, p_in32, p_known, p_known9, p_ans, p_told, Option.bind_some, if01b, if01, t32_0, t64_0, t32_1, t64_1, t32_2, t64_2, t32_3, t64_3, t32_5, t64_5, t32_12, t64_12, t32_16, t64_16, t32_20, t64_20, t32_30, t64_30, t32_120, t64_120, t32_200, t64_200, t32_400, t64_400, t32_1000, t64_1000, t32_10000, t64_10000, t32_100000, t64_100000, t32_1000000, t64_1000000]
  have z1 : ((1 : Int32) = 0) = False := by decide
  have z0 : ((0 : Int32) = 0) = True := by decide
  have ew : ∀ x : Int32, wi x (0 : Int64).toInt (16 : Int64).toInt = wi x 0 16 := fun _ => rfl
  simp only [ew, z1, z0, if_true, if_false]
  rcases Bool.eq_false_or_eq_true (wi a 0 16) with h1 | h1
  · rcases Bool.eq_false_or_eq_true (wi b 0 16) with h2 | h2
    · rcases Bool.eq_false_or_eq_true (wi c 0 16) with h3 | h3
      · rcases Bool.eq_false_or_eq_true (wi d 0 16) with h4 | h4
        · rcases Bool.eq_false_or_eq_true (wi y 0 1000) with h6 | h6
          · by_cases h5 : a + b + c + d = 16
            · simp only [h1, h2, h3, h4, h5, h6, reduceCtorEq, if_false, if_true]
              by_cases h7 : k = 40
              · subst h7
                have e1 : ¬ (nI 40 < (40 : Int32)) := by decide
                have e2 : nI 40 = (40 : Int32) := rfl
                simp only [e1, e2, if_false, if_true, Option.bind_some]
                exact ⟨_, _, rfl, rfl, rfl, rfl, rfl, rfl, rfl, 40, Nat.le_refl _, rfl⟩
              · have e1 : nI k < (40 : Int32) := nI_lt (a := k) (b := 40) (by omega) (by omega)
                have e2 : ¬ (nI k = (40 : Int32)) := fun q => h7 ((nI_eq (a := k) (b := 40) (by omega) (by omega)).mp q)
                have e3 : inb (nI k) 40 = true := inb_t (by omega) (by omega)
                have e4 : nI k * (4 : Int32) = nI (k * 4) := pk_mul k 4
                have e4' : (4 : Int32) * nI k = nI (k * 4) := (pk_mul 4 k).trans (by rw [Nat.mul_comm])
                have a1 : nI (k * 4) + (1 : Int32) = nI (k * 4 + 1) := nI_add _ 1
                have a2 : nI (k * 4) + (2 : Int32) = nI (k * 4 + 2) := nI_add _ 2
                have a3 : nI (k * 4) + (3 : Int32) = nI (k * 4 + 3) := nI_add _ 3
                have i0 : inb (nI (k * 4)) 160 = true := inb_t (by omega) (by omega)
                have i1 : inb (nI (k * 4 + 1)) 160 = true := inb_t (by omega) (by omega)
                have i2 : inb (nI (k * 4 + 2)) 160 = true := inb_t (by omega) (by omega)
                have i3 : inb (nI (k * 4 + 3)) 160 = true := inb_t (by omega) (by omega)
                simp only [e1, e2, e3, e4, e4', a1, a2, a3, i0, i1, i2, i3, if_false, if_true, Option.bind_some]
                exact ⟨_, _, rfl, rfl, rfl, rfl, rfl, rfl, rfl, k + 1, by omega, nI_1 k⟩
            · simp only [h1, h2, h3, h4, h5, h6, reduceCtorEq, if_false, if_true, Option.bind_some]
              exact ⟨_, _, rfl, rfl, rfl, rfl, rfl, rfl, rfl, k, hk, rfl⟩
          · by_cases h5 : a + b + c + d = 16
            · simp only [h1, h2, h3, h4, h5, h6, reduceCtorEq, if_false, if_true, Option.bind_some]
              exact ⟨_, _, rfl, rfl, rfl, rfl, rfl, rfl, rfl, k, hk, rfl⟩
            · simp only [h1, h2, h3, h4, h5, h6, reduceCtorEq, if_false, if_true, Option.bind_some]
              exact ⟨_, _, rfl, rfl, rfl, rfl, rfl, rfl, rfl, k, hk, rfl⟩
        · simp only [h1, h2, h3, h4, reduceCtorEq, if_false, if_true, Option.bind_some]
          exact ⟨_, _, rfl, rfl, rfl, rfl, rfl, rfl, rfl, k, hk, rfl⟩
      · simp only [h1, h2, h3, reduceCtorEq, if_false, if_true, Option.bind_some]
        exact ⟨_, _, rfl, rfl, rfl, rfl, rfl, rfl, rfl, k, hk, rfl⟩
    · simp only [h1, h2, reduceCtorEq, if_false, if_true, Option.bind_some]
      exact ⟨_, _, rfl, rfl, rfl, rfl, rfl, rfl, rfl, k, hk, rfl⟩
  · simp only [h1, reduceCtorEq, if_false, if_true, Option.bind_some]
    exact ⟨_, _, rfl, rfl, rfl, rfl, rfl, rfl, rfl, k, hk, rfl⟩
theorem sx_sails (rb th st dr : Int32) (s : Nat → Int32) (hs : ∀ w, w < 4 → wi (s w) 0 20) (a b : Int32) :
    ∃ X Y, f_X8_sails rb s dr a b = some X ∧ f_X9_sails th st s a b = some Y ∧ X.1 = Y.1 ∧ X.2.1 = Y.2.2.1 ∧ X.2.2.1 = Y.2.2.2 ∧ (∀ w, w < 4 → wi (X.2.2.1 w) 0 20) ∧ ((X.2.2.1 = s ∧ X.2.2.2 = dr) ∨ X.2.2.2 = 0) := by
  unfold f_X8_sails f_X2_setSails f_X9_sails f_X9_sails_29
  simp only [p_iw, p_wind, p_in32, p_ans, p_told, Option.bind_some, if01b, if01, t32_0, t64_0, t32_1, t64_1, t32_2, t64_2, t32_3, t64_3, t32_5, t64_5, t32_12, t64_12, t32_16, t64_16, t32_20, t64_20, t32_30, t64_30, t32_120, t64_120, t32_200, t64_200, t32_400, t64_400, t32_1000, t64_1000, t32_10000, t64_10000, t32_100000, t64_100000, t32_1000000, t64_1000000]
  rcases Bool.eq_false_or_eq_true (wi a 0 3) with h1 | h1
  · rcases Bool.eq_false_or_eq_true (wi b 0 20) with h2 | h2
    · obtain ⟨j, hj, rfl⟩ := wi_nat (b := 3) h1 (by omega)
      have i0 : inb (nI j) 4 = true := inb_t (by omega) (by omega)
      have e4 : (nI j).toNatClampNeg = j := nI_clamp (by omega)
      simp only [h1, h2, i0, e4, reduceCtorEq, if_false, if_true, Option.bind_some]
      refine ⟨_, _, rfl, rfl, rfl, rfl, rfl, ?_, Or.inr rfl⟩
      intro w hw
      by_cases hwj : w = j
      · subst hwj; simp only [upd, if_true]; exact h2
      · simp only [upd, hwj, if_false]; exact hs w hw
    · simp only [h1, h2, reduceCtorEq, if_false, if_true, Option.bind_some]
      exact ⟨_, _, rfl, rfl, rfl, rfl, rfl, hs, Or.inl ⟨rfl, rfl⟩⟩
  · simp only [h1, reduceCtorEq, if_false, if_true, Option.bind_some]
    exact ⟨_, _, rfl, rfl, rfl, rfl, rfl, hs, Or.inl ⟨rfl, rfl⟩⟩
theorem sx_engine (rb th st dr en : Int32) (he : wi en 0 20) (a : Int32) :
    ∃ X Y, f_X8_engine rb en dr a = some X ∧ f_X9_engine th st en a = some Y ∧ X.1 = Y.1 ∧ X.2.1 = Y.2.2.1 ∧ X.2.2.1 = Y.2.2.2 ∧ wi X.2.2.1 0 20 ∧ ((X.2.2.1 = en ∧ X.2.2.2 = dr) ∨ X.2.2.2 = 0) := by
  unfold f_X8_engine f_X2_setEngine f_X9_engine
  simp only [p_iw, p_in32, p_ans, p_told, Option.bind_some, if01b, if01, t32_0, t64_0, t32_1, t64_1, t32_2, t64_2, t32_3, t64_3, t32_5, t64_5, t32_12, t64_12, t32_16, t64_16, t32_20, t64_20, t32_30, t64_30, t32_120, t64_120, t32_200, t64_200, t32_400, t64_400, t32_1000, t64_1000, t32_10000, t64_10000, t32_100000, t64_100000, t32_1000000, t64_1000000]
  rcases Bool.eq_false_or_eq_true (wi a 0 20) with h2 | h2
  · simp only [h2, reduceCtorEq, if_false, if_true, Option.bind_some]
    exact ⟨_, _, rfl, rfl, rfl, rfl, rfl, h2, Or.inr rfl⟩
  · simp only [h2, reduceCtorEq, if_true, Option.bind_some]
    exact ⟨_, _, rfl, rfl, rfl, rfl, rfl, he, Or.inl ⟨rfl, rfl⟩⟩
theorem sx_end (th : Int32) (k : Nat) (hk : k ≤ 200) (a : Int32) :
    ∃ X Y, f_X8_end (nI k) a = some X ∧ f_X9_end th (nI k) a = some Y ∧ X.1 = Y.1 ∧ X.2 = Y.2.2 ∧ ∃ k' : Nat, k' ≤ k ∧ X.2 = nI k' := by
  unfold f_X8_end f_X9_end
  simp only [p_iw, Option.bind_some, if01b, if01, t32_0, t64_0, t32_1, t64_1, t32_2, t64_2, t32_3, t64_3, t32_5, t64_5, t32_12, t64_12, t32_16, t64_16, t32_20, t64_20, t32_30, t64_30, t32_120, t64_120, t32_200, t64_200, t32_400, t64_400, t32_1000, t64_1000, t32_10000, t64_10000, t32_100000, t64_100000, t32_1000000, t64_1000000]
  have e0 : ∀ x : Int32, wi x 0 (nI k).toInt = wi x 0 k := fun x => by rw [nI_toInt (by omega)]
  simp only [e0]
  rcases Bool.eq_false_or_eq_true (wi a 0 k) with h2 | h2
  · obtain ⟨j, hj, rfl⟩ := wi_nat (b := k) h2 (by omega)
    have e1 : ¬ nI j < (0 : Int32) := nI_pos (by omega)
    have e2 : nI j ≤ nI k := nI_le hj (by omega)
    simp only [h2, e1, e2, reduceCtorEq, if_false, if_true]
    exact ⟨_, _, rfl, rfl, rfl, rfl, j, by omega, rfl⟩
  · simp only [h2, reduceCtorEq, if_true]
    by_cases h3 : a < 0
    · simp only [h3, if_true]
      exact ⟨_, _, rfl, rfl, rfl, rfl, k, Nat.le_refl _, rfl⟩
    · have h4 : ¬ a ≤ nI k := by
        intro q
        refine absurd (wi_iff.mpr ⟨?_, ?_⟩ : wi a 0 (k : Int) = true) (by rw [h2]; decide)
        · have := Int32.le_iff_toInt_le.mp (Int32.not_lt.mp h3); have e : (0 : Int32).toInt = 0 := rfl; omega
        · have := Int32.le_iff_toInt_le.mp q; rw [nI_toInt (by omega)] at this; exact this
      simp only [h3, h4, if_false]
      exact ⟨_, _, rfl, rfl, rfl, rfl, k, Nat.le_refl _, rfl⟩
