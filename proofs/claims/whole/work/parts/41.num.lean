/-! numbers of the pure functions -/
def wi (x : Int32) (a b : Int) : Bool := decide (a ≤ x.toInt) && decide (x.toInt ≤ b)
theorem wi_iff {x : Int32} {a b : Int} : wi x a b = true ↔ a ≤ x.toInt ∧ x.toInt ≤ b := by unfold wi; rw [Bool.and_eq_true, decide_eq_true_iff, decide_eq_true_iff]
theorem wi_1 {x : Int32} {a b : Int} (h : wi x a b = true) : a ≤ x.toInt := (wi_iff.mp h).1
theorem wi_2 {x : Int32} {a b : Int} (h : wi x a b = true) : x.toInt ≤ b := (wi_iff.mp h).2
def sg (x : Int32) : Int32 := if x < 0 then x else 0
theorem p_iw (x lo hi : Int32) : f_X8_isWithin x lo hi = some (if wi x lo.toInt hi.toInt then 1 else 0) := by
  unfold f_X8_isWithin
  by_cases h1 : x < lo
  · rw [if_pos h1, if_neg (fun h => by have := Int32.lt_iff_toInt_lt.mp h1; have := wi_1 h; omega)]
  · rw [if_neg h1]
    by_cases h2 : hi < x
    · rw [if_pos h2, if_neg (fun h => by have := Int32.lt_iff_toInt_lt.mp h2; have := wi_2 h; omega)]
    · rw [if_neg h2, if_pos (wi_iff.mpr ⟨by have := Int32.le_iff_toInt_le.mp (Int32.not_lt.mp h1); omega, by have := Int32.le_iff_toInt_le.mp (Int32.not_lt.mp h2); omega⟩)]
theorem p_in (x lo hi : Int64) : f_X9_in x lo hi = some (if lo.toInt ≤ x.toInt ∧ x.toInt ≤ hi.toInt then 1 else 0) := by
  unfold f_X9_in
  by_cases h1 : x < lo
  · rw [if_pos h1, if_neg (fun h => by have := Int64.lt_iff_toInt_lt.mp h1; have := h.1; omega)]
  · rw [if_neg h1]
    by_cases h2 : hi < x
    · rw [if_pos h2, if_neg (fun h => by have := Int64.lt_iff_toInt_lt.mp h2; have := h.2; omega)]
    · rw [if_neg h2, if_pos ⟨by have := Int64.le_iff_toInt_le.mp (Int64.not_lt.mp h1); omega, by have := Int64.le_iff_toInt_le.mp (Int64.not_lt.mp h2); omega⟩]
theorem p_in32 (x : Int32) (lo hi : Int64) : f_X9_in x.toInt64 lo hi = some (if wi x lo.toInt hi.toInt then 1 else 0) := by
  rw [p_in, Int32.toInt_toInt64]
  by_cases h : lo.toInt ≤ x.toInt ∧ x.toInt ≤ hi.toInt
  · rw [if_pos h, if_pos (wi_iff.mpr h)]
  · rw [if_neg h, if_neg (fun q => h (wi_iff.mp q))]
theorem p_ans (r x : Int32) : f_X8_answered r x = some (x, sg x) := by
  unfold f_X8_answered sg
  by_cases h : x < 0
  · have h2 : ¬ (0 : Int32) < x := fun q => Int32.lt_irrefl (Int32.lt_trans h q)
    simp [h, h2]
  · by_cases h2 : (0 : Int32) < x
    · simp [h, h2]
    · have h3 : x = 0 := Int32.le_antisymm (Int32.not_lt.mp h2) (Int32.not_lt.mp h)
      simp [h3]
theorem p_told (r x : Int32) : f_X9_told r x = some (x, sg x) := by
  unfold f_X9_told f_X9_told_10 sg
  by_cases h : x < 0
  · have h2 : ¬ (0 : Int32) ≤ x := Int32.not_le.mpr h
    simp [h, h2]
  · have h2 : (0 : Int32) ≤ x := Int32.not_lt.mp h
    simp [h, h2]
theorem sg_nI {n : Nat} (h : n < 2 ^ 31) : sg (nI n) = 0 := by unfold sg; rw [if_neg (nI_pos h)]
theorem inb_nI {n N : Nat} (h : n < 2 ^ 31) : inb (nI n) N = decide (n < N) := by
  unfold inb
  rw [nI_clamp h, decide_eq_true (nI_pos' h), Bool.true_and]
theorem inb_t {n N : Nat} (h : n < N) (hN : N < 2 ^ 31) : inb (nI n) N = true := by rw [inb_nI (by omega)]; exact decide_eq_true h
theorem isb_if (p : Prop) [Decidable p] : isb (if p then 1 else 0) = true := by
  by_cases h : p
  · rw [if_pos h]; decide
  · rw [if_neg h]; decide
theorem if01 (p : Prop) [Decidable p] : ((if p then (1 : Int32) else 0) = 0) = ¬ p := by by_cases h : p <;> simp [h]
theorem wi_nat {x : Int32} {b : Nat} (h : wi x 0 b = true) (hb : b < 2 ^ 31) : ∃ k : Nat, k ≤ b ∧ x = nI k := by
  refine ⟨x.toInt.toNat, by have := wi_1 h; have := wi_2 h; omega, ?_⟩
  apply Int32.toInt_inj.mp
  have := wi_1 h; have := wi_2 h
  rw [nI_toInt (by omega)]
  omega
theorem wi_nI {k : Nat} (hk : k < 2 ^ 31) (a b : Int) : wi (nI k) a b = true ↔ a ≤ k ∧ (k : Int) ≤ b := by
  rw [wi_iff, nI_toInt hk]
theorem p_known (x : Int32) : f_X8_isKnownDay x = some (if wi x 0 1000 then 1 else 0) := by
  unfold f_X8_isKnownDay
  rw [p_iw]
  simp only [Option.bind_some]
  rw [if_pos (isb_if _)]
  rfl
theorem p_wind (x : Int32) : f_X8_isWind x = some (if wi x 0 3 then 1 else 0) := by
  unfold f_X8_isWind
  rw [p_iw]
  simp only [Option.bind_some]
  rw [if_pos (isb_if _)]
  rfl
theorem p_term (x : Int32) : f_X8_isTerm x = some (if wi x 0 10000 then 1 else 0) := by
  unfold f_X8_isTerm
  rw [p_iw]
  simp only [Option.bind_some]
  rw [if_pos (isb_if _)]
  rfl
theorem p_isWeight (x : Int32) : f_X7_isWeight x = some (if wi x 0 16 then 1 else 0) := by
  unfold f_X7_isWeight
  rw [p_iw]
  simp only [Option.bind_some]
  rw [if_pos (isb_if _)]
  rfl
theorem p_port (x : Int32) : f_X0_isPort x = some (if wi x 0 5 then 1 else 0) := by
  unfold f_X0_isPort
  rw [p_iw]
  simp only [Option.bind_some]
  rw [if_pos (isb_if _)]
  rfl
theorem p_known9 (x : Int32) : f_X9_isKnown x = some (if wi x 0 1000 then 1 else 0) := by
  unfold f_X9_isKnown
  rw [p_in32]
  simp only [Option.bind_some]
  rw [if_pos (isb_if _)]
  rfl
theorem p_port9 (x : Int32) : f_X9_isPort x = some (if wi x 0 5 then 1 else 0) := by
  unfold f_X9_isPort
  rw [p_in32]
  simp only [Option.bind_some]
  rw [if_pos (isb_if _)]
  rfl
theorem nI_s1 {k : Nat} (hk : k + 1 < 2 ^ 31) : nI (k + 1) - (1 : Int32) = nI k := nI_pred k
/-- a number of a list of k -/
theorem wi_below {x : Int32} {k : Nat} (hk : k < 2 ^ 30) : wi x 0 ((k : Int) - 1) = true ↔ ∃ j : Nat, j < k ∧ x = nI j := by
  constructor
  · intro h
    refine ⟨x.toInt.toNat, by have := wi_1 h; have := wi_2 h; omega, ?_⟩
    apply Int32.toInt_inj.mp
    have := wi_1 h; have := wi_2 h
    rw [nI_toInt (by omega)]
    omega
  · rintro ⟨j, hj, rfl⟩
    rw [wi_nI (by omega)]
    omega
theorem km1 {k : Nat} (hk : k < 2 ^ 30) : (nI k - (1 : Int32)).toInt = (k : Int) - 1 := pk_sub_toInt (b := 1) (by omega) (by omega)
theorem km1L {k : Nat} (hk : k < 2 ^ 30) : ((nI k).toInt64 - (1 : Int64)).toInt = (k : Int) - 1 := by
  rw [nI_l (by omega)]
  have : (lN k - (1 : Int64)).toInt = ((lN k).toInt - (1 : Int64).toInt) := by
    apply fb_subL
    · rw [lN_toInt (by omega)]; show (_ : Int) ≤ _; have : (1 : Int64).toInt = 1 := by decide
      omega
    · rw [lN_toInt (by omega)]; have : (1 : Int64).toInt = 1 := by decide
      omega
  rw [this, lN_toInt (by omega)]
  rfl
theorem p_has (k : Nat) (hk : k < 2 ^ 30) (x : Int32) : f_X1_has (nI k) x = some (if wi x 0 ((k : Int) - 1) then 1 else 0) := by
  unfold f_X1_has
  rw [p_iw, km1 hk]
  simp only [Option.bind_some]
  rw [if_pos (isb_if _)]
  rfl
theorem p_hasL (k : Nat) (hk : k < 2 ^ 30) (x : Int32) : f_X6_has (nI k) x = some (if wi x 0 ((k : Int) - 1) then 1 else 0) := by
  unfold f_X6_has
  rw [p_iw, km1 hk]
  simp only [Option.bind_some]
  rw [if_pos (isb_if _)]
  rfl
theorem p_isLoad (k : Nat) (hk : k < 2 ^ 30) (x : Int32) : f_X9_isLoad (nI k) x = some (if wi x 0 ((k : Int) - 1) then 1 else 0) := by
  unfold f_X9_isLoad
  rw [p_in32, km1L hk]
  simp only [Option.bind_some]
  rw [if_pos (isb_if _)]
  rfl
theorem p_isLeg (k : Nat) (hk : k < 2 ^ 30) (x : Int32) : f_X9_isLeg (nI k) x = some (if wi x 0 ((k : Int) - 1) then 1 else 0) := by
  unfold f_X9_isLeg
  rw [p_in32, km1L hk]
  simp only [Option.bind_some]
  rw [if_pos (isb_if _)]
  rfl
theorem if01b (p : Bool) : ((if p = true then (1 : Int32) else 0) = 0) = (p = false) := by cases p <;> simp
theorem t32_0 : (0 : Int32).toInt = 0 := by decide
theorem t64_0 : (0 : Int64).toInt = 0 := by decide
theorem t32_1 : (1 : Int32).toInt = 1 := by decide
theorem t64_1 : (1 : Int64).toInt = 1 := by decide
theorem t32_2 : (2 : Int32).toInt = 2 := by decide
theorem t64_2 : (2 : Int64).toInt = 2 := by decide
theorem t32_3 : (3 : Int32).toInt = 3 := by decide
theorem t64_3 : (3 : Int64).toInt = 3 := by decide
theorem t32_5 : (5 : Int32).toInt = 5 := by decide
theorem t64_5 : (5 : Int64).toInt = 5 := by decide
theorem t32_12 : (12 : Int32).toInt = 12 := by decide
theorem t64_12 : (12 : Int64).toInt = 12 := by decide
theorem t32_16 : (16 : Int32).toInt = 16 := by decide
theorem t64_16 : (16 : Int64).toInt = 16 := by decide
theorem t32_20 : (20 : Int32).toInt = 20 := by decide
theorem t64_20 : (20 : Int64).toInt = 20 := by decide
theorem t32_30 : (30 : Int32).toInt = 30 := by decide
theorem t64_30 : (30 : Int64).toInt = 30 := by decide
theorem t32_120 : (120 : Int32).toInt = 120 := by decide
theorem t64_120 : (120 : Int64).toInt = 120 := by decide
theorem t32_200 : (200 : Int32).toInt = 200 := by decide
theorem t64_200 : (200 : Int64).toInt = 200 := by decide
theorem t32_400 : (400 : Int32).toInt = 400 := by decide
theorem t64_400 : (400 : Int64).toInt = 400 := by decide
theorem t32_1000 : (1000 : Int32).toInt = 1000 := by decide
theorem t64_1000 : (1000 : Int64).toInt = 1000 := by decide
theorem t32_10000 : (10000 : Int32).toInt = 10000 := by decide
theorem t64_10000 : (10000 : Int64).toInt = 10000 := by decide
theorem t32_100000 : (100000 : Int32).toInt = 100000 := by decide
theorem t64_100000 : (100000 : Int64).toInt = 100000 := by decide
theorem t32_1000000 : (1000000 : Int32).toInt = 1000000 := by decide
theorem t64_1000000 : (1000000 : Int64).toInt = 1000000 := by decide
