/-! apart, aboard, slots one by one, winds as known -/
def apOK (ap : Nat → Int32) : Prop := (∀ i j, i < 12 → j < 12 → bt (ap i) j = bt (ap j) i) ∧ ∀ i, i < 12 → bt (ap i) i = false
theorem b_not (x : Int32) {i : Nat} (hi : i < 32) : bt (x ^^^ (-1)) i = !bt x i := by rw [b_xor, b_m1 i hi]; cases bt x i <;> rfl
theorem b_one : ∀ n, n < 32 → ∀ i, i < 32 → bt ((1 : Int32) <<< (nI n &&& 31)) i = decide (i = n) := by
  intro n hn i hi
  rw [b_shl n hn 1 hi]
  have h1 : ∀ i, i < 32 → bt 1 i = decide (i = 0) := by decide +kernel
  rw [h1 _ (by omega)]
  by_cases h : i = n
  · subst h; simp
  · by_cases h2 : n ≤ i
    · have h3 : ¬ i - n = 0 := by omega
      simp [h, h3]
    · simp [h, h2]
def mk (x z : Int32) (n : Nat) : Int32 := if z = 0 then x &&& (((1 : Int32) <<< (nI n &&& 31)) ^^^ (-1)) else x ||| ((1 : Int32) <<< (nI n &&& 31))
theorem bt_mk (x z : Int32) {n i : Nat} (hn : n < 32) (hi : i < 32) : bt (mk x z n) i = if i = n then decide (¬ z = 0) else bt x i := by
  unfold mk
  by_cases hz : z = 0
  · simp only [hz, if_true]
    rw [b_and, b_not _ hi, b_one n hn i hi]
    by_cases h : i = n <;> simp [h]
  · simp only [hz, if_false]
    rw [b_or, b_one n hn i hi]
    by_cases h : i = n <;> simp [h]
theorem p_mark (ap : Nat → Int32) (i n : Nat) (hi : i < 12) (z : Int32) : f_X1_markApart ap (nI i) (nI n) z = some (upd ap i (mk (ap i) z n)) := by
  unfold f_X1_markApart f_X1_markApart_37 mk
  rw [inb_t hi (by omega), nI_clamp (by omega)]
  by_cases hz : z = 0 <;> simp [hz]
theorem apOK_mk {ap : Nat → Int32} (h : apOK ap) {i j : Nat} (hi : i < 12) (hj : j < 12) (hij : i ≠ j) (z : Int32) : apOK (upd (upd ap i (mk (ap i) z j)) j (mk (upd ap i (mk (ap i) z j) j) z i)) := by
  have hji : j ≠ i := fun q => hij q.symm
  have key : ∀ a b, a < 12 → b < 12 → bt (upd (upd ap i (mk (ap i) z j)) j (mk (upd ap i (mk (ap i) z j) j) z i) a) b = if (a = i ∧ b = j) ∨ (a = j ∧ b = i) then decide (¬ z = 0) else bt (ap a) b := by
    intro a b ha hb
    by_cases h1 : a = j
    · subst h1
      simp only [upd, if_true, hji, if_false]
      rw [bt_mk _ _ (by omega) (by omega)]
      by_cases h2 : b = i
      · simp [h2]
      · simp [h2, hji]
    · by_cases h2 : a = i
      · subst h2
        simp only [upd, h1, if_false, if_true]
        rw [bt_mk _ _ (by omega) (by omega)]
        by_cases h3 : b = j
        · simp [h3]
        · simp [h3, h1]
      · simp [upd, h1, h2]
  refine ⟨?_, ?_⟩
  · intro a b ha hb
    rw [key a b ha hb, key b a hb ha, h.1 a b ha hb]
    by_cases q : (a = i ∧ b = j) ∨ (a = j ∧ b = i)
    · have q2 : (b = i ∧ a = j) ∨ (b = j ∧ a = i) := by omega
      rw [if_pos q, if_pos q2]
    · have q2 : ¬ ((b = i ∧ a = j) ∨ (b = j ∧ a = i)) := by omega
      rw [if_neg q, if_neg q2]
  · intro a ha
    rw [key a a ha ha, if_neg (by omega)]
    exact h.2 a ha
theorem sx_apart (rb th st : Int32) (ap : Nat → Int32) (k : Nat) (hk : k ≤ 12) (h : apOK ap) (a b z : Int32) :
    ∃ X Y, f_X8_apart rb ap (nI k) a b z = some X ∧ f_X9_apart th st (nI k) ap a b z = some Y ∧ X.1 = Y.1 ∧ X.2.1 = Y.2.2.1 ∧ X.2.2 = Y.2.2.2 ∧ apOK X.2.2 := by
  unfold f_X8_apart f_X1_setApart f_X9_apart f_X9_apart_21
  simp only [p_has k (by omega), p_isLoad k (by omega), p_ans, p_told, Option.bind_some, if01b, if01, t32_0, t64_0, t32_1, t64_1, t32_2, t64_2, t32_3, t64_3, t32_5, t64_5, t32_12, t64_12, t32_16, t64_16, t32_20, t64_20, t32_30, t64_30, t32_120, t64_120, t32_200, t64_200, t32_400, t64_400, t32_1000, t64_1000, t32_10000, t64_10000, t32_100000, t64_100000, t32_1000000, t64_1000000]
  rcases Bool.eq_false_or_eq_true (wi a 0 ((k : Int) - 1)) with h1 | h1
  · rcases Bool.eq_false_or_eq_true (wi b 0 ((k : Int) - 1)) with h2 | h2
    · simp only [h1, h2, reduceCtorEq, if_false]
      by_cases h3 : a = b
      · simp only [h3, if_true, Option.bind_some]
        exact ⟨_, _, rfl, rfl, rfl, rfl, rfl, h⟩
      · obtain ⟨i, hi, rfl⟩ := (wi_below (by omega)).mp h1
        obtain ⟨j, hj, rfl⟩ := (wi_below (by omega)).mp h2
        have hij : i ≠ j := fun q => h3 (by rw [q])
        simp only [h3, if_false, p_mark ap i j (by omega), p_mark _ j i (by omega), Option.bind_some]
        unfold f_X9_apart_74 f_X9_apart_109
        rw [inb_t (show i < 12 by omega) (by omega), inb_t (show j < 12 by omega) (by omega), nI_clamp (show i < 2 ^ 31 by omega), nI_clamp (show j < 2 ^ 31 by omega)]
        have HK := apOK_mk h (show i < 12 by omega) (show j < 12 by omega) hij z
        by_cases hz : z = 0
        · simp only [hz, if_true, p_told, Option.bind_some]
          subst hz
          exact ⟨_, _, rfl, rfl, rfl, rfl, rfl, HK⟩
        · simp only [hz, if_false, if_true, p_told, Option.bind_some]
          refine ⟨_, _, rfl, rfl, rfl, rfl, ?_, HK⟩
          simp only [mk, hz, if_false]
    · simp only [h1, h2, reduceCtorEq, if_false, if_true, Option.bind_some]
      exact ⟨_, _, rfl, rfl, rfl, rfl, rfl, h⟩
  · simp only [h1, reduceCtorEq, if_true, Option.bind_some]
    exact ⟨_, _, rfl, rfl, rfl, rfl, rfl, h⟩
/-- where a load is aboard, both sides -/
def abOK (f t lf lt : Nat → Int32) : Prop := ∀ j, j < 12 → (f j = 0 ∧ t j = -1 ∧ lf j = -1 ∧ lt j = -1) ∨ (lf j = f j ∧ lt j = t j ∧ wi (f j) 0 9 ∧ wi (t j) 0 9)
theorem sx_aboard (rb th st : Int32) (k g : Nat) (hk : k ≤ 12) (hg : g ≤ 10) (f t lf lt : Nat → Int32) (h : abOK f t lf lt) (a b c : Int32) :
    ∃ X Y, f_X8_aboard rb (nI k) f t (nI g) a b c = some X ∧ f_X9_aboard th st (nI k) lf lt (nI g) a b c = some Y ∧ X.1 = Y.1 ∧ X.2.1 = Y.2.2.1 ∧ abOK X.2.2.1 X.2.2.2 Y.2.2.2.1 Y.2.2.2.2 := by
  unfold f_X8_aboard f_X6_take f_X9_aboard f_X9_aboard_40
  simp only [p_has k (by omega), p_hasL g (by omega), p_isLoad k (by omega), p_isLeg g (by omega), p_ans, p_told, Option.bind_some, if01b, if01, t32_0, t64_0, t32_1, t64_1, t32_2, t64_2, t32_3, t64_3, t32_5, t64_5, t32_12, t64_12, t32_16, t64_16, t32_20, t64_20, t32_30, t64_30, t32_120, t64_120, t32_200, t64_200, t32_400, t64_400, t32_1000, t64_1000, t32_10000, t64_10000, t32_100000, t64_100000, t32_1000000, t64_1000000]
  by_cases h0 : b ≤ c
  · rcases Bool.eq_false_or_eq_true (wi a 0 ((k : Int) - 1)) with h1 | h1
    · rcases Bool.eq_false_or_eq_true (wi b 0 ((g : Int) - 1)) with h2 | h2
      · rcases Bool.eq_false_or_eq_true (wi c 0 ((g : Int) - 1)) with h3 | h3
        · obtain ⟨i, hi, rfl⟩ := (wi_below (by omega)).mp h1
          have hb : wi b 0 9 := wi_iff.mpr ⟨wi_1 h2, by have := wi_2 h2; omega⟩
          have hc : wi c 0 9 := wi_iff.mpr ⟨wi_1 h3, by have := wi_2 h3; omega⟩
          simp only [h0, h1, h2, h3, inb_t (show i < 12 by omega) (show 12 < 2 ^ 31 by omega), nI_clamp (show i < 2 ^ 31 by omega), reduceCtorEq, if_false, if_true, Option.bind_some]
          refine ⟨_, _, rfl, rfl, rfl, rfl, ?_⟩
          intro j hj
          by_cases hji : j = i
          · subst hji
            right
            simp only [upd, if_true]
            exact ⟨trivial, trivial, hb, hc⟩
          · simp only [upd, hji, if_false]
            exact h j hj
        · simp only [h0, h1, h2, h3, reduceCtorEq, if_false, if_true, Option.bind_some]
          exact ⟨_, _, rfl, rfl, rfl, rfl, h⟩
      · simp only [h0, h1, h2, reduceCtorEq, if_false, if_true, Option.bind_some]
        exact ⟨_, _, rfl, rfl, rfl, rfl, h⟩
    · simp only [h0, h1, reduceCtorEq, if_false, if_true, Option.bind_some]
      exact ⟨_, _, rfl, rfl, rfl, rfl, h⟩
  · simp only [h0, if_false, Option.bind_some]
    exact ⟨_, _, rfl, rfl, rfl, rfl, h⟩
/-- a slot that is held -/
theorem p_held (gv : Nat → Int32) (k : Nat) (hk : k ≤ 60) (x : Int32) : f_X0_isHeld gv (nI k) x = some (if wi x 0 ((k : Int) - 1) ∧ gv x.toNatClampNeg = 0 then 1 else 0) := by
  unfold f_X0_isHeld
  rw [p_iw, km1 (by omega)]
  simp only [Option.bind_some, if01b, if01, t32_0, t64_0, t32_1, t64_1, t32_2, t64_2, t32_3, t64_3, t32_5, t64_5, t32_12, t64_12, t32_16, t64_16, t32_20, t64_20, t32_30, t64_30, t32_120, t64_120, t32_200, t64_200, t32_400, t64_400, t32_1000, t64_1000, t32_10000, t64_10000, t32_100000, t64_100000, t32_1000000, t64_1000000]
  by_cases h : wi x 0 ((k : Int) - 1)
  · obtain ⟨i, hi, rfl⟩ := (wi_below (by omega)).mp h
    rw [inb_t (show i < 60 by omega) (by omega)]
    by_cases h2 : gv (nI i).toNatClampNeg = 0 <;> simp [h, h2]
  · simp [h]
theorem p_isSlot (sp : Nat → Int32) (k : Nat) (hk : k ≤ 60) (x : Int32) : f_X9_isSlot (nI k) sp x = some (if wi x 0 ((k : Int) - 1) ∧ ¬ sp x.toNatClampNeg = -1 then 1 else 0) := by
  unfold f_X9_isSlot
  rw [p_in32, km1L (by omega)]
  simp only [Option.bind_some, if01b, if01, t32_0, t64_0, t32_1, t64_1, t32_2, t64_2, t32_3, t64_3, t32_5, t64_5, t32_12, t64_12, t32_16, t64_16, t32_20, t64_20, t32_30, t64_30, t32_120, t64_120, t32_200, t64_200, t32_400, t64_400, t32_1000, t64_1000, t32_10000, t64_10000, t32_100000, t64_100000, t32_1000000, t64_1000000]
  by_cases h : wi x 0 ((k : Int) - 1)
  · obtain ⟨i, hi, rfl⟩ := (wi_below (by omega)).mp h
    rw [inb_t (show i < 60 by omega) (by omega)]
    by_cases h2 : sp (nI i).toNatClampNeg = -1 <;> simp [h, h2]
  · simp [h]
theorem held_iff {port berth first last gv sp : Nat → Int32} {k : Nat} (h : slotsOK port berth first last gv sp k) {s : Nat} (hs : s < k) : (¬ sp s = -1) ↔ gv s = 0 := by
  obtain ⟨h1, h2, h3, h4, h5, h6⟩ := h s hs
  rw [h6]
  by_cases hg : gv s = 0
  · simp only [hg, if_true, iff_true]
    intro q
    rw [q] at h2
    have := wi_1 h2
    have e : (-1 : Int32).toInt = -1 := by decide
    omega
  · simp [hg]
theorem held_eq {port berth first last gv sp : Nat → Int32} {k : Nat} (h : slotsOK port berth first last gv sp k) (hk : k ≤ 60) (x : Int32) : (wi x 0 ((k : Int) - 1) ∧ ¬ sp x.toNatClampNeg = -1) = (wi x 0 ((k : Int) - 1) ∧ gv x.toNatClampNeg = 0) := by
  apply propext
  constructor
  · rintro ⟨h1, h2⟩
    obtain ⟨i, hi, rfl⟩ := (wi_below (by omega)).mp h1
    rw [nI_clamp (by omega)] at *
    exact ⟨h1, (held_iff h hi).mp h2⟩
  · rintro ⟨h1, h2⟩
    obtain ⟨i, hi, rfl⟩ := (wi_below (by omega)).mp h1
    rw [nI_clamp (by omega)] at *
    exact ⟨h1, (held_iff h hi).mpr h2⟩
theorem sx_of (th : Int32) (port berth first last gv sp : Nat → Int32) (k : Nat) (hk : k ≤ 60) (h : slotsOK port berth first last gv sp k) (a b : Int32) :
    ∃ X Y, f_X8_of port berth first last gv (nI k) a b = some X ∧ f_X9_of th (nI k) sp berth first last a b = some Y ∧ X = Y.1 := by
  unfold f_X8_of f_X0_tell f_X9_of
  rw [p_held gv k hk, p_isSlot sp k hk]
  simp only [held_eq h hk, Option.bind_some, if01b, if01, t32_0, t64_0, t32_1, t64_1, t32_2, t64_2, t32_3, t64_3, t32_5, t64_5, t32_12, t64_12, t32_16, t64_16, t32_20, t64_20, t32_30, t64_30, t32_120, t64_120, t32_200, t64_200, t32_400, t64_400, t32_1000, t64_1000, t32_10000, t64_10000, t32_100000, t64_100000, t32_1000000, t64_1000000]
  by_cases h1 : wi a 0 ((k : Int) - 1) ∧ gv a.toNatClampNeg = 0
  · obtain ⟨i, hi, rfl⟩ := (wi_below (by omega)).mp h1.1
    have h2 := h1.2
    rw [nI_clamp (by omega)] at h2
    obtain ⟨q1, q2, q3, q4, q5, q6⟩ := h i hi
    rw [h2] at q6
    simp only [if_true] at q6
    simp only [h1, reduceCtorEq, if_false, inb_t (show i < 60 by omega) (show 60 < 2 ^ 31 by omega), nI_clamp (show i < 2 ^ 31 by omega), if_true, q6]
    by_cases c0 : b = 0
    · simp [c0, h2]
    · by_cases c1 : b = 1
      · simp [c1, h2]
      · by_cases c2 : b = 2
        · simp [c2, h2]
        · by_cases c3 : b = 3
          · simp [c3, h2]
          · simp [c0, c1, c2, c3]
  · simp [h1]
