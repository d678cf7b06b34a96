/-! searches; the harbour -/
def anyB (P : Nat → Bool) : Nat → Nat → Bool
  | _, 0 => false
  | j, r + 1 => P j || anyB P (j + 1) r
theorem anyB_cong {P Q : Nat → Bool} : ∀ (r j : Nat), (∀ s, j ≤ s → s < j + r → P s = Q s) → anyB P j r = anyB Q j r
  | 0, _, _ => rfl
  | r + 1, j, h => by
    unfold anyB
    rw [h j (Nat.le_refl j) (by omega), anyB_cong r (j + 1) (fun s h1 h2 => h s (by omega) (by omega))]
theorem anyB_iff {P : Nat → Bool} : ∀ (r j : Nat), anyB P j r = true ↔ ∃ s, j ≤ s ∧ s < j + r ∧ P s = true
  | 0, j => by unfold anyB; exact ⟨fun h => (by cases h), fun ⟨s, h1, h2, _⟩ => absurd h2 (by omega)⟩
  | r + 1, j => by
    unfold anyB
    rw [Bool.or_eq_true, anyB_iff r (j + 1)]
    constructor
    · rintro (h | ⟨s, h1, h2, h3⟩)
      · exact ⟨j, Nat.le_refl _, by omega, h⟩
      · exact ⟨s, by omega, by omega, h3⟩
    · rintro ⟨s, h1, h2, h3⟩
      by_cases hs : s = j
      · subst hs; exact Or.inl h3
      · exact Or.inr ⟨s, by omega, by omega, h3⟩
theorem FU_gt {r : Nat} (h : r < 1000000) : r < FU := h
theorem succ_of {r n : Nat} (h : r < n) : ∃ m, n = m + 1 ∧ r ≤ m := ⟨n - 1, by omega, by omega⟩
/-- berths -/
theorem l_setB (port berth gv : Nat → Int32) (k : Nat) (hk : k ≤ 60) (bO : Nat → Int32) (x1 x2 : Int32) (hx : inb x1 6 = true) : ∀ (r j n : Nat), j + r = k → r < n → g_X0_setBerths_23 port berth gv (nI k) n bO x1 x2 (nI j) = some (if anyB (fun s => decide (gv s = 0) && (decide (port s = x1) && decide (¬ berth s < x2))) j r = true then (-3, bO) else (bO x1.toNatClampNeg, upd bO x1.toNatClampNeg x2)) := by
  intro r
  induction r with
  | zero =>
    intro j n hj hn
    obtain ⟨m, rfl, hm⟩ := succ_of hn
    rw [gs_X0_setBerths_23]
    unfold f_X0_setBerths_23
    have e : nI k ≤ nI j := nI_le (by omega) (by omega)
    simp only [e, hx, if_true, anyB]
    rfl
  | succ r ih =>
    intro j n hj hn
    obtain ⟨m, rfl, hm⟩ := succ_of hn
    rw [gs_X0_setBerths_23]
    unfold f_X0_setBerths_23 f_X0_setBerths_63
    have e : ¬ nI k ≤ nI j := nI_ge (by omega) (by omega)
    have e1 : inb (nI j) 60 = true := inb_t (by omega) (by omega)
    have e2 : (nI j).toNatClampNeg = j := nI_clamp (by omega)
    have e3 : nI j + 1 = nI (j + 1) := nI_1 j
    have i := ih (j + 1) m (by omega) (by omega)
    simp only [e, e1, e2, e3, i, if_false, if_true, anyB]
    by_cases h1 : gv j = 0
    · by_cases h2 : port j = x1
      · by_cases h3 : berth j < x2
        · simp [h1, h2, h3]
        · simp [h1, h2, h3]
      · simp [h1, h2]
    · simp [h1]
theorem l_setB9 (sp sb : Nat → Int32) (k : Nat) (hk : k ≤ 60) (th st : Int32) (bO : Nat → Int32) (x1 x2 : Int32) (hx : inb x1 6 = true) : ∀ (r j n : Nat), j + r = k → r < n → g_X9_berths_39 (nI k) sp sb n th st bO x1 x2 (nI j) = some (if anyB (fun s => decide (sp s = x1) && decide (¬ sb s < x2)) j r = true then (-3, th, sg (-3), bO) else (bO x1.toNatClampNeg, th, sg (bO x1.toNatClampNeg), upd bO x1.toNatClampNeg x2)) := by
  intro r
  induction r with
  | zero =>
    intro j n hj hn
    obtain ⟨m, rfl, hm⟩ := succ_of hn
    rw [gs_X9_berths_39]
    unfold f_X9_berths_39
    have e : nI k ≤ nI j := nI_le (by omega) (by omega)
    simp only [e, hx, if_true, anyB, p_told, Option.bind_some]
    rfl
  | succ r ih =>
    intro j n hj hn
    obtain ⟨m, rfl, hm⟩ := succ_of hn
    rw [gs_X9_berths_39]
    unfold f_X9_berths_39 f_X9_berths_74
    have e : ¬ nI k ≤ nI j := nI_ge (by omega) (by omega)
    have e1 : inb (nI j) 60 = true := inb_t (by omega) (by omega)
    have e2 : (nI j).toNatClampNeg = j := nI_clamp (by omega)
    have e3 : nI j + 1 = nI (j + 1) := nI_1 j
    have i := ih (j + 1) m (by omega) (by omega)
    simp only [e, e1, e2, e3, i, if_false, if_true, anyB, p_told, Option.bind_some]
    by_cases h2 : sp j = x1
    · by_cases h3 : sb j < x2
      · simp [h2, h3]
      · simp [h2, h3]
    · simp [h2]
/-- the slots of both sides: k of them -/
def slotsOK (port berth first last gv sp : Nat → Int32) (k : Nat) : Prop :=
  ∀ s, s < k → (gv s = 0 ∨ gv s = 1) ∧ wi (port s) 0 5 ∧ wi (berth s) 0 2 ∧ wi (first s) 0 400 ∧ wi (last s) 0 400 ∧ sp s = if gv s = 0 then port s else -1
theorem sp_iff {port berth first last gv sp : Nat → Int32} {k s : Nat} (h : slotsOK port berth first last gv sp k) (hs : s < k) {x1 : Int32} (hx : wi x1 0 5) : (sp s = x1) ↔ (gv s = 0 ∧ port s = x1) := by
  obtain ⟨h1, h2, h3, h4, h5, h6⟩ := h s hs
  rw [h6]
  by_cases hg : gv s = 0
  · simp [hg]
  · simp only [hg, if_false, false_and, iff_false]
    intro q
    rw [← q] at hx
    have := wi_1 hx
    have e : (-1 : Int32).toInt = -1 := by decide
    omega
theorem sx_berths (rb th st : Int32) (bO port berth first last gv sp : Nat → Int32) (k : Nat) (hk : k ≤ 60) (hs : slotsOK port berth first last gv sp k) (hb : ∀ p, p < 6 → wi (bO p) 1 3) (a b : Int32) :
    ∃ X Y, f_X8_berths rb bO port berth gv (nI k) a b = some X ∧ f_X9_berths th st bO (nI k) sp berth a b = some Y ∧ X.1 = Y.1 ∧ X.2.1 = Y.2.2.1 ∧ X.2.2 = Y.2.2.2 ∧ ∀ p, p < 6 → wi (X.2.2 p) 1 3 := by
  unfold f_X8_berths f_X0_setBerths f_X9_berths
  simp only [p_iw, p_in32, p_port, p_port9, p_ans, p_told, Option.bind_some, if01b, if01, t32_0, t64_0, t32_1, t64_1, t32_2, t64_2, t32_3, t64_3, t32_5, t64_5, t32_12, t64_12, t32_16, t64_16, t32_20, t64_20, t32_30, t64_30, t32_120, t64_120, t32_200, t64_200, t32_400, t64_400, t32_1000, t64_1000, t32_10000, t64_10000, t32_100000, t64_100000, t32_1000000, t64_1000000]
  rcases Bool.eq_false_or_eq_true (wi b 1 3) with h1 | h1
  · rcases Bool.eq_false_or_eq_true (wi a 0 5) with h2 | h2
    · simp only [h1, h2, reduceCtorEq, if_false]
      obtain ⟨j, hj, rfl⟩ := wi_nat (b := 5) h2 (by omega)
      have hx : inb (nI j) 6 = true := inb_t (by omega) (by omega)
      have e2 : (nI j).toNatClampNeg = j := nI_clamp (by omega)
      have A := l_setB port berth gv k hk bO (nI j) b hx k 0 FU (by omega) (FU_gt (by omega))
      have B := l_setB9 sp berth k hk 0 st bO (nI j) b hx k 0 FU (by omega) (FU_gt (by omega))
      have hc : anyB (fun s => decide (sp s = nI j) && decide (¬ berth s < b)) 0 k = anyB (fun s => decide (gv s = 0) && (decide (port s = nI j) && decide (¬ berth s < b))) 0 k := by
        apply anyB_cong
        intro s _ h
        have := sp_iff hs (s := s) (by omega) h2
        by_cases q : sp s = nI j
        · obtain ⟨q1, q2⟩ := this.mp q
          simp [q, q1, q2]
        · have q' : ¬ (gv s = 0 ∧ port s = nI j) := fun z => q (this.mpr z)
          by_cases q1 : gv s = 0
          · have q2 : ¬ port s = nI j := fun z => q' ⟨q1, z⟩
            simp [q, q2]
          · simp [q, q1]
      rw [hc] at B
      have z0 : nI 0 = (0 : Int32) := rfl
      rw [z0] at A B
      rw [A, B]
      by_cases hany : anyB (fun s => decide (gv s = 0) && (decide (port s = nI j) && decide (¬ berth s < b))) 0 k = true
      · simp only [hany, if_true, Option.bind_some]
        exact ⟨_, _, rfl, rfl, rfl, rfl, rfl, hb⟩
      · simp only [hany, Bool.false_eq_true, if_false, Option.bind_some, e2]
        refine ⟨_, _, rfl, rfl, rfl, rfl, rfl, ?_⟩
        intro p hp
        by_cases hpj : p = j
        · subst hpj; simp only [upd, if_true]; exact h1
        · simp only [upd, hpj, if_false]; exact hb p hp
    · simp only [h1, h2, reduceCtorEq, if_false, if_true, Option.bind_some]
      exact ⟨_, _, rfl, rfl, rfl, rfl, rfl, hb⟩
  · simp only [h1, reduceCtorEq, if_true, Option.bind_some]
    exact ⟨_, _, rfl, rfl, rfl, rfl, rfl, hb⟩
