/-! due -/
def tmOK (kd am mk cs ca cb : Nat → Int32) (k : Nat) : Prop := ∀ j, j < k → kd j = cs j ∧ am j = ca j ∧ mk j = cb j ∧ wi (cs j) 0 6 ∧ wi (cb j) 0 10000
theorem l64_sub {x m : Int32} (hx : wi x 0 10000 = true) (hm : wi m 0 10000 = true) : x.toInt64 - m.toInt64 = (x - m).toInt64 := by
  apply Int64.toInt_inj.mp
  have a1 := wi_iff.mp hx
  have a2 := wi_iff.mp hm
  have e : (x - m).toInt = x.toInt - m.toInt := by
    rw [Int32.toInt_sub]
    exact Int.bmod_eq_of_le (by omega) (by omega)
  rw [fb_subL (by rw [Int32.toInt_toInt64, Int32.toInt_toInt64]; omega) (by rw [Int32.toInt_toInt64, Int32.toInt_toInt64]; omega), Int32.toInt_toInt64, Int32.toInt_toInt64, Int32.toInt_toInt64, e]
theorem l64_dl {x m n : Int32} (hx : wi x 0 10000 = true) (hm : wi m 0 10000 = true) : n.toInt64 * (if x.toInt64 - m.toInt64 < (0 : Int64) then (0 : Int64) else x.toInt64 - m.toInt64) = if x ≤ m then (0 : Int64) else n.toInt64 * (x - m).toInt64 := by
  rw [l64_sub hx hm]
  have a1 := wi_iff.mp hx
  have a2 := wi_iff.mp hm
  have e : (x - m).toInt = x.toInt - m.toInt := by
    rw [Int32.toInt_sub]
    exact Int.bmod_eq_of_le (by omega) (by omega)
  have h0 : ((x - m).toInt64 < (0 : Int64)) ↔ x.toInt < m.toInt := by
    rw [fa_lt64, Int32.toInt_toInt64, e, t64_0]
    omega
  have h1 : (x ≤ m) ↔ x.toInt ≤ m.toInt := fa_le x m
  by_cases c : x ≤ m
  · rw [if_pos c]
    by_cases c2 : (x - m).toInt64 < (0 : Int64)
    · rw [if_pos c2, Int64.mul_zero]
    · rw [if_neg c2]
      have : (x - m).toInt64 = 0 := by
        apply Int64.toInt_inj.mp
        rw [Int32.toInt_toInt64, e, t64_0]
        have w1 := h1.mp c
        have w2 : ¬ x.toInt < m.toInt := fun q => c2 (h0.mpr q)
        omega
      rw [this, Int64.mul_zero]
  · rw [if_neg c, if_neg (fun q => c (h1.mpr (by have := h0.mp q; omega)))]
theorem wi6 {x : Int32} (h : wi x 0 6 = true) (h0 : ¬ x = 0) (h1 : ¬ x = 1) (h2 : ¬ x = 2) (h3 : ¬ x = 3) (h4 : ¬ x = 4) (h5 : ¬ x = 5) : x = 6 := by
  obtain ⟨j, hj, rfl⟩ := wi_nat (b := 6) h (by omega)
  have : j = 6 := by
    rcases Nat.lt_or_ge j 6 with q | q
    · exfalso
      rcases (show j = 0 ∨ j = 1 ∨ j = 2 ∨ j = 3 ∨ j = 4 ∨ j = 5 by omega) with rfl | rfl | rfl | rfl | rfl | rfl
      · exact h0 rfl
      · exact h1 rfl
      · exact h2 rfl
      · exact h3 rfl
      · exact h4 rfl
      · exact h5 rfl
    · omega
  subst this
  rfl
theorem l_due {kd am mk cs ca cb : Nat → Int32} {k : Nat} (hk : k ≤ 20) (h : tmOK kd am mk cs ca cb k) (th x1 x2 x3 : Int32) (hx2 : wi x2 0 10000 = true) : ∀ (r j f : Nat) (s : Int64), j + r = k → r < f → ∃ v, g_X5_sum_6 kd am mk (nI k) f x1 x2 x3 s (nI j) = some v ∧ g_X9_due_51 (nI k) cs ca cb f th x1 x2 x3 s (nI j) = some (v, th) := by
  intro r
  induction r with
  | zero =>
    intro j f s hj hf
    obtain ⟨m, rfl, hm⟩ := succ_of hf
    rw [gs_X5_sum_6, gs_X9_due_51]
    unfold f_X5_sum_6 f_X9_due_51
    have e : nI k ≤ nI j := nI_le (by omega) (by omega)
    rw [if_pos e, if_pos e]
    exact ⟨_, rfl, rfl⟩
  | succ r ih =>
    intro j f s hj hf
    obtain ⟨m, rfl, hm⟩ := succ_of hf
    rw [gs_X5_sum_6, gs_X9_due_51]
    unfold f_X5_sum_6 f_X9_due_51 f_X5_after
    unfold f_X9_due_167 f_X9_due_193 f_X9_due_219 f_X9_due_240 f_X9_due_260 f_X9_due_262
    have e : ¬ nI k ≤ nI j := nI_ge (by omega) (by omega)
    have e1 : inb (nI j) 20 = true := inb_t (by omega) (by omega)
    have e2 : (nI j).toNatClampNeg = j := nI_clamp (by omega)
    have e3 : nI j + 1 = nI (j + 1) := nI_1 j
    obtain ⟨q1, q2, q3, q4, q5⟩ := h j (by omega)
    have I := fun s => ih (j + 1) m s (by omega) (by omega)
    simp only [e, e1, e2, e3, q1, q2, q3, if_false, if_true]
    by_cases c0 : cs j = 0
    · simp only [if_pos c0, Option.bind_some]; exact I _
    · by_cases c1 : cs j = 1
      · simp only [if_neg c0, if_pos c1, Option.bind_some]; exact I _
      · by_cases c2 : cs j = 2
        · simp only [if_neg c0, if_neg c1, if_pos c2, Option.bind_some, l64_dl hx2 q5]
          by_cases d : x2 ≤ cb j
          · simp only [d, if_true]; exact I _
          · simp only [d, if_false]; exact I _
        · by_cases c3 : cs j = 3
          · simp only [if_neg c0, if_neg c1, if_neg c2, if_pos c3, Option.bind_some, l64_dl q5 hx2]
            by_cases d : cb j ≤ x2
            · simp only [d, if_true]; exact I _
            · simp only [d, if_false]; exact I _
          · by_cases c4 : cs j = 4
            · simp only [if_neg c0, if_neg c1, if_neg c2, if_neg c3, if_pos c4, Option.bind_some]
              by_cases d : (cb j).toInt64 * x1.toInt64 ≤ x3.toInt64
              · simp only [d, if_true, Option.bind_some]
                rw [Int64.add_zero]
                exact I _
              · simp only [d, if_false, Option.bind_some]; exact I _
            · by_cases c5 : cs j = 5
              · simp only [if_neg c0, if_neg c1, if_neg c2, if_neg c3, if_neg c4, if_pos c5, Option.bind_some]
                by_cases d : s ≤ (ca j).toInt64
                · rw [if_pos d, if_neg (fun q => by rw [fa_lt64] at q; rw [fa_le64] at d; omega)]; exact I _
                · rw [if_neg d, if_pos (by rw [fa_lt64]; rw [fa_le64] at d; omega)]; exact I _
              · have c6 := wi6 q4 c0 c1 c2 c3 c4 c5
                simp only [if_neg c0, if_neg c1, if_neg c2, if_neg c3, if_neg c4, if_neg c5, if_pos c6, Option.bind_some]
                by_cases d : (ca j).toInt64 ≤ s
                · rw [if_pos d]
                  by_cases d2 : (ca j).toInt64 < s
                  · rw [if_pos d2]; exact I _
                  · rw [if_neg d2]
                    have : (ca j).toInt64 = s := by
                      apply Int64.toInt_inj.mp
                      rw [fa_le64] at d
                      rw [fa_lt64] at d2
                      omega
                    rw [this]; exact I _
                · rw [if_neg d, if_neg (fun q => by rw [fa_lt64] at q; rw [fa_le64] at d; omega)]; exact I _
theorem sx_due (th : Int32) (kd am mk cs ca cb : Nat → Int32) (k : Nat) (hk : k ≤ 20) (h : tmOK kd am mk cs ca cb k) (a b c : Int32) :
    ∃ X Y, f_X8_due kd am mk (nI k) a b c = some X ∧ f_X9_due th (nI k) cs ca cb a b c = some Y ∧ X = Y.1 := by
  unfold f_X8_due f_X5_sum f_X9_due
  simp only [p_iw, p_in32, p_term, Option.bind_some, if01b, if01, t32_0, t64_0, t32_10000, t64_10000, t32_1000000, t64_1000000]
  rcases Bool.eq_false_or_eq_true (wi a 0 10000) with h1 | h1
  · rcases Bool.eq_false_or_eq_true (wi b 0 10000) with h2 | h2
    · rcases Bool.eq_false_or_eq_true (wi c 0 1000000) with h3 | h3
      · simp only [h1, h2, h3, reduceCtorEq, Bool.false_eq_true, not_false_eq_true, not_true_eq_false, if_false]
        obtain ⟨v, A, B⟩ := l_due hk h 0 a b c h2 k 0 FU 0 (by omega) (FU_gt (by omega))
        have z : nI 0 = (0 : Int32) := rfl
        rw [z] at A B
        rw [A, B]
        exact ⟨_, _, rfl, rfl, rfl⟩
      · simp only [h1, h2, h3, reduceCtorEq, Bool.false_eq_true, not_false_eq_true, not_true_eq_false, if_false, if_true]
        exact ⟨_, _, rfl, rfl, rfl⟩
    · simp only [h1, h2, reduceCtorEq, Bool.false_eq_true, not_false_eq_true, not_true_eq_false, if_false, if_true]
      exact ⟨_, _, rfl, rfl, rfl⟩
  · simp only [h1, reduceCtorEq, Bool.false_eq_true, not_false_eq_true, not_true_eq_false, if_true]
    exact ⟨_, _, rfl, rfl, rfl⟩
