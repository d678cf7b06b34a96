/-! smoke in all -/
theorem l_own {tn w f t lf lt sm : Nat → Int32} {k G : Nat} (hk : k ≤ 12) (hG : G ≤ 10) (hb : ∀ j, j < k → wi (tn j) 1 200 ∧ wi (w j) 0 10000) (h : abOK f t lf lt) (th : Int32) :
    ∀ (r j n : Nat) (x : Int32), j + r = G → r < n → ∃ v, g_X6_ownSmoke_4 tn (nI k) sm f t (nI G) n x (nI j) = some v ∧ g_X9_smoke_25 (nI k) tn lf lt (nI G) sm n th (-1) x (nI j) = some (v, th) := by
  intro r
  induction r with
  | zero =>
    intro j n x hj hn
    obtain ⟨m, rfl, hm⟩ := succ_of hn
    rw [gs_X6_ownSmoke_4, gs_X9_smoke_25]
    unfold f_X6_ownSmoke_4 f_X9_smoke_25
    have e : nI G ≤ nI j := nI_le (by omega) (by omega)
    rw [if_pos e, if_pos e]
    exact ⟨_, rfl, rfl⟩
  | succ r ih =>
    intro j n x hj hn
    obtain ⟨m, rfl, hm⟩ := succ_of hn
    rw [gs_X6_ownSmoke_4, gs_X9_smoke_25]
    unfold f_X6_ownSmoke_4 f_X9_smoke_25 f_X6_ownSmoke_29 f_X9_smoke_66
    have e : ¬ nI G ≤ nI j := nI_ge (by omega) (by omega)
    have e1 : inb (nI j) 10 = true := inb_t (by omega) (by omega)
    have e2 : (nI j).toNatClampNeg = j := nI_clamp (by omega)
    have e3 : nI j + 1 = nI (j + 1) := nI_1 j
    obtain ⟨q1, q2⟩ := p_tons hk hb h (show j ≤ 10 by omega)
    rw [if_neg e, if_neg e, if_pos rfl, q1, q2]
    simp only [Option.bind_some, e1, e2, e3, if_true]
    by_cases c : nI (abT tn f t j k) = 0
    · rw [if_pos c, if_pos c]
      exact ih (j + 1) m _ (by omega) (by omega)
    · rw [if_neg c, if_neg c, Int32.add_zero]
      exact ih (j + 1) m _ (by omega) (by omega)
theorem l_smk {tn w f t lf lt sm : Nat → Int32} {k G : Nat} (hk : k ≤ 12) (hG : G ≤ 10) (hb : ∀ j, j < k → wi (tn j) 1 200 ∧ wi (w j) 0 10000) (h : abOK f t lf lt) (hs : ∀ j, j < G → wi (sm j) 0 100000) (th : Int32) {i : Nat} (hi : i < k) :
    ∀ (r j n : Nat) (x : Int32), j + r = G → r < n → ∃ v, g_X6_smokeOf_4 tn (nI k) sm f t (nI G) n (nI i) x (nI j) = some v ∧ g_X9_smoke_25 (nI k) tn lf lt (nI G) sm n th (nI i) x (nI j) = some (v, th) := by
  have ni : ¬ nI i = (-1 : Int32) := by
    intro z
    have := congrArg Int32.toInt z
    rw [nI_toInt (by omega)] at this
    have e1 : (-1 : Int32).toInt = -1 := by decide
    omega
  intro r
  induction r with
  | zero =>
    intro j n x hj hn
    obtain ⟨m, rfl, hm⟩ := succ_of hn
    rw [gs_X6_smokeOf_4, gs_X9_smoke_25]
    unfold f_X6_smokeOf_4 f_X9_smoke_25
    have e : nI G ≤ nI j := nI_le (by omega) (by omega)
    rw [if_pos e, if_pos e]
    exact ⟨_, rfl, rfl⟩
  | succ r ih =>
    intro j n x hj hn
    obtain ⟨m, rfl, hm⟩ := succ_of hn
    rw [gs_X6_smokeOf_4, gs_X9_smoke_25]
    unfold f_X6_smokeOf_4 f_X9_smoke_25 f_X9_smoke_66
    have e : ¬ nI G ≤ nI j := nI_ge (by omega) (by omega)
    have e3 : nI j + 1 = nI (j + 1) := nI_1 j
    obtain ⟨v, v1, v2⟩ := p_part hk hG hb h hs (show j < G by omega) hi
    rw [if_neg e, if_neg e, if_neg ni, v1, v2]
    simp only [Option.bind_some, e3]
    exact ih (j + 1) m _ (by omega) (by omega)
theorem sx_smoke (th : Int32) (tn w f t lf lt sm : Nat → Int32) (k G : Nat) (hk : k ≤ 12) (hG : G ≤ 10) (hb : ∀ j, j < k → wi (tn j) 1 200 ∧ wi (w j) 0 10000) (h : abOK f t lf lt) (hs : ∀ j, j < G → wi (sm j) 0 100000) (a : Int32) :
    ∃ X Y, f_X8_smoke tn (nI k) sm f t (nI G) a = some X ∧ f_X9_smoke th (nI k) tn lf lt (nI G) sm a = some Y ∧ X = Y.1 := by
  unfold f_X8_smoke f_X9_smoke f_X9_smoke_21 f_X6_ownSmoke f_X6_smokeOf
  have z : nI 0 = (0 : Int32) := rfl
  by_cases c : a = -1
  · obtain ⟨v, v1, v2⟩ := l_own (sm := sm) hk hG hb h 0 G 0 FU 0 (by omega) (FU_gt (by omega))
    rw [z] at v1 v2
    rw [if_pos c, if_pos c, c, v1, v2]
    exact ⟨_, _, rfl, rfl, rfl⟩
  · rw [if_neg c, if_neg c, p_has k (by omega), p_isLoad k (by omega)]
    simp only [Option.bind_some, if01b, if01]
    rcases Bool.eq_false_or_eq_true (wi a 0 ((k : Int) - 1)) with h1 | h1
    · obtain ⟨i, hi, rfl⟩ := (wi_below (by omega)).mp h1
      obtain ⟨v, v1, v2⟩ := l_smk hk hG hb h hs 0 hi G 0 FU 0 (by omega) (FU_gt (by omega))
      rw [z] at v1 v2
      simp only [h1, reduceCtorEq, Bool.false_eq_true, not_false_eq_true, not_true_eq_false, if_false, v1, v2, Option.bind_some]
      exact ⟨_, _, rfl, rfl, rfl⟩
    · simp only [h1, reduceCtorEq, Bool.false_eq_true, not_false_eq_true, not_true_eq_false, if_true]
      exact ⟨_, _, rfl, rfl, rfl⟩
