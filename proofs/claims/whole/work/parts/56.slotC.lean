/-! a slot -/
theorem sx_slot (rb th st : Int32) (bO port berth first last gv sp : Nat → Int32) (k : Nat) (hk : k ≤ 60) (hs : slotsOK port berth first last gv sp k) (hb : ∀ p, p < 6 → wi (bO p) 1 3) (hz : ∀ s, k ≤ s → gv s = 0) (a b c : Int32) :
    ∃ X Y, f_X8_slot rb bO port berth first last gv (nI k) (nI (heldN gv k)) a b c = some X ∧ f_X9_slot th st bO (nI k) sp berth first last a b c = some Y ∧ X.1 = Y.1 ∧ X.2.1 = Y.2.2.1 ∧ ∃ k' : Nat, k' ≤ 60 ∧ X.2.2.2.2.2.2.1 = nI k' ∧ Y.2.2.2.1 = nI k' ∧ X.2.2.2.1 = Y.2.2.2.2.2.1 ∧ X.2.2.2.2.1 = Y.2.2.2.2.2.2.1 ∧ X.2.2.2.2.2.1 = Y.2.2.2.2.2.2.2 ∧ slotsOK X.2.2.1 X.2.2.2.1 X.2.2.2.2.1 X.2.2.2.2.2.1 gv Y.2.2.2.2.1 k' ∧ X.2.2.2.2.2.2.2 = nI (heldN gv k') ∧ ∀ s, k' ≤ s → gv s = 0 := by
  unfold f_X8_slot f_X0_grant f_X9_slot f_X9_slot_29
  simp only [p_iw, p_in32, p_port, p_port9, p_ans, p_told, Option.bind_some, if01b, if01, t32_0, t64_0, t32_1, t64_1, t32_5, t64_5, t32_30, t64_30, t32_400, t64_400]
  rcases Bool.eq_false_or_eq_true (wi b 0 400) with h1 | h1
  · rcases Bool.eq_false_or_eq_true (wi c 1 30) with h2 | h2
    · rcases Bool.eq_false_or_eq_true (wi a 0 5) with h3 | h3
      · simp only [h1, h2, h3, reduceCtorEq, Bool.false_eq_true, not_false_eq_true, not_true_eq_false, if_false]
        obtain ⟨d, hd, rfl⟩ := wi_nat (b := 400) h1 (by omega)
        obtain ⟨q, hq, rfl⟩ := wi_nat (b := 5) h3 (by omega)
        have h2' : wi c 0 (30 : Nat) = true := wi_iff.mpr ⟨by have := wi_1 h2; omega, wi_2 h2⟩
        obtain ⟨n, hn, rfl⟩ := wi_nat (b := 30) h2' (by omega)
        have hn1 : 1 ≤ n := by have := wi_1 h2; rw [nI_toInt (by omega)] at this; omega
        have hbq := hb q (by omega)
        have hbq' : wi (bO q) 0 (3 : Nat) = true := wi_iff.mpr ⟨by have := wi_1 hbq; omega, wi_2 hbq⟩
        obtain ⟨nB, hnB, eB⟩ := wi_nat (b := 3) hbq' (by omega)
        have hnB1 : 1 ≤ nB := by have := wi_1 hbq; rw [eB, nI_toInt (by omega)] at this; omega
        obtain ⟨E, hE⟩ := ff_all hk hs (nI q) n d hn1 hn hd
        have z0 : nI 0 = (0 : Int32) := rfl
        have z1 : nI 1 = (1 : Int32) := rfl
        have F0 := (hE 0).1
        rw [z0] at F0
        rw [F0]
        simp only [Option.bind_some]
        obtain ⟨b0, g1, g2, g3, g4⟩ := l_grant (bO := bO) hk (nI (heldN gv k)) q n d (by omega) nB eB hnB hn1 hn E (fun b => ⟨(hE b).1, (hE b).2.2.1⟩) (nB - 1) 1 0 FU (by omega) (FU_gt (by omega)) (by omega) (fun b hb => by rw [show b = 0 by omega]; exact Nat.le_refl _) (fun b hb => by omega)
        rw [z0, z1] at g4
        rw [g4]
        have M := l_58 (bO := bO) hk hs 0 st q n d (E b0) b0 (by omega) nB eB hnB hn1 hn (hE b0).2.2.1 g1 (fun d' a1 a2 b hb => (hE b).2.2.2.2 d' a1 (by have := g2 b hb; omega)) (fun b hb => (hE b).2.2.2.2 (E b0) (hE b0).2.1 (g3 b hb)) (hE b0).2.2.2.1 (E b0 - d) d FU (by have := (hE b0).2.1; omega) (Nat.le_refl _) (FU_gt (by have := (hE b0).2.2.1; omega))
        rw [M]
        obtain ⟨Y, y1, y2, y3⟩ := l_132 bO port berth first last k hk 0 st (nI (heldN gv k)) sp q n (E b0) b0 hn1 hn (hE b0).2.2.1
        rw [y1]
        rcases y3 with ⟨c1, c2, c3, c4⟩ | ⟨e, c3, c4⟩
        · subst c4
          rw [c3]
          simp only [Option.bind_some, p_ans]
          have hE1 := (hE b0).2.1
          refine ⟨_, _, rfl, rfl, rfl, rfl, k + 1, by omega, rfl, rfl, rfl, rfl, rfl, ?_, ?_, fun s hs' => hz s (by omega)⟩
          · intro s hs'
            by_cases hsk : s = k
            · subst hsk
              simp only [upd, if_true]
              refine ⟨Or.inl (hz s (Nat.le_refl _)), h3, (wi_nI (by omega) _ _).mpr ⟨by omega, by omega⟩, (wi_nI (by omega) _ _).mpr ⟨by omega, by omega⟩, (wi_nI (by omega) _ _).mpr ⟨by omega, by omega⟩, ?_⟩
              rw [if_pos (hz s (Nat.le_refl _))]
            · simp only [upd, hsk, if_false]
              exact hs s (by omega)
          · show nI (heldN gv k) + (1 : Int32) = nI (heldN gv (k + 1))
            have : heldN gv (k + 1) = heldN gv k + 1 := by
              unfold heldN
              rw [fb_ct_succ]
              simp [hz k (Nat.le_refl _)]
            rw [this]
            exact nI_1 _
        · subst c4
          rw [c3]
          simp only [Option.bind_some, p_ans]
          exact ⟨_, _, rfl, rfl, rfl, rfl, k, hk, rfl, rfl, rfl, rfl, rfl, hs, rfl, hz⟩
      · simp only [h1, h2, h3, reduceCtorEq, Bool.false_eq_true, not_false_eq_true, not_true_eq_false, if_false, if_true, Option.bind_some, p_ans]
        exact ⟨_, _, rfl, rfl, rfl, rfl, k, hk, rfl, rfl, rfl, rfl, rfl, hs, rfl, hz⟩
    · simp only [h1, h2, reduceCtorEq, Bool.false_eq_true, not_false_eq_true, not_true_eq_false, if_false, if_true, Option.bind_some, p_ans]
      exact ⟨_, _, rfl, rfl, rfl, rfl, k, hk, rfl, rfl, rfl, rfl, rfl, hs, rfl, hz⟩
  · simp only [h1, reduceCtorEq, Bool.false_eq_true, not_false_eq_true, not_true_eq_false, if_true, Option.bind_some, p_ans]
    exact ⟨_, _, rfl, rfl, rfl, rfl, k, hk, rfl, rfl, rfl, rfl, rfl, hs, rfl, hz⟩
