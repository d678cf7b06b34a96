/-! the reference's table -/
theorem p_take (C B : Nat → Int64) (wo : Int32) (wc wb : Int64) (x1 : Int32) (i : Nat) (hi : i < 20449) (x3 : Int64) : f_X9_take C B wo wc wb x1 (nI i) x3 = some (if wo < 0 ∨ btr (C i, B i + x3) (wc, wb) = true then (x1, C i, B i + x3) else (wo, wc, wb)) := by
  unfold f_X9_take f_X9_take_55
  rw [inb_t hi (by omega), nI_clamp (by omega)]
  simp only [if_true]
  by_cases h0 : wo < 0
  · rw [if_pos h0, if_pos (Or.inl h0)]
  · rw [if_neg h0]
    by_cases h1 : wc < C i
    · have h3 : btr (C i, B i + x3) (wc, wb) = true := by
        rw [btr_iff]
        have := Int64.lt_iff_toInt_lt.mp h1
        simp only
        omega
      rw [if_pos h1, if_pos (Or.inr h3)]
    · rw [if_neg h1]
      have h1' := Int64.le_iff_toInt_le.mp (Int64.not_lt.mp h1)
      by_cases h2 : C i = wc
      · have h4 : (C i).toInt = wc.toInt := by rw [h2]
        rw [if_pos h2]
        by_cases h5 : wb ≤ B i + x3
        · have h3 : ¬ (wo < 0 ∨ btr (C i, B i + x3) (wc, wb) = true) := by
            rintro (q | q)
            · exact h0 q
            · rw [btr_iff] at q
              have := Int64.le_iff_toInt_le.mp h5
              simp only at q
              omega
          rw [if_pos h5, if_neg h3]
        · have h3 : btr (C i, B i + x3) (wc, wb) = true := by
            rw [btr_iff]
            have := Int64.lt_iff_toInt_lt.mp (Int64.not_le.mp h5)
            simp only
            omega
          rw [if_neg h5, if_pos (Or.inr h3)]
      · have h4 : (C i).toInt ≠ wc.toInt := fun q => h2 (Int64.toInt_inj.mp q)
        have h3 : ¬ (wo < 0 ∨ btr (C i, B i + x3) (wc, wb) = true) := by
          rintro (q | q)
          · exact h0 q
          · rw [btr_iff] at q
            simp only at q
            omega
        rw [if_neg h2, if_neg h3]
def day9 (sl : Nat → Nat) (en : Nat) (wt : Nat → Int64) (C B : Nat → Int64) (d K M : Nat) : Prop := ∀ c m, c ≤ K → m ≤ M → (C ((13 * d + c) * 121 + m), B ((13 * d + c) * 121 + m)) = dpV sl en wt d m c
theorem day9.ch {sl : Nat → Nat} {en : Nat} {wt : Nat → Int64} {C B : Nat → Int64} {d M K m c : Nat} (h : day9 sl en wt C B d K M) (hc : c ≤ K) (hm : m ≤ M) : C ((13 * d + c) * 121 + m) = (dpV sl en wt d m c).1 := congrArg Prod.fst (h c m hc hm)
theorem day9.bu {sl : Nat → Nat} {en : Nat} {wt : Nat → Int64} {C B : Nat → Int64} {d M K m c : Nat} (h : day9 sl en wt C B d K M) (hc : c ≤ K) (hm : m ≤ M) : B ((13 * d + c) * 121 + m) = (dpV sl en wt d m c).2 := congrArg Prod.snd (h c m hc hm)
theorem p_choose {s : Nat → Int32} {sl : Nat → Nat} {en : Nat} {wt : Nat → Int64} {C B : Nat → Int64} {d K M c m w : Nat} (h : day9 sl en wt C B d K M) (hs : slO s sl) (hd : d ≤ 11) (hK : K ≤ 12) (hM : M ≤ 120) (hc : c ≤ K) (hm : m ≤ M) (he : en ≤ 20) (hw : w < 4) (wo : Int32) (wc wb : Int64) :
    f_X9_choose s (nI en) C B wo wc wb (nI (d + 1)) (nI c) (nI m) (nI w) (p16 d) = some (dpO sl en wt d m c w) := by
  unfold f_X9_choose f_X9_choose_53
  obtain ⟨s1, s2⟩ := hs w hw
  have ed : nI (d + 1) - (1 : Int32) = nI d := nI_pred d
  have m1 : ((-1 : Int32) < 0) = True := by decide
  have z0 : ((0 : Int32) < 0) = False := by decide
  have z1 : ((1 : Int32) < 0) = False := by decide
  rw [inb_t (show w < 4 by omega) (by omega), nI_clamp (show w < 2 ^ 31 by omega), s1, ed]
  simp only [if_true]
  rw [p_at9s (by omega) (by omega) (by omega) s2, p_at9 (by omega) (by omega) (by omega)]
  simp only [Option.bind_some]
  rw [p_take _ _ _ _ _ _ _ (by omega)]
  simp only [Option.bind_some, m1, true_or, if_true]
  have A1 := h.ch (c := c) (m := m - sl w) hc (by omega)
  have A2 := h.bu (c := c) (m := m - sl w) hc (by omega)
  have A3 := h.ch hc hm
  have A4 := h.bu hc hm
  rw [A1, A2, Int64.add_zero]
  unfold dpO pick
  by_cases h0 : c = 0
  · subst h0
    have e0 : nI 0 ≤ (0 : Int32) := by decide
    rw [if_pos e0, p_take _ _ _ _ _ _ _ (by omega)]
    simp only [Option.bind_some, z0, false_or, A3, A4, Int64.add_zero]
    simp
  · have e0 : ¬ nI c ≤ (0 : Int32) := nI_nle (by omega) (by omega)
    have ec : nI c - (1 : Int32) = nI (c - 1) := pk_sub (b := 1) (by omega)
    rw [if_neg e0, ec, p_at9s (by omega) (by omega) (by omega) he]
    simp only [Option.bind_some]
    rw [p_take _ _ _ _ _ _ _ (by omega)]
    have A5 := h.ch (c := c - 1) (m := m - en) (by omega) (by omega)
    have A6 := h.bu (c := c - 1) (m := m - en) (by omega) (by omega)
    simp only [Option.bind_some, z0, false_or, A5, A6]
    have hc0 : (decide (0 < c) = true) = True := by simp; omega
    simp only [hc0, true_and]
    by_cases hb : btr ((dpV sl en wt d (m - en) (c - 1)).1, (dpV sl en wt d (m - en) (c - 1)).2 + p16 d) ((dpV sl en wt d (m - sl w) c).1, (dpV sl en wt d (m - sl w) c).2) = true
    · have hb' : btr ((dpV sl en wt d (m - en) (c - 1)).1, (dpV sl en wt d (m - en) (c - 1)).2 + p16 d) (dpV sl en wt d (m - sl w) c) = true := hb
      simp only [hb, hb', if_true]
      rw [p_take _ _ _ _ _ _ _ (by omega)]
      simp only [Option.bind_some, z1, false_or, A3, A4, Int64.add_zero]
    · have hb' : ¬ btr ((dpV sl en wt d (m - en) (c - 1)).1, (dpV sl en wt d (m - en) (c - 1)).2 + p16 d) (dpV sl en wt d (m - sl w) c) = true := hb
      simp only [hb, hb', if_false, Bool.false_eq_true]
      rw [p_take _ _ _ _ _ _ _ (by omega)]
      simp only [Option.bind_some, z0, false_or, A3, A4, Int64.add_zero]
theorem p16_div : ∀ d, d ≤ 11 → p16 (d + 1) / 16 = p16 d := by decide +kernel
theorem p16_mul : ∀ d, d ≤ 12 → p16 d * 16 = p16 (d + 1) := by decide +kernel
