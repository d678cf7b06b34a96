/-! slots given up and counted; weights as known -/
def heldN (gv : Nat → Int32) (k : Nat) : Nat := fb_ct (fun s => decide (gv s = 0)) k
theorem nar1 : vp_nar .boolean (1 : Int32) = 1 := by decide
theorem sx_free (rb th st : Int32) (port berth first last gv sp : Nat → Int32) (k : Nat) (hk : k ≤ 60) (h : slotsOK port berth first last gv sp k) (a : Int32) :
    ∃ X Y, f_X8_free rb gv (nI k) (nI (heldN gv k)) a = some X ∧ f_X9_free th st (nI k) sp a = some Y ∧ X.1 = Y.1 ∧ X.2.1 = Y.2.2.1 ∧ slotsOK port berth first last X.2.2.1 Y.2.2.2 k ∧ X.2.2.2 = nI (heldN X.2.2.1 k) ∧ ∀ s, k ≤ s → X.2.2.1 s = gv s := by
  unfold f_X8_free f_X0_giveUp f_X9_free
  rw [p_held gv k hk, p_isSlot sp k hk]
  simp only [held_eq h hk, Option.bind_some, if01b, if01, t32_0, t64_0, t32_1, t64_1, t32_2, t64_2, t32_3, t64_3, t32_5, t64_5, t32_12, t64_12, t32_16, t64_16, t32_20, t64_20, t32_30, t64_30, t32_120, t64_120, t32_200, t64_200, t32_400, t64_400, t32_1000, t64_1000, t32_10000, t64_10000, t32_100000, t64_100000, t32_1000000, t64_1000000, p_ans, p_told]
  by_cases h1 : wi a 0 ((k : Int) - 1) ∧ gv a.toNatClampNeg = 0
  · obtain ⟨i, hi, rfl⟩ := (wi_below (by omega)).mp h1.1
    have h2 := h1.2
    rw [nI_clamp (by omega)] at h2
    simp only [h1, h2, not_true_eq_false, and_self, if_false, inb_t (show i < 60 by omega) (show 60 < 2 ^ 31 by omega), nI_clamp (show i < 2 ^ 31 by omega), if_true, nar1, Option.bind_some]
    refine ⟨_, _, rfl, rfl, rfl, rfl, ?_, ?_, fun s hs => pk_un (by omega)⟩
    · intro s hs
      obtain ⟨q1, q2, q3, q4, q5, q6⟩ := h s hs
      by_cases hsi : s = i
      · subst hsi
        simp only [upd, if_true]
        exact ⟨Or.inr trivial, q2, q3, q4, q5, by simp⟩
      · simp only [upd, hsi, if_false]
        exact ⟨q1, q2, q3, q4, q5, q6⟩
    · have e := fb_ct_upd (fun s => decide (gv s = 0)) false (i := i) (n := k) hi
      have e1 : heldN (upd gv i 1) k = fb_ct (fun s => if s = i then false else decide (gv s = 0)) k := by
        unfold heldN
        apply fb_ct_cong
        intro s hs
        by_cases hsi : s = i
        · subst hsi; simp [upd]
        · simp [upd, hsi]
      rw [e1]
      simp only [h2, decide_true, if_true] at e
      have e2 : heldN gv k = fb_ct (fun s => if s = i then false else decide (gv s = 0)) k + 1 := by unfold heldN; simpa using e.symm
      rw [e2]
      exact nI_pred _
  · simp only [h1, reduceCtorEq, if_true, Option.bind_some]
    exact ⟨_, _, rfl, rfl, rfl, rfl, h, rfl, fun _ _ => rfl⟩
theorem l_count (wt lo : Int32) (sp : Nat → Int32) (cl ta lg th : Int32) (k : Nat) (hk : k ≤ 60) : ∀ (r j n : Nat), j + r = k → r < n → g_X9_count_82 wt lo (nI k) sp cl ta lg n th (nI (fb_ct (fun s => decide (¬ sp s = -1)) j)) (nI j) = some (nI (fb_ct (fun s => decide (¬ sp s = -1)) k), th) := by
  intro r
  induction r with
  | zero =>
    intro j n hj hn
    obtain ⟨m, rfl, hm⟩ := succ_of hn
    rw [gs_X9_count_82]
    unfold f_X9_count_82
    have e : nI k ≤ nI j := nI_le (by omega) (by omega)
    have e2 : j = k := by omega
    subst e2
    rw [if_pos e]
  | succ r ih =>
    intro j n hj hn
    obtain ⟨m, rfl, hm⟩ := succ_of hn
    rw [gs_X9_count_82]
    unfold f_X9_count_82 f_X9_count_106
    have e : ¬ nI k ≤ nI j := nI_ge (by omega) (by omega)
    have e1 : inb (nI j) 60 = true := inb_t (by omega) (by omega)
    have e2 : (nI j).toNatClampNeg = j := nI_clamp (by omega)
    have e3 : nI j + 1 = nI (j + 1) := nI_1 j
    have i := ih (j + 1) m (by omega) (by omega)
    rw [fb_ct_succ] at i
    simp only [e, e1, e2, e3, if_false, if_true]
    by_cases h : sp j = -1
    · simp only [h, if_true]
      have : nI (fb_ct (fun s => decide (¬ sp s = -1)) j) + (0 : Int32) = nI (fb_ct (fun s => decide (¬ sp s = -1)) j) := Int32.add_zero _
      rw [this]
      simpa [h] using i
    · simp only [h, if_false]
      have : nI (fb_ct (fun s => decide (¬ sp s = -1)) j) + (1 : Int32) = nI (fb_ct (fun s => decide (¬ sp s = -1)) j + 1) := nI_1 _
      rw [this]
      simpa [h] using i
theorem sx_count (th : Int32) (port berth first last gv sp : Nat → Int32) (k : Nat) (hk : k ≤ 60) (h : slotsOK port berth first last gv sp k) (lo ta cl lg wt a : Int32) :
    ∃ X Y, f_X8_count (nI k) (nI (heldN gv k)) lo ta cl lg wt a = some X ∧ f_X9_count th wt lo (nI k) sp cl ta lg a = some Y ∧ X = Y.1 := by
  unfold f_X8_count f_X9_count
  by_cases c0 : a = 0
  · simp [c0]
  · by_cases c1 : a = 1
    · simp [c1]
    · by_cases c2 : a = 2
      · simp [c2]
      · by_cases c3 : a = 3
        · simp [c3]
        · by_cases c4 : a = 4
          · simp [c4]
          · by_cases c5 : a = 5
            · simp [c5]
            · by_cases c6 : a = 6
              · have A := l_count wt lo sp cl ta lg 0 k hk k 0 FU (by omega) (FU_gt (by omega))
                have e : fb_ct (fun s => decide (¬ sp s = -1)) k = heldN gv k := by
                  unfold heldN
                  apply fb_ct_cong
                  intro s hs
                  have := held_iff h hs
                  by_cases q : sp s = -1
                  · have q2 : ¬ gv s = 0 := fun z => (this.mpr z) q
                    simp [q, q2]
                  · have q2 := this.mp q
                    simp [q, q2]
                rw [e] at A
                have z : nI (fb_ct (fun s => decide (¬ sp s = -1)) 0) = (0 : Int32) := rfl
                have z2 : nI 0 = (0 : Int32) := rfl
                rw [z, z2] at A
                simp only [c6, A]
                exact ⟨_, _, rfl, rfl, rfl⟩
              · simp [c0, c1, c2, c3, c4, c5, c6]
/-- the last row of weights known by a day: below k -/
def lastK (kf : Nat → Int32) (y : Int32) : Nat → Option Nat
  | 0 => none
  | k + 1 => if y < kf k then lastK kf y k else some k
def wtOf (w kf : Nat → Int32) (y : Int32) (k v : Nat) : Int32 := match lastK kf y k with
  | none => 4
  | some i => w (i * 4 + v)
theorem l_weightOf (w kf : Nat → Int32) (y : Int32) (t : Int32) (v : Nat) (hv : v < 4) : ∀ (k n : Nat), k ≤ 40 → k < n → g_X7_weightOf_7 w kf t n (nI v) y (nI k - 1) = some (wtOf w kf y k v) := by
  intro k
  induction k with
  | zero =>
    intro n hk hn
    obtain ⟨m, rfl, hm⟩ := succ_of hn
    rw [gs_X7_weightOf_7]
    unfold f_X7_weightOf_7
    have e : nI 0 - (1 : Int32) < 0 := by decide
    simp only [e, if_true]
    rfl
  | succ k ih =>
    intro n hk hn
    obtain ⟨m, rfl, hm⟩ := succ_of hn
    rw [gs_X7_weightOf_7]
    unfold f_X7_weightOf_7
    have e0 : nI (k + 1) - (1 : Int32) = nI k := nI_pred k
    have e : ¬ nI k < (0 : Int32) := nI_pos (by omega)
    have e1 : inb (nI k) 40 = true := inb_t (by omega) (by omega)
    have e2 : (nI k).toNatClampNeg = k := nI_clamp (by omega)
    have e4 : nI k * (4 : Int32) = nI (k * 4) := pk_mul k 4
    have e5 : inb (nI (k * 4 + v)) 160 = true := inb_t (by omega) (by omega)
    have e6 : (nI (k * 4 + v)).toNatClampNeg = k * 4 + v := nI_clamp (by omega)
    have e7 : nI k + (-1 : Int32) = nI k - 1 := (Int32.sub_eq_add_neg _ _).symm
    simp only [e0, e, e1, e2, e4, nI_add, e5, e6, if_false, if_true]
    unfold wtOf lastK
    by_cases h : y < kf k
    · simp only [h, if_true]
      rw [e7, ih m (by omega) (by omega)]
      rfl
    · simp only [h, if_false]
theorem p_weightOf (w kf : Nat → Int32) (y : Int32) (k v : Nat) (hk : k ≤ 40) (hv : v < 4) : f_X7_weightOf w kf (nI k) (nI v) y = some (wtOf w kf y k v) := by
  unfold f_X7_weightOf
  exact l_weightOf w kf y (nI k) v hv k FU hk (FU_gt (by omega))
/-- the reference's search goes upward -/
theorem lastK_up (kf : Nat → Int32) (y : Int32) (k : Nat) : lastK kf y (k + 1) = if y < kf k then lastK kf y k else some k := rfl
def itsOf (o : Option Nat) : Int32 := match o with
  | none => -1
  | some i => nI i
theorem l_fw4 (w kf : Nat → Int32) (y : Int32) (k : Nat) (hk : k ≤ 40) (wz : Nat → Int32) : ∀ (r j n : Nat), j + r = k → r < n → g_X9_findWeights_4 (nI k) w kf n wz y (itsOf (lastK kf y j)) (nI j) = g_X9_findWeights_36 (nI k) w kf FU wz (itsOf (lastK kf y k)) 0 := by
  intro r
  induction r with
  | zero =>
    intro j n hj hn
    obtain ⟨m, rfl, hm⟩ := succ_of hn
    rw [gs_X9_findWeights_4]
    unfold f_X9_findWeights_4
    have e : nI k ≤ nI j := nI_le (by omega) (by omega)
    have e2 : j = k := by omega
    subst e2
    rw [if_pos e]
  | succ r ih =>
    intro j n hj hn
    obtain ⟨m, rfl, hm⟩ := succ_of hn
    rw [gs_X9_findWeights_4]
    unfold f_X9_findWeights_4 f_X9_findWeights_27
    have e : ¬ nI k ≤ nI j := nI_ge (by omega) (by omega)
    have e1 : inb (nI j) 40 = true := inb_t (by omega) (by omega)
    have e2 : (nI j).toNatClampNeg = j := nI_clamp (by omega)
    have e3 : nI j + 1 = nI (j + 1) := nI_1 j
    have i := ih (j + 1) m (by omega) (by omega)
    rw [lastK_up] at i
    simp only [e, e1, e2, e3, if_false, if_true]
    by_cases h : y < kf j
    · simp only [h, if_true] at i ⊢
      exact i
    · simp only [h, if_false] at i ⊢
      exact i
theorem l_fw36 (w kf : Nat → Int32) (y : Int32) (k : Nat) (hk : k ≤ 40) : ∀ (r j n : Nat) (wz : Nat → Int32), j + r = 4 → r < n → (∀ v, v < j → wz v = wtOf w kf y k v) → ∃ wz', g_X9_findWeights_36 (nI k) w kf n wz (itsOf (lastK kf y k)) (nI j) = some wz' ∧ ∀ v, v < 4 → wz' v = wtOf w kf y k v := by
  intro r
  induction r with
  | zero =>
    intro j n wz hj hn hw
    obtain ⟨m, rfl, hm⟩ := succ_of hn
    rw [gs_X9_findWeights_36]
    unfold f_X9_findWeights_36
    have e : (4 : Int32) ≤ nI j := nI_le (a := 4) (b := j) (by omega) (by omega)
    simp only [e, if_true]
    exact ⟨wz, rfl, fun v hv => hw v (by omega)⟩
  | succ r ih =>
    intro j n wz hj hn hw
    obtain ⟨m, rfl, hm⟩ := succ_of hn
    rw [gs_X9_findWeights_36]
    unfold f_X9_findWeights_36 f_X9_findWeights_64
    have e : ¬ (4 : Int32) ≤ nI j := nI_ge (a := j) (b := 4) (by omega) (by omega)
    have e1 : inb (nI j) 4 = true := inb_t (by omega) (by omega)
    have e2 : (nI j).toNatClampNeg = j := nI_clamp (by omega)
    have e3 : nI j + 1 = nI (j + 1) := nI_1 j
    have hlt : ∀ k i, lastK kf y k = some i → i < k := by
      intro k
      induction k with
      | zero => intro i h; cases h
      | succ k ih2 =>
        intro i h
        rw [lastK_up] at h
        by_cases q : y < kf k
        · rw [if_pos q] at h; have := ih2 i h; omega
        · rw [if_neg q] at h; cases h; omega
    have step : ∀ x : Int32, x = wtOf w kf y k j → ∃ wz', g_X9_findWeights_36 (nI k) w kf m (upd wz j x) (itsOf (lastK kf y k)) (nI (j + 1)) = some wz' ∧ ∀ v, v < 4 → wz' v = wtOf w kf y k v := by
      intro x hx
      apply ih (j + 1) m (upd wz j x) (by omega) (by omega)
      intro v hv
      by_cases hvj : v = j
      · subst hvj; simp only [upd, if_true]; exact hx
      · simp only [upd, hvj, if_false]; exact hw v (by omega)
    simp only [e, e1, e2, e3, if_false, if_true]
    cases hl : lastK kf y k with
    | none =>
      have n0 : ¬ (0 : Int32) ≤ itsOf none := by decide
      have := step 4 (by unfold wtOf; rw [hl])
      rw [hl] at this
      simp only [n0, if_false]
      exact this
    | some i =>
      have hik := hlt k i hl
      have n0 : (0 : Int32) ≤ itsOf (some i) := nI_pos' (by omega)
      have e4 : (4 : Int32) * itsOf (some i) = nI (i * 4) := (pk_mul 4 i).trans (by rw [Nat.mul_comm])
      have e5 : inb (nI (i * 4 + j)) 160 = true := inb_t (by omega) (by omega)
      have e6 : (nI (i * 4 + j)).toNatClampNeg = i * 4 + j := nI_clamp (by omega)
      have := step (w (i * 4 + j)) (by unfold wtOf; rw [hl])
      rw [hl] at this
      simp only [n0, e4, nI_add, e5, e6, if_true]
      exact this
theorem p_fw (w kf : Nat → Int32) (y : Int32) (k : Nat) (hk : k ≤ 40) (wz : Nat → Int32) : ∃ wz', f_X9_findWeights (nI k) w kf wz y = some wz' ∧ ∀ v, v < 4 → wz' v = wtOf w kf y k v := by
  unfold f_X9_findWeights
  have A := l_fw4 w kf y k hk wz k 0 FU (by omega) (FU_gt (by omega))
  have z : itsOf (lastK kf y 0) = (-1 : Int32) := rfl
  have z2 : nI 0 = (0 : Int32) := rfl
  rw [z, z2] at A
  rw [A]
  exact l_fw36 w kf y k hk 4 0 FU wz (by omega) (FU_gt (by omega)) (fun v hv => by omega)
theorem sx_weight (th : Int32) (w kf : Nat → Int32) (k : Nat) (hk : k ≤ 40) (wz : Nat → Int32) (a b : Int32) :
    ∃ X Y, f_X8_weight w kf (nI k) a b = some X ∧ f_X9_weight th (nI k) w kf wz a b = some Y ∧ X = Y.1 := by
  unfold f_X8_weight f_X9_weight
  simp only [p_wind, p_known, p_in32, p_known9, Option.bind_some, if01b, if01, t32_0, t64_0, t32_1, t64_1, t32_2, t64_2, t32_3, t64_3, t32_5, t64_5, t32_12, t64_12, t32_16, t64_16, t32_20, t64_20, t32_30, t64_30, t32_120, t64_120, t32_200, t64_200, t32_400, t64_400, t32_1000, t64_1000, t32_10000, t64_10000, t32_100000, t64_100000, t32_1000000, t64_1000000]
  rcases Bool.eq_false_or_eq_true (wi a 0 3) with h1 | h1
  · rcases Bool.eq_false_or_eq_true (wi b 0 1000) with h2 | h2
    · obtain ⟨v, hv, rfl⟩ := wi_nat (b := 3) h1 (by omega)
      obtain ⟨wz', hw1, hw2⟩ := p_fw w kf b k hk wz
      simp only [h1, h2, reduceCtorEq, if_false, p_weightOf w kf b k v hk (by omega), hw1, Option.bind_some, inb_t (show v < 4 by omega) (show 4 < 2 ^ 31 by omega), nI_clamp (show v < 2 ^ 31 by omega), if_true]
      exact ⟨_, _, rfl, rfl, (hw2 v (by omega)).symm⟩
    · simp only [h1, h2, reduceCtorEq, if_false, if_true]
      exact ⟨_, _, rfl, rfl, rfl⟩
  · simp only [h1, reduceCtorEq, if_true]
    exact ⟨_, _, rfl, rfl, rfl⟩
