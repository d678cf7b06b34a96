/-! a slot as asked -/
def blk (port berth first last gv : Nat → Int32) (x1 : Int32) (n b d s : Nat) : Bool := decide (gv s = 0) && (decide (port s = x1) && (decide (berth s = nI b) && (decide ((first s).toInt ≤ (d : Int) + n - 1) && decide ((d : Int) ≤ (last s).toInt))))
def firstB (P : Nat → Bool) : Nat → Nat → Option Nat
  | _, 0 => none
  | j, r + 1 => if P j = true then some j else firstB P (j + 1) r
theorem firstB_s (P : Nat → Bool) (j r : Nat) : firstB P j (r + 1) = if P j = true then some j else firstB P (j + 1) r := rfl
theorem firstB_none {P : Nat → Bool} : ∀ (r j : Nat), firstB P j r = none → anyB P j r = false
  | 0, _, _ => rfl
  | r + 1, j, h => by
    rw [firstB_s] at h
    unfold anyB
    by_cases q : P j = true
    · rw [if_pos q] at h; cases h
    · rw [if_neg q] at h
      rw [firstB_none r (j + 1) h]
      cases hp : P j with
      | true => exact absurd hp q
      | false => rfl
theorem firstB_some {P : Nat → Bool} : ∀ (r j s : Nat), firstB P j r = some s → j ≤ s ∧ s < j + r ∧ P s = true
  | 0, _, _, h => by cases h
  | r + 1, j, s, h => by
    rw [firstB_s] at h
    by_cases q : P j = true
    · rw [if_pos q] at h; cases h; exact ⟨Nat.le_refl _, by omega, q⟩
    · rw [if_neg q] at h
      have := firstB_some r (j + 1) s h
      exact ⟨by omega, by omega, this.2.2⟩
def wayOf (o : Option Nat) : Int32 := match o with
  | none => -1
  | some i => nI i
theorem day_lt {x : Int32} {e : Nat} (he : e < 2 ^ 31) : (nI e < x) ↔ ¬ x.toInt ≤ (e : Int) := by
  rw [Int32.lt_iff_toInt_lt, nI_toInt he]
  omega
theorem day_gt {x : Int32} {e : Nat} (he : e < 2 ^ 31) : (x < nI e) ↔ ¬ (e : Int) ≤ x.toInt := by
  rw [Int32.lt_iff_toInt_lt, nI_toInt he]
  omega
theorem day_le {x : Int32} {e : Nat} (he : e < 2 ^ 31) : (nI e ≤ x) ↔ (e : Int) ≤ x.toInt := by
  rw [Int32.le_iff_toInt_le, nI_toInt he]
theorem l_way (port berth first last gv : Nat → Int32) (k : Nat) (hk : k ≤ 60) (x1 : Int32) (b d n : Nat) (hd : d ≤ 500) (hn1 : 1 ≤ n) (hn : n ≤ 30) : ∀ (r j f : Nat), j + r = k → r < f → g_X0_slotInTheWay_3 port berth first last gv (nI k) f x1 (nI b) (nI d) (nI (d + n - 1)) (nI j) = some (wayOf (firstB (blk port berth first last gv x1 n b d) j r)) := by
  intro r
  induction r with
  | zero =>
    intro j f hj hf
    obtain ⟨m, rfl, hm⟩ := succ_of hf
    rw [gs_X0_slotInTheWay_3]
    unfold f_X0_slotInTheWay_3
    have e : nI k ≤ nI j := nI_le (by omega) (by omega)
    rw [if_pos e]
    rfl
  | succ r ih =>
    intro j f hj hf
    obtain ⟨m, rfl, hm⟩ := succ_of hf
    rw [gs_X0_slotInTheWay_3]
    unfold f_X0_slotInTheWay_3 f_X0_slotInTheWay_70
    have e : ¬ nI k ≤ nI j := nI_ge (by omega) (by omega)
    have e1 : inb (nI j) 60 = true := inb_t (by omega) (by omega)
    have e2 : (nI j).toNatClampNeg = j := nI_clamp (by omega)
    have e3 : nI j + 1 = nI (j + 1) := nI_1 j
    have i := ih (j + 1) m (by omega) (by omega)
    have g1 := day_lt (x := first j) (e := d + n - 1) (by omega)
    have g2 := day_gt (x := last j) (e := d) (by omega)
    have c1 : ((d + n - 1 : Nat) : Int) = (d : Int) + n - 1 := by omega
    rw [c1] at g1
    simp only [e, e1, e2, e3, i, if_false, if_true]
    rw [firstB_s]
    by_cases h1 : gv j = 0
    · by_cases h2 : port j = x1
      · by_cases h3 : berth j = nI b
        · by_cases h4 : (first j).toInt ≤ (d : Int) + n - 1
          · have q4 : ¬ nI (d + n - 1) < first j := fun q => (g1.mp q) h4
            by_cases h5 : (d : Int) ≤ (last j).toInt
            · have q5 : ¬ last j < nI d := fun q => (g2.mp q) h5
              have hb : blk port berth first last gv x1 n b d j = true := by unfold blk; simp [h1, h2, h3, h4, h5]
              rw [if_pos h1, if_pos h2, if_pos h3, if_neg q4, if_neg q5, if_pos hb]
              rfl
            · have q5 : last j < nI d := g2.mpr h5
              have hb : ¬ blk port berth first last gv x1 n b d j = true := by unfold blk; simp [h5]
              rw [if_pos h1, if_pos h2, if_pos h3, if_neg q4, if_pos q5, if_neg hb]
          · have q4 : nI (d + n - 1) < first j := g1.mpr h4
            have hb : ¬ blk port berth first last gv x1 n b d j = true := by unfold blk; simp [h4]
            rw [if_pos h1, if_pos h2, if_pos h3, if_pos q4, if_neg hb]
        · have hb : ¬ blk port berth first last gv x1 n b d j = true := by unfold blk; simp [h3]
          rw [if_pos h1, if_pos h2, if_neg h3, if_neg hb]
      · have hb : ¬ blk port berth first last gv x1 n b d j = true := by unfold blk; simp [h2]
        rw [if_pos h1, if_neg h2, if_neg hb]
    · have hb : ¬ blk port berth first last gv x1 n b d j = true := by unfold blk; simp [h1]
      rw [if_neg h1, if_neg hb]
theorem blk_1 {port berth first last gv : Nat → Int32} {x1 : Int32} {n b d s : Nat} (h : blk port berth first last gv x1 n b d s = true) : (first s).toInt ≤ (d : Int) + n - 1 ∧ (d : Int) ≤ (last s).toInt := by
  unfold blk at h
  simp only [Bool.and_eq_true, decide_eq_true_eq] at h
  exact ⟨h.2.2.2.1, h.2.2.2.2⟩
theorem blk_up {port berth first last gv : Nat → Int32} {x1 : Int32} {n b d d' s : Nat} (h : blk port berth first last gv x1 n b d s = true) (h1 : d ≤ d') (h2 : (d' : Int) ≤ (last s).toInt) : blk port berth first last gv x1 n b d' s = true := by
  unfold blk at *
  simp only [Bool.and_eq_true, decide_eq_true_eq] at *
  refine ⟨h.1, h.2.1, h.2.2.1, ?_, h2⟩
  have := h.2.2.2.1
  omega
theorem l_ff {port berth first last gv sp : Nat → Int32} {k : Nat} (hk : k ≤ 60) (hs : slotsOK port berth first last gv sp k) (x1 : Int32) (b n : Nat) (hn1 : 1 ≤ n) (hn : n ≤ 30) : ∀ (r p f d : Nat), p + r = k → r < f → d ≤ 401 → p ≤ fb_ct (fun s => decide ((last s).toInt < (d : Int))) k →
    ∃ e, g_X0_firstFree_6 port berth first last gv (nI k) f x1 (nI b) (nI n) (nI d) (nI p) = some (nI e) ∧ d ≤ e ∧ e ≤ 401 ∧ anyB (blk port berth first last gv x1 n b e) 0 k = false ∧ ∀ d', d ≤ d' → d' < e → anyB (blk port berth first last gv x1 n b d') 0 k = true := by
  intro r
  induction r with
  | zero =>
    intro p f d hp hf hd hc
    obtain ⟨m, rfl, hm⟩ := succ_of hf
    rw [gs_X0_firstFree_6]
    unfold f_X0_firstFree_6
    have e : nI k ≤ nI p := nI_le (by omega) (by omega)
    rw [if_pos e]
    refine ⟨d, rfl, Nat.le_refl _, hd, ?_, fun d' h1 h2 => by omega⟩
    have hall : fb_ct (fun s => decide ((last s).toInt < (d : Int))) k = k := by
      have := fb_ct_le (fun s => decide ((last s).toInt < (d : Int))) k
      omega
    have hall := fb_ct_all.mp hall
    cases hq : anyB (blk port berth first last gv x1 n b d) 0 k with
    | false => rfl
    | true =>
      obtain ⟨s, h1, h2, h3⟩ := (anyB_iff k 0).mp hq
      have a := of_decide_eq_true (hall s (by omega))
      have := (blk_1 h3).2
      omega
  | succ r ih =>
    intro p f d hp hf hd hc
    obtain ⟨m, rfl, hm⟩ := succ_of hf
    rw [gs_X0_firstFree_6]
    unfold f_X0_firstFree_6 f_X0_slotInTheWay
    have e : ¬ nI k ≤ nI p := nI_ge (by omega) (by omega)
    have ed : nI d + nI n - (1 : Int32) = nI (d + n - 1) := by rw [nI_add]; exact pk_sub (b := 1) (by omega)
    have W := l_way port berth first last gv k hk x1 b d n (by omega) hn1 hn k 0 FU (by omega) (FU_gt (by omega))
    have z : nI 0 = (0 : Int32) := rfl
    rw [z] at W
    rw [if_neg e, ed, W]
    simp only [Option.bind_some]
    cases hw : firstB (blk port berth first last gv x1 n b d) 0 k with
    | none =>
      have q : wayOf none = (-1 : Int32) := rfl
      rw [q, if_pos rfl]
      exact ⟨d, rfl, Nat.le_refl _, hd, firstB_none _ _ hw, fun d' h1 h2 => by omega⟩
    | some s =>
      obtain ⟨s1, s2, s3⟩ := firstB_some _ _ _ hw
      have q : wayOf (some s) = nI s := rfl
      have q2 : ¬ nI s = (-1 : Int32) := by
        intro z
        have := congrArg Int32.toInt z
        rw [nI_toInt (by omega)] at this
        have e1 : (-1 : Int32).toInt = -1 := by decide
        omega
      rw [q, if_neg q2, inb_t (show s < 60 by omega) (by omega), nI_clamp (show s < 2 ^ 31 by omega)]
      simp only [if_true]
      obtain ⟨l, hl, el⟩ := wi_nat (b := 400) (hs s (by omega)).2.2.2.2.1 (by omega)
      have e5 : last s + (1 : Int32) = nI (l + 1) := by rw [el]; exact nI_1 l
      have e6 : nI p + 1 = nI (p + 1) := nI_1 p
      have hls : (last s).toInt = (l : Int) := by rw [el, nI_toInt (by omega)]
      have hdl := (blk_1 s3).2
      rw [e5, e6]
      have hcnt : p + 1 ≤ fb_ct (fun s => decide ((last s).toInt < ((l + 1 : Nat) : Int))) k := by
        have u := fb_ct_upd (fun t => decide ((last t).toInt < (d : Int))) true (i := s) (n := k) (by omega)
        have f0 : decide ((last s).toInt < (d : Int)) = false := decide_eq_false (by omega)
        simp only [f0, Bool.false_eq_true, if_false, if_true] at u
        have sub : fb_ct (fun t => if t = s then true else decide ((last t).toInt < (d : Int))) k ≤ fb_ct (fun s => decide ((last s).toInt < ((l + 1 : Nat) : Int))) k := by
          apply fb_ct_sub
          intro t ht h
          by_cases hts : t = s
          · subst hts
            exact decide_eq_true (by omega)
          · simp only [hts, if_false, decide_eq_true_eq] at h
            exact decide_eq_true (by omega)
        omega
      obtain ⟨e', r1, r2, r3, r4, r5⟩ := ih (p + 1) m (l + 1) (by omega) (by omega) (by omega) hcnt
      refine ⟨e', r1, by omega, r3, r4, ?_⟩
      intro d' h1 h2
      by_cases hdl' : d' ≤ l
      · exact (anyB_iff k 0).mpr ⟨s, by omega, by omega, blk_up s3 h1 (by omega)⟩
      · exact r5 d' (by omega) h2
/-- the first free day of each berth -/
theorem ff_all {port berth first last gv sp : Nat → Int32} {k : Nat} (hk : k ≤ 60) (hs : slotsOK port berth first last gv sp k) (x1 : Int32) (n d : Nat) (hn1 : 1 ≤ n) (hn : n ≤ 30) (hd : d ≤ 400) : ∃ E : Nat → Nat, ∀ b, f_X0_firstFree port berth first last gv (nI k) x1 (nI b) (nI d) (nI n) = some (nI (E b)) ∧ d ≤ E b ∧ E b ≤ 401 ∧ anyB (blk port berth first last gv x1 n b (E b)) 0 k = false ∧ ∀ d', d ≤ d' → d' < E b → anyB (blk port berth first last gv x1 n b d') 0 k = true := by
  have h : ∀ b : Nat, ∃ e : Nat, f_X0_firstFree port berth first last gv (nI k) x1 (nI b) (nI d) (nI n) = some (nI e) ∧ d ≤ e ∧ e ≤ 401 ∧ anyB (blk port berth first last gv x1 n b e) 0 k = false ∧ ∀ d', d ≤ d' → d' < e → anyB (blk port berth first last gv x1 n b d') 0 k = true := by
    intro b
    unfold f_X0_firstFree
    exact l_ff hk hs x1 b n hn1 hn k 0 FU d (by omega) (FU_gt (by omega)) (by omega) (Nat.zero_le _)
  exact ⟨fun b => (h b).choose, fun b => (h b).choose_spec⟩
