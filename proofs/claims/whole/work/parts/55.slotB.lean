/-! a slot: both sides -/
abbrev GO : Type := Int32 × (Nat → Int32) × (Nat → Int32) × (Nat → Int32) × (Nat → Int32) × (Int32) × (Int32)
def finG (port berth first last : Nat → Int32) (k : Nat) (h x1 : Int32) (n bb D : Nat) : GO :=
  if D + n - 1 ≤ 400 then (if k < 60 then (nI k, upd port k x1, upd berth k (nI bb), upd first k (nI D), upd last k (nI (D + n - 1)), nI (k + 1), h + 1) else (-5, port, berth, first, last, nI k, h)) else (-3, port, berth, first, last, nI k, h)
theorem nI_dn (d n : Nat) (hn : 1 ≤ n) : nI d + nI n - (1 : Int32) = nI (d + n - 1) := by rw [nI_add]; exact pk_sub (b := 1) (by omega)
theorem l_grant {bO port berth first last gv : Nat → Int32} {k : Nat} (hk : k ≤ 60) (h : Int32) (q n d : Nat) (hq : q < 6) (nB : Nat) (hB : bO q = nI nB) (hB3 : nB ≤ 3) (hn1 : 1 ≤ n) (hn : n ≤ 30) (E : Nat → Nat) (hE : ∀ b, f_X0_firstFree port berth first last gv (nI k) (nI q) (nI b) (nI d) (nI n) = some (nI (E b)) ∧ E b ≤ 401) :
    ∀ (r j bb f : Nat), j + r = nB → r < f → bb < j → (∀ b, b < j → E bb ≤ E b) → (∀ b, b < bb → E bb < E b) → ∃ b', b' < nB ∧ (∀ b, b < nB → E b' ≤ E b) ∧ (∀ b, b < b' → E b' < E b) ∧ g_X0_grant_49 bO gv f port berth first last (nI k) h (nI q) (nI d) (nI n) (nI bb) (nI (E bb)) (nI j) = some (finG port berth first last k h (nI q) n b' (E b')) := by
  intro r
  induction r with
  | zero =>
    intro j bb f hj hf hbb h1 h2
    obtain ⟨m, rfl, hm⟩ := succ_of hf
    refine ⟨bb, by omega, fun b hb => h1 b (by omega), h2, ?_⟩
    rw [gs_X0_grant_49]
    unfold f_X0_grant_49 f_X0_keep finG
    have e1 : inb (nI q) 6 = true := inb_t hq (by omega)
    have e2 : (nI q).toNatClampNeg = q := nI_clamp (by omega)
    have e3 : nI nB ≤ nI j := nI_le (by omega) (by omega)
    have hb := (hE bb).2
    simp only [e1, e2, hB, e3, if_true, nI_dn _ _ hn1]
    have e4 : (nI (E bb + n - 1) ≤ (400 : Int32)) ↔ E bb + n - 1 ≤ 400 := nI_leI (b := 400) (by omega) (by omega)
    have e5 : (nI k < (60 : Int32)) ↔ k < 60 := nI_ltI (b := 60) (by omega) (by omega)
    have e6 : (nI k).toNatClampNeg = k := nI_clamp (by omega)
    have e7 : nI k + (1 : Int32) = nI (k + 1) := nI_1 k
    have e8 : nI (k + 1) - (1 : Int32) = nI k := nI_pred k
    by_cases c1 : E bb + n - 1 ≤ 400
    · by_cases c2 : k < 60
      · have e9 : inb (nI k) 60 = true := inb_t c2 (by omega)
        simp only [e4.mpr c1, e5.mpr c2, e6, e7, e8, e9, c1, c2, if_true, Option.bind_some]
      · have e5' : ¬ (nI k < (60 : Int32)) := fun z => c2 (e5.mp z)
        simp only [e4.mpr c1, e5', c1, c2, if_true, if_false]
    · have e4' : ¬ (nI (E bb + n - 1) ≤ (400 : Int32)) := fun z => c1 (e4.mp z)
      simp only [e4', c1, if_false]
  | succ r ih =>
    intro j bb f hj hf hbb h1 h2
    obtain ⟨m, rfl, hm⟩ := succ_of hf
    rw [gs_X0_grant_49]
    unfold f_X0_grant_49 f_X0_grant_86
    have e1 : inb (nI q) 6 = true := inb_t hq (by omega)
    have e2 : (nI q).toNatClampNeg = q := nI_clamp (by omega)
    have e3 : ¬ nI nB ≤ nI j := nI_ge (by omega) (by omega)
    have e4 : nI j + 1 = nI (j + 1) := nI_1 j
    have hb := (hE bb).2
    have hb2 := (hE j).2
    simp only [e1, e2, hB, e3, if_true, if_false, (hE j).1, Option.bind_some, e4]
    have e5 : (nI (E bb) ≤ nI (E j)) ↔ E bb ≤ E j := nI_leI (by omega) (by omega)
    by_cases c : E bb ≤ E j
    · rw [if_pos (e5.mpr c)]
      refine ih (j + 1) bb m (by omega) (by omega) (by omega) ?_ h2
      intro b hb
      by_cases hbj : b = j
      · subst hbj; exact c
      · exact h1 b (by omega)
    · rw [if_neg (fun z => c (e5.mp z))]
      refine ih (j + 1) j m (by omega) (by omega) (by omega) ?_ ?_
      · intro b hb
        by_cases hbj : b = j
        · subst hbj; exact Nat.le_refl _
        · have := h1 b (by omega); omega
      · intro b hb
        have := h1 b hb
        omega
theorem l_isFree {port berth first last gv sp : Nat → Int32} {k : Nat} (hk : k ≤ 60) (hs : slotsOK port berth first last gv sp k) (x1 : Int32) (hx : wi x1 0 5 = true) (b d n : Nat) (hd : d ≤ 500) (hn1 : 1 ≤ n) (hn : n ≤ 30) : ∀ (r j f : Nat) (fl : Bool), j + r = k → r < f → g_X9_isFree_6 (nI k) sp berth first last f x1 (nI b) (nI d) (nI (d + n - 1)) (if fl = true then 1 else 0) (nI j) = some (if (fl && !anyB (blk port berth first last gv x1 n b d) j r) = true then 1 else 0) := by
  intro r
  induction r with
  | zero =>
    intro j f fl hj hf
    obtain ⟨m, rfl, hm⟩ := succ_of hf
    rw [gs_X9_isFree_6]
    unfold f_X9_isFree_6
    have e : nI k ≤ nI j := nI_le (by omega) (by omega)
    rw [if_pos e, if_pos (isb_if _)]
    simp [anyB]
  | succ r ih =>
    intro j f fl hj hf
    obtain ⟨m, rfl, hm⟩ := succ_of hf
    rw [gs_X9_isFree_6]
    unfold f_X9_isFree_6 f_X9_isFree_65 f_X9_isFree_69 f_X9_isFree_70
    have e : ¬ nI k ≤ nI j := nI_ge (by omega) (by omega)
    have e1 : inb (nI j) 60 = true := inb_t (by omega) (by omega)
    have e2 : (nI j).toNatClampNeg = j := nI_clamp (by omega)
    have e3 : nI j + 1 = nI (j + 1) := nI_1 j
    have i0 := ih (j + 1) m false (by omega) (by omega)
    have i1 := ih (j + 1) m true (by omega) (by omega)
    simp only [Bool.false_eq_true, if_false, if_true, Bool.false_and, Bool.true_and] at i0 i1
    have g1 := day_lt (x := first j) (e := d + n - 1) (by omega)
    have g2 := day_le (x := last j) (e := d) (by omega)
    have c1 : ((d + n - 1 : Nat) : Int) = (d : Int) + n - 1 := by omega
    rw [c1] at g1
    have z10 : ¬ (1 : Int32) = 0 := by decide
    cases fl with
    | false =>
      simp only [e, e3, i0, Bool.false_eq_true, if_false, if_true, Bool.false_and]
    | true =>
      simp only [e, e1, e2, e3, i0, i1, z10, if_false, if_true, Bool.true_and]
      have hp := sp_iff hs (s := j) (by omega) hx
      have st : anyB (blk port berth first last gv x1 n b d) j (r + 1) = (blk port berth first last gv x1 n b d j || anyB (blk port berth first last gv x1 n b d) (j + 1) r) := rfl
      rw [st]
      by_cases h1 : sp j = x1
      · obtain ⟨p1, p2⟩ := hp.mp h1
        by_cases h3 : berth j = nI b
        · by_cases h4 : (first j).toInt ≤ (d : Int) + n - 1
          · have q4 : ¬ nI (d + n - 1) < first j := fun q => (g1.mp q) h4
            by_cases h5 : (d : Int) ≤ (last j).toInt
            · have hb : blk port berth first last gv x1 n b d j = true := by unfold blk; simp [p1, p2, h3, h4, h5]
              rw [if_pos h1, if_pos h3, if_neg q4, if_pos (g2.mpr h5), hb]
              rfl
            · have hb : blk port berth first last gv x1 n b d j = false := by unfold blk; simp [h5]
              rw [if_pos h1, if_pos h3, if_neg q4, if_neg (fun z => h5 (g2.mp z)), hb, Bool.false_or]
          · have q4 : nI (d + n - 1) < first j := g1.mpr h4
            have hb : blk port berth first last gv x1 n b d j = false := by unfold blk; simp [h4]
            rw [if_pos h1, if_pos h3, if_pos q4, hb, Bool.false_or]
        · have hb : blk port berth first last gv x1 n b d j = false := by unfold blk; simp [h3]
          rw [if_pos h1, if_neg h3, hb, Bool.false_or]
      · have hb : blk port berth first last gv x1 n b d j = false := by
          unfold blk
          by_cases p1 : gv j = 0
          · have p2 : ¬ port j = x1 := fun z => h1 (hp.mpr ⟨p1, z⟩)
            simp [p2]
          · simp [p1]
        rw [if_neg h1, hb, Bool.false_or]
abbrev MO : Type := Int32 × (Int32) × (Int32) × (Int32) × (Nat → Int32) × (Nat → Int32) × (Nat → Int32) × (Nat → Int32)
theorem l_78 {bO port berth first last gv sp : Nat → Int32} {k : Nat} (hk : k ≤ 60) (hs : slotsOK port berth first last gv sp k) (th st : Int32) (q n d : Nat) (hq : q < 6) (nB : Nat) (hB : bO q = nI nB) (hB3 : nB ≤ 3) (hn1 : 1 ≤ n) (hn : n ≤ 30) (hd : d ≤ 500) (kh : (Int32) → (Int32) → (Int32) → (Nat → Int32) → (Nat → Int32) → (Nat → Int32) → (Nat → Int32) → Int32 → Int32 → Int32 → Int32 → Int32 → Option MO) :
    ∀ (r j f : Nat), j + r = nB → r + 1 < f →
      ((∀ b, j ≤ b → b < nB → anyB (blk port berth first last gv (nI q) n b d) 0 k = true) → g_X9_slot_78 bO kh f th st (nI k) sp berth first last (nI q) (nI n) (-1) 0 (nI d) (nI j) = kh th st (nI k) sp berth first last (nI q) (nI n) (-1) 0 (nI (d + 1))) ∧
      (∀ b0, j ≤ b0 → b0 < nB → (∀ b, j ≤ b → b < b0 → anyB (blk port berth first last gv (nI q) n b d) 0 k = true) → anyB (blk port berth first last gv (nI q) n b0 d) 0 k = false → g_X9_slot_78 bO kh f th st (nI k) sp berth first last (nI q) (nI n) (-1) 0 (nI d) (nI j) = kh th st (nI k) sp berth first last (nI q) (nI n) (nI d) (nI b0) (nI (d + 1))) := by
  have hx : wi (nI q) 0 5 = true := (wi_nI (by omega) _ _).mpr ⟨by omega, by omega⟩
  have e1 : inb (nI q) 6 = true := inb_t hq (by omega)
  have e2 : (nI q).toNatClampNeg = q := nI_clamp (by omega)
  have em : ¬ (0 : Int32) ≤ -1 := by decide
  have ed1 : nI d + 1 = nI (d + 1) := nI_1 d
  intro r
  induction r with
  | zero =>
    intro j f hj hf
    obtain ⟨m, rfl, hm⟩ := succ_of hf
    constructor
    · intro _
      rw [gs_X9_slot_78]
      unfold f_X9_slot_78 f_X9_slot_126
      have e3 : nI nB ≤ nI j := nI_le (by omega) (by omega)
      simp only [e1, e2, hB, e3, if_true, ed1]
    · intro b0 h1 h2
      omega
  | succ r ih =>
    intro j f hj hf
    obtain ⟨m, rfl, hm⟩ := succ_of hf
    have i := ih (j + 1) m (by omega) (by omega)
    have e3 : ¬ nI nB ≤ nI j := nI_ge (by omega) (by omega)
    have e4 : nI j + 1 = nI (j + 1) := nI_1 j
    have F := l_isFree hk hs (nI q) hx j d n hd hn1 hn k 0 FU true (by omega) (FU_gt (by omega))
    have z : nI 0 = (0 : Int32) := rfl
    rw [z] at F
    simp only [if_true, Bool.true_and] at F
    have step : g_X9_slot_78 bO kh (m + 1) th st (nI k) sp berth first last (nI q) (nI n) (-1) 0 (nI d) (nI j) = if anyB (blk port berth first last gv (nI q) n j d) 0 k = true then g_X9_slot_78 bO kh m th st (nI k) sp berth first last (nI q) (nI n) (-1) 0 (nI d) (nI (j + 1)) else g_X9_slot_78 bO kh m th st (nI k) sp berth first last (nI q) (nI n) (nI d) (nI j) (nI d) (nI (j + 1)) := by
      rw [gs_X9_slot_78]
      unfold f_X9_slot_78 f_X9_slot_120 f_X9_isFree
      simp only [e1, e2, hB, e3, em, if_true, if_false, nI_dn _ _ hn1, F, Option.bind_some, e4]
      cases anyB (blk port berth first last gv (nI q) n j d) 0 k with
      | true => rfl
      | false => rfl
    rw [step]
    constructor
    · intro h
      rw [if_pos (h j (Nat.le_refl _) (by omega))]
      exact i.1 (fun b h1 h2 => h b (by omega) h2)
    · intro b0 h1 h2 h3 h4
      by_cases hb : b0 = j
      · subst hb
        rw [if_neg (by rw [h4]; decide)]
        obtain ⟨m', rfl, hm'⟩ := succ_of (show r < m by omega)
        rw [gs_X9_slot_78]
        unfold f_X9_slot_78 f_X9_slot_126
        have ep : (0 : Int32) ≤ nI d := nI_pos' (by omega)
        simp only [e1, e2, if_true, ed1, ep]
        by_cases c : bO q ≤ nI (b0 + 1)
        · rw [if_pos c]
        · rw [if_neg c]
      · rw [if_pos (h3 j (Nat.le_refl _) (by omega))]
        exact i.2 b0 (by omega) h2 (fun b h5 h6 => h3 b (by omega) h6) h4
theorem l_58 {bO port berth first last gv sp : Nat → Int32} {k : Nat} (hk : k ≤ 60) (hs : slotsOK port berth first last gv sp k) (th st : Int32) (q n from_ D b0 : Nat) (hq : q < 6) (nB : Nat) (hB : bO q = nI nB) (hB3 : nB ≤ 3) (hn1 : 1 ≤ n) (hn : n ≤ 30) (hD : D ≤ 401) (hb0 : b0 < nB)
    (h1 : ∀ d, from_ ≤ d → d < D → ∀ b, b < nB → anyB (blk port berth first last gv (nI q) n b d) 0 k = true) (h2 : ∀ b, b < b0 → anyB (blk port berth first last gv (nI q) n b D) 0 k = true) (h3 : anyB (blk port berth first last gv (nI q) n b0 D) 0 k = false) :
    ∀ (r d f : Nat), d + r = D → from_ ≤ d → r + 1 < f → g_X9_slot_58 bO f th st (nI k) sp berth first last (nI q) (nI n) (-1) 0 (nI d) = if D + n - 1 ≤ 400 then f_X9_slot_132 bO th st (nI k) sp berth first last (nI q) (nI n) (nI D) (nI b0) else f_X9_slot_132 bO th st (nI k) sp berth first last (nI q) (nI n) (-1) 0 := by
  have em : ¬ (0 : Int32) ≤ -1 := by decide
  intro r
  induction r with
  | zero =>
    intro d f hd hfr hf
    obtain ⟨m, rfl, hm⟩ := succ_of hf
    have hdD : d = D := by omega
    subst hdD
    rw [gs_X9_slot_58]
    unfold f_X9_slot_58
    rw [nI_dn _ _ hn1]
    have e4 : ((400 : Int32) < nI (d + n - 1)) ↔ 400 < d + n - 1 := nI_ltI (a := 400) (by omega) (by omega)
    by_cases c : d + n - 1 ≤ 400
    · rw [if_neg (fun z => by have := e4.mp z; omega), if_neg em, if_pos c]
      have z : nI 0 = (0 : Int32) := rfl
      have K := (l_78 hk hs th st q n d hq nB hB hB3 hn1 hn (by omega) (fun a1 a2 a3 a4 a5 a6 a7 a8 a9 a10 a11 a12 => g_X9_slot_58 bO m a1 a2 a3 a4 a5 a6 a7 a8 a9 a10 a11 a12) nB 0 FU (by omega) (FU_gt (by omega))).2 b0 (by omega) hb0 (fun b _ h => h2 b h) h3
      rw [z] at K
      rw [K]
      obtain ⟨m', rfl, hm'⟩ := succ_of (show 0 < m by omega)
      show g_X9_slot_58 bO (m' + 1) th st (nI k) sp berth first last (nI q) (nI n) (nI d) (nI b0) (nI (d + 1)) = _
      rw [gs_X9_slot_58]
      unfold f_X9_slot_58
      have ep : (0 : Int32) ≤ nI d := nI_pos' (by omega)
      rw [if_pos ep]
      by_cases c2 : (400 : Int32) < nI (d + 1) + nI n - 1
      · rw [if_pos c2]
      · rw [if_neg c2]
    · rw [if_pos (e4.mpr (by omega)), if_neg c]
  | succ r ih =>
    intro d f hd hfr hf
    obtain ⟨m, rfl, hm⟩ := succ_of hf
    rw [gs_X9_slot_58]
    unfold f_X9_slot_58
    rw [nI_dn _ _ hn1]
    have e4 : ((400 : Int32) < nI (d + n - 1)) ↔ 400 < d + n - 1 := nI_ltI (a := 400) (by omega) (by omega)
    by_cases c : d + n - 1 ≤ 400
    · rw [if_neg (fun z => by have := e4.mp z; omega), if_neg em]
      have z : nI 0 = (0 : Int32) := rfl
      have K := (l_78 hk hs th st q n d hq nB hB hB3 hn1 hn (by omega) (fun a1 a2 a3 a4 a5 a6 a7 a8 a9 a10 a11 a12 => g_X9_slot_58 bO m a1 a2 a3 a4 a5 a6 a7 a8 a9 a10 a11 a12) nB 0 FU (by omega) (FU_gt (by omega))).1 (fun b _ h => h1 d hfr (by omega) b h)
      rw [z] at K
      rw [K]
      exact ih (d + 1) m (by omega) (by omega) (by omega)
    · rw [if_pos (e4.mpr (by omega)), if_neg (by omega)]
theorem l_132 (bO port berth first last : Nat → Int32) (k : Nat) (hk : k ≤ 60) (th st h : Int32) (sp : Nat → Int32) (q n D b0 : Nat) (hn1 : 1 ≤ n) (hn : n ≤ 30) (hD : D ≤ 401) : ∃ Y, (if D + n - 1 ≤ 400 then f_X9_slot_132 bO th st (nI k) sp berth first last (nI q) (nI n) (nI D) (nI b0) else f_X9_slot_132 bO th st (nI k) sp berth first last (nI q) (nI n) (-1) 0) = some Y ∧ Y.2.2.1 = sg Y.1 ∧
    ((D + n - 1 ≤ 400 ∧ k < 60 ∧ finG port berth first last k h (nI q) n b0 D = (nI k, upd port k (nI q), upd berth k (nI b0), upd first k (nI D), upd last k (nI (D + n - 1)), nI (k + 1), h + 1) ∧ Y = (nI k, th, sg (nI k), nI (k + 1), upd sp k (nI q), upd berth k (nI b0), upd first k (nI D), upd last k (nI (D + n - 1)))) ∨
     (∃ e, finG port berth first last k h (nI q) n b0 D = (e, port, berth, first, last, nI k, h) ∧ Y = (e, th, sg e, nI k, sp, berth, first, last))) := by
  unfold f_X9_slot_132 finG
  simp only [p_told, Option.bind_some]
  by_cases c1 : D + n - 1 ≤ 400
  · have ep : (0 : Int32) ≤ nI D := nI_pos' (by omega)
    simp only [c1, ep, if_true]
    by_cases c2 : k < 60
    · have e1 : ¬ nI k = (60 : Int32) := fun z => by have := (nI_eq (a := k) (b := 60) (by omega) (by omega)).mp z; omega
      have e9 : inb (nI k) 60 = true := inb_t c2 (by omega)
      have e6 : (nI k).toNatClampNeg = k := nI_clamp (by omega)
      have e7 : nI k + (1 : Int32) = nI (k + 1) := nI_1 k
      have e8 : nI (k + 1) - (1 : Int32) = nI k := nI_pred k
      simp only [e1, e9, e6, e7, e8, if_true, if_false, c2, nI_dn _ _ hn1]
      exact ⟨_, rfl, rfl, Or.inl ⟨trivial, trivial, trivial, rfl⟩⟩
    · have hk60 : k = 60 := by omega
      subst hk60
      have e1 : nI 60 = (60 : Int32) := rfl
      simp only [e1, if_true, c2, if_false]
      exact ⟨_, rfl, rfl, Or.inr ⟨_, rfl, rfl⟩⟩
  · have em : ¬ (0 : Int32) ≤ -1 := by decide
    simp only [c1, em, if_false]
    exact ⟨_, rfl, rfl, Or.inr ⟨_, rfl, rfl⟩⟩
