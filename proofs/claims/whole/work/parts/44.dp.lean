/-! the passage: its values by days -/
def btr (x y : Int64 × Int64) : Bool := decide (y.1 < x.1) || (decide (x.1 = y.1) && decide (x.2 < y.2))
theorem btr_iff (x y : Int64 × Int64) : btr x y = true ↔ (y.1.toInt < x.1.toInt ∨ (x.1.toInt = y.1.toInt ∧ x.2.toInt < y.2.toInt)) := by
  unfold btr
  rw [Bool.or_eq_true, Bool.and_eq_true, decide_eq_true_iff, decide_eq_true_iff, decide_eq_true_iff, Int64.lt_iff_toInt_lt, Int64.lt_iff_toInt_lt, ← Int64.toInt_inj]
theorem btr_tr {x y z : Int64 × Int64} (h1 : btr x y = true) (h2 : btr y z = true) : btr x z = true := by
  rw [btr_iff] at *
  omega
theorem btr_nt {x y z : Int64 × Int64} (h1 : ¬ btr x y = true) (h2 : ¬ btr y z = true) : ¬ btr x z = true := by
  rw [btr_iff] at *
  omega
/-- the choice, as the reference makes it -/
def pick (s e w : Int64 × Int64) (c : Bool) : Int32 × Int64 × Int64 :=
  if btr w (if c = true ∧ btr e s = true then (1, e) else ((0 : Int32), s)).2 = true then (2, w) else (if c = true ∧ btr e s = true then (1, e) else (0, s))
/-- the choice, as the class makes it -/
def calm (e w : Int64 × Int64) (c : Bool) : Int32 × Int64 × Int64 := if c = true ∧ ¬ btr w e = true then (1, e) else (2, w)
theorem pick_calm (s e w : Int64 × Int64) (c : Bool) : (if btr (calm e w c).2 s = true then calm e w c else (0, s)) = pick s e w c := by
  unfold calm pick
  cases c
  · simp
  · by_cases h1 : btr e s = true
    · by_cases h2 : btr w e = true
      · have h3 := btr_tr h2 h1
        simp [h1, h2, h3]
      · simp [h1, h2]
    · by_cases h2 : btr w e = true
      · simp [h1, h2]
      · have h3 := btr_nt h2 h1
        simp [h1, h2, h3]
def p16 (d : Nat) : Int64 := lN (16 ^ d)
def sum4 (f : Nat → Int64) : Int64 := (((0 + f 0) + f 1) + f 2) + f 3
/-- chance and mean coal of d days, m miles, c coal -/
def dpV (sl : Nat → Nat) (en : Nat) (wt : Nat → Int64) : Nat → Nat → Nat → Int64 × Int64
  | 0, m, _ => (if m = 0 then 1 else 0, 0)
  | d + 1, m, c => if m = 0 then (p16 (d + 1), 0) else
      (sum4 (fun w => wt w * (pick (dpV sl en wt d (m - sl w) c) ((dpV sl en wt d (m - en) (c - 1)).1, (dpV sl en wt d (m - en) (c - 1)).2 + p16 d) (dpV sl en wt d m c) (decide (0 < c))).2.1),
       sum4 (fun w => wt w * (pick (dpV sl en wt d (m - sl w) c) ((dpV sl en wt d (m - en) (c - 1)).1, (dpV sl en wt d (m - en) (c - 1)).2 + p16 d) (dpV sl en wt d m c) (decide (0 < c))).2.2))
def dpO (sl : Nat → Nat) (en : Nat) (wt : Nat → Int64) (d m c w : Nat) : Int32 × Int64 × Int64 :=
  pick (dpV sl en wt d (m - sl w) c) ((dpV sl en wt d (m - en) (c - 1)).1, (dpV sl en wt d (m - en) (c - 1)).2 + p16 d) (dpV sl en wt d m c) (decide (0 < c))
theorem dpV_0 (sl : Nat → Nat) (en : Nat) (wt : Nat → Int64) (d c : Nat) : dpV sl en wt d 0 c = (p16 d, 0) := by
  cases d with
  | zero => rfl
  | succ d => unfold dpV; rw [if_pos rfl]
theorem dpV_s (sl : Nat → Nat) (en : Nat) (wt : Nat → Int64) (d c : Nat) {m : Nat} (hm : 0 < m) : dpV sl en wt (d + 1) m c = (sum4 (fun w => wt w * (dpO sl en wt d m c w).2.1), sum4 (fun w => wt w * (dpO sl en wt d m c w).2.2)) := by
  rw [dpV, if_neg (by omega)]
  rfl
/-- the class's places and parts -/
theorem p_at (d m c : Nat) : f_X2_at (nI d) (nI m) (nI c) = some (nI (d * 1573 + m * 13 + c)) := by
  unfold f_X2_at
  have e1 : nI d * (1573 : Int32) = nI (d * 1573) := pk_mul d 1573
  have e2 : nI m * (13 : Int32) = nI (m * 13) := pk_mul m 13
  rw [e1, e2, nI_add, nI_add]
theorem p_parts {d : Nat} (hd : d ≤ 12) : f_X2_parts (nI d) = some (p16 d) := by
  have h : ∀ d, d ≤ 12 → ((1 : Int64) <<< (((4 : Int32) * nI d).toInt64 &&& 63)) = p16 d := by decide +kernel
  unfold f_X2_parts
  rw [h d hd]
theorem p_at9 {d c m : Nat} (hd : d ≤ 12) (hc : c ≤ 12) (hm : m ≤ 120) : f_X9_at (nI d) (nI c) (nI m) = some (nI ((13 * d + c) * 121 + m)) := by
  unfold f_X9_at f_X9_at_18
  have e0 : (0 : Int32) ≤ nI m := nI_pos' (by omega)
  have e1 : (13 : Int32) * nI d = nI (13 * d) := pk_mul 13 d
  have e2 : nI (13 * d + c) * (121 : Int32) = nI ((13 * d + c) * 121) := pk_mul _ 121
  rw [if_pos e0, e1, nI_add, e2, nI_add]
/-- a difference that may be below nothing -/
theorem sub_pos {a b : Nat} (ha : a < 2 ^ 30) (hb : b < 2 ^ 30) : (if (0 : Int32) < nI a - nI b then nI a - nI b else (0 : Int32)) = nI (a - b) := by
  have e := pk_sub_toInt ha hb
  by_cases h : b < a
  · have h1 : (0 : Int32) < nI a - nI b := by
      rw [Int32.lt_iff_toInt_lt, e]
      have : (0 : Int32).toInt = 0 := rfl
      omega
    rw [if_pos h1, pk_sub (by omega)]
  · have h1 : ¬ (0 : Int32) < nI a - nI b := by
      rw [Int32.lt_iff_toInt_lt, e]
      have : (0 : Int32).toInt = 0 := rfl
      omega
    rw [if_neg h1, show a - b = 0 by omega]
    rfl
theorem p_at9s {d c m x : Nat} (hd : d ≤ 12) (hc : c ≤ 12) (hm : m ≤ 120) (hx : x ≤ 20) : f_X9_at (nI d) (nI c) (nI m - nI x) = some (nI ((13 * d + c) * 121 + (m - x))) := by
  have e := pk_sub_toInt (a := m) (b := x) (by omega) (by omega)
  by_cases h : x ≤ m
  · rw [pk_sub h, p_at9 hd hc (by omega)]
  · unfold f_X9_at f_X9_at_18
    have e0 : ¬ (0 : Int32) ≤ nI m - nI x := by
      rw [Int32.le_iff_toInt_le, e]
      have : (0 : Int32).toInt = 0 := rfl
      omega
    have e1 : (13 : Int32) * nI d = nI (13 * d) := pk_mul 13 d
    have e2 : nI (13 * d + c) * (121 : Int32) = nI ((13 * d + c) * 121) := pk_mul _ 121
    rw [if_neg e0, e1, nI_add, e2, show m - x = 0 by omega]
    show some (nI _ + nI 0) = _
    rw [nI_add]
theorem p_better (C B : Nat → Int64) (i j : Nat) (hi : i < 20449) (hj : j < 20449) (f g : Int64) : f_X2_isBetter C B (nI i) f (nI j) g = some (if btr (C i, B i + f) (C j, B j + g) = true then 1 else 0) := by
  unfold f_X2_isBetter
  rw [inb_t hi (by omega), inb_t hj (by omega), nI_clamp (by omega), nI_clamp (by omega)]
  simp only [if_true]
  by_cases h1 : C i = C j
  · by_cases h2 : B j + g ≤ B i + f
    · have h3 : ¬ btr (C i, B i + f) (C j, B j + g) = true := by
        rw [btr_iff]
        have := Int64.le_iff_toInt_le.mp h2
        have h4 : (C i).toInt = (C j).toInt := by rw [h1]
        simp only
        omega
      rw [if_pos h1, if_pos h2, if_neg h3]
    · have h3 : btr (C i, B i + f) (C j, B j + g) = true := by
        rw [btr_iff]
        have := Int64.lt_iff_toInt_lt.mp (Int64.not_le.mp h2)
        have h4 : (C i).toInt = (C j).toInt := by rw [h1]
        simp only
        omega
      rw [if_pos h1, if_neg h2, if_pos h3]
  · have h0 : (C i).toInt ≠ (C j).toInt := fun q => h1 (Int64.toInt_inj.mp q)
    by_cases h2 : C i ≤ C j
    · have h3 : ¬ btr (C i, B i + f) (C j, B j + g) = true := by
        rw [btr_iff]
        have := Int64.le_iff_toInt_le.mp h2
        simp only
        omega
      rw [if_neg h1, if_pos h2, if_neg h3]
    · have h3 : btr (C i, B i + f) (C j, B j + g) = true := by
        rw [btr_iff]
        have := Int64.lt_iff_toInt_lt.mp (Int64.not_le.mp h2)
        simp only
        omega
      rw [if_neg h1, if_neg h2, if_pos h3]
/-- what a day of the table holds -/
def dayOK (sl : Nat → Nat) (en : Nat) (wt : Nat → Int64) (C B : Nat → Int64) (d M K : Nat) : Prop := ∀ m c, m ≤ M → c ≤ K → (C (d * 1573 + m * 13 + c), B (d * 1573 + m * 13 + c)) = dpV sl en wt d m c
theorem dayOK.ch {sl : Nat → Nat} {en : Nat} {wt : Nat → Int64} {C B : Nat → Int64} {d M K m c : Nat} (h : dayOK sl en wt C B d M K) (hm : m ≤ M) (hc : c ≤ K) : C (d * 1573 + m * 13 + c) = (dpV sl en wt d m c).1 := congrArg Prod.fst (h m c hm hc)
theorem dayOK.bu {sl : Nat → Nat} {en : Nat} {wt : Nat → Int64} {C B : Nat → Int64} {d M K m c : Nat} (h : dayOK sl en wt C B d M K) (hm : m ≤ M) (hc : c ≤ K) : B (d * 1573 + m * 13 + c) = (dpV sl en wt d m c).2 := congrArg Prod.snd (h m c hm hc)
theorem p_calm {sl : Nat → Nat} {en : Nat} {wt : Nat → Int64} {C B : Nat → Int64} {d M K m c : Nat} (h : dayOK sl en wt C B d M K) (hd : d ≤ 11) (hM : M ≤ 120) (hK : K ≤ 12) (hm : m ≤ M) (hc : c ≤ K) (he : en ≤ 20) :
    f_X2_calmChoice C B (nI en) (nI (d + 1)) (nI m) (nI c) = some (calm ((dpV sl en wt d (m - en) (c - 1)).1, (dpV sl en wt d (m - en) (c - 1)).2 + p16 d) (dpV sl en wt d m c) (decide (0 < c))).1 := by
  unfold f_X2_calmChoice f_X2_afterCalm f_X2_fuel
  have ed : nI (d + 1) - (1 : Int32) = nI d := nI_pred d
  by_cases h0 : c = 0
  · subst h0
    have : nI 0 = (0 : Int32) := rfl
    simp only [this, if_true]
    unfold calm
    simp
  · have h1 : ¬ nI c = (0 : Int32) := nI_ne0 (by omega) (by omega)
    have ec : nI c - (1 : Int32) = nI (c - 1) := pk_sub (b := 1) (by omega)
    have z : ((2 : Int32) = 1) = False := by decide
    have o : ((1 : Int32) = 1) = True := by decide
    simp only [h1, if_false, z, o, if_true, ed, ec, p_at, p_parts (show d ≤ 12 by omega), Option.bind_some, sub_pos (show m < 2 ^ 30 by omega) (show en < 2 ^ 30 by omega)]
    rw [p_better _ _ _ _ (by omega) (by omega)]
    simp only [Option.bind_some, if01]
    have A1 := h.ch hm hc
    have A2 := h.bu hm hc
    have A3 := h.ch (m := m - en) (c := c - 1) (by omega) (by omega)
    have A4 := h.bu (m := m - en) (c := c - 1) (by omega) (by omega)
    rw [A1, A2, A3, A4]
    unfold calm
    have hc0 : decide (0 < c) = true := decide_eq_true (by omega)
    rw [hc0]
    have e0 : (dpV sl en wt d m c).2 + 0 = (dpV sl en wt d m c).2 := Int64.add_zero _
    rw [e0]
    by_cases hb : btr (dpV sl en wt d m c) ((dpV sl en wt d (m - en) (c - 1)).1, (dpV sl en wt d (m - en) (c - 1)).2 + p16 d) = true
    · have hb' : btr ((dpV sl en wt d m c).1, (dpV sl en wt d m c).2) ((dpV sl en wt d (m - en) (c - 1)).1, (dpV sl en wt d (m - en) (c - 1)).2 + p16 d) = true := hb
      simp [hb, hb']
    · have hb' : ¬ btr ((dpV sl en wt d m c).1, (dpV sl en wt d m c).2) ((dpV sl en wt d (m - en) (c - 1)).1, (dpV sl en wt d (m - en) (c - 1)).2 + p16 d) = true := hb
      simp [hb, hb']
