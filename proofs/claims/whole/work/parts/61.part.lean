/-! parts of the smoke -/
def abd (f t : Nat → Int32) (g i : Nat) : Bool := decide ((f i).toInt ≤ (g : Int)) && decide ((g : Int) ≤ (t i).toInt)
theorem p_ab {f t lf lt : Nat → Int32} (h : abOK f t lf lt) {i g : Nat} (hi : i < 12) (hg : g ≤ 10) : f_X6_isAboard f t (nI i) (nI g) = some (if abd f t g i = true then 1 else 0) ∧ f_X9_isAboard lf lt (nI i) (nI g) = some (if abd f t g i = true then 1 else 0) := by
  unfold f_X6_isAboard f_X9_isAboard
  have e1 : inb (nI i) 12 = true := inb_t hi (by omega)
  have e2 : (nI i).toNatClampNeg = i := nI_clamp (by omega)
  have g1 := day_lt (x := f i) (e := g) (by omega)
  have g2 := day_gt (x := t i) (e := g) (by omega)
  simp only [e1, e2, if_true]
  have A : (if nI g < f i then some (0 : Int32) else if t i < nI g then some 0 else some 1) = some (if abd f t g i = true then 1 else 0) := by
    unfold abd
    by_cases c1 : (f i).toInt ≤ (g : Int)
    · rw [if_neg (fun q => (g1.mp q) c1), decide_eq_true c1]
      by_cases c2 : (g : Int) ≤ (t i).toInt
      · rw [if_neg (fun q => (g2.mp q) c2), decide_eq_true c2]; rfl
      · rw [if_pos (g2.mpr c2), decide_eq_false c2]; rfl
    · rw [if_pos (g1.mpr c1), decide_eq_false c1]; rfl
  refine ⟨A, ?_⟩
  rcases h i hi with ⟨q1, q2, q3, q4⟩ | ⟨q1, q2, q3, q4⟩
  · rw [if_pos q3]
    have : abd f t g i = false := by
      unfold abd
      rw [q2]
      have e : (-1 : Int32).toInt = -1 := by decide
      rw [e, decide_eq_false (show ¬ (g : Int) ≤ -1 by omega), Bool.and_false]
    rw [this]
    rfl
  · have n1 : ¬ lf i = -1 := by
      rw [q1]
      intro z
      have := wi_1 q3
      rw [z] at this
      have e : (-1 : Int32).toInt = -1 := by decide
      omega
    rw [if_neg n1, p_in32, q1, q2]
    have e : wi (nI g) (f i).toInt64.toInt (t i).toInt64.toInt = abd f t g i := by
      unfold wi abd
      rw [Int32.toInt_toInt64, Int32.toInt_toInt64, nI_toInt (by omega)]
    rw [e]
    simp only [Option.bind_some, if01b]
    cases abd f t g i <;> rfl
def abT (tn f t : Nat → Int32) (g m : Nat) : Nat := fb_sm (fun i => if abd f t g i = true then (tn i).toNatClampNeg else 0) m
theorem abT_s (tn f t : Nat → Int32) (g m : Nat) : abT tn f t g (m + 1) = abT tn f t g m + if abd f t g m = true then (tn m).toNatClampNeg else 0 := rfl
theorem tn_n {tn w : Nat → Int32} {k : Nat} (hb : ∀ j, j < k → wi (tn j) 1 200 ∧ wi (w j) 0 10000) {j : Nat} (hj : j < k) : 1 ≤ (tn j).toNatClampNeg ∧ (tn j).toNatClampNeg ≤ 200 ∧ tn j = nI (tn j).toNatClampNeg := by
  have h := (hb j hj).1
  obtain ⟨x, hx, e⟩ := wi_nat (b := 200) (x := tn j) (wi_iff.mpr ⟨by have := wi_1 h; omega, wi_2 h⟩) (by omega)
  have := wi_1 h
  rw [e, nI_toInt (by omega)] at this
  rw [e, nI_clamp (by omega)]
  exact ⟨by omega, hx, rfl⟩
theorem abT_le {tn w : Nat → Int32} {k : Nat} (hb : ∀ j, j < k → wi (tn j) 1 200 ∧ wi (w j) 0 10000) (f t : Nat → Int32) (g : Nat) {m : Nat} (hm : m ≤ k) : abT tn f t g m ≤ m * 200 := by
  unfold abT
  apply fb_sm_bound
  intro i hi
  by_cases q : abd f t g i = true
  · rw [if_pos q]; exact (tn_n hb (by omega)).2.1
  · rw [if_neg q]; omega
theorem l_tons {tn w f t lf lt : Nat → Int32} {k : Nat} (hk : k ≤ 12) (hb : ∀ j, j < k → wi (tn j) 1 200 ∧ wi (w j) 0 10000) (h : abOK f t lf lt) {g : Nat} (hg : g ≤ 10) : ∀ (r j n : Nat), j + r = k → r < n → g_X6_tonsAboard_4 tn (nI k) f t n (nI g) (nI (abT tn f t g j)) (nI j) = some (nI (abT tn f t g k)) ∧ g_X9_tonsOn_4 (nI k) tn lf lt n (nI g) (nI (abT tn f t g j)) (nI j) = some (nI (abT tn f t g k)) := by
  intro r
  induction r with
  | zero =>
    intro j n hj hn
    obtain ⟨m, rfl, hm⟩ := succ_of hn
    rw [gs_X6_tonsAboard_4, gs_X9_tonsOn_4]
    unfold f_X6_tonsAboard_4 f_X9_tonsOn_4
    have e : nI k ≤ nI j := nI_le (by omega) (by omega)
    rw [if_pos e, if_pos e, show j = k by omega]
    exact ⟨rfl, rfl⟩
  | succ r ih =>
    intro j n hj hn
    obtain ⟨m, rfl, hm⟩ := succ_of hn
    rw [gs_X6_tonsAboard_4, gs_X9_tonsOn_4]
    unfold f_X6_tonsAboard_4 f_X9_tonsOn_4 f_X6_tonsAboard_36 f_X9_tonsOn_32
    have e : ¬ nI k ≤ nI j := nI_ge (by omega) (by omega)
    have e1 : inb (nI j) 12 = true := inb_t (by omega) (by omega)
    have e2 : (nI j).toNatClampNeg = j := nI_clamp (by omega)
    have e3 : nI j + 1 = nI (j + 1) := nI_1 j
    obtain ⟨a1, a2⟩ := p_ab h (i := j) (by omega) hg
    have I := ih (j + 1) m (by omega) (by omega)
    rw [abT_s] at I
    rw [if_neg e, if_neg e, a1, a2]
    simp only [Option.bind_some, if01b, e1, e2, e3, if_true]
    obtain ⟨t1, t2, t3⟩ := tn_n hb (show j < k by omega)
    cases c : abd f t g j with
    | false =>
      rw [c] at I
      simp only [Bool.false_eq_true, if_false, if_true, Nat.add_zero] at I ⊢
      rw [Int32.add_zero]
      exact I
    | true =>
      rw [c] at I
      simp only [if_true, reduceCtorEq, if_false] at I ⊢
      rw [← nI_add, ← t3] at I
      exact I
theorem p_tons {tn w f t lf lt : Nat → Int32} {k : Nat} (hk : k ≤ 12) (hb : ∀ j, j < k → wi (tn j) 1 200 ∧ wi (w j) 0 10000) (h : abOK f t lf lt) {g : Nat} (hg : g ≤ 10) : f_X6_tonsAboard tn (nI k) f t (nI g) = some (nI (abT tn f t g k)) ∧ f_X9_tonsOn (nI k) tn lf lt (nI g) = some (nI (abT tn f t g k)) := by
  have := l_tons hk hb h hg k 0 FU (by omega) (FU_gt (by omega))
  exact this
theorem i64_sub {x y : Int32} (h1 : -2147483648 ≤ x.toInt - y.toInt) (h2 : x.toInt - y.toInt < 2147483648) : (x - y).toInt = x.toInt - y.toInt ∧ x.toInt64 - y.toInt64 = (x - y).toInt64 := by
  have e : (x - y).toInt = x.toInt - y.toInt := by
    rw [Int32.toInt_sub]
    exact Int.bmod_eq_of_le (by omega) (by omega)
  refine ⟨e, ?_⟩
  apply Int64.toInt_inj.mp
  rw [fb_subL (by rw [Int32.toInt_toInt64, Int32.toInt_toInt64]; omega) (by rw [Int32.toInt_toInt64, Int32.toInt_toInt64]; omega), Int32.toInt_toInt64, Int32.toInt_toInt64, Int32.toInt_toInt64, e]
theorem l_part {tn w f t lf lt sm : Nat → Int32} {k : Nat} (hk : k ≤ 12) (hb : ∀ j, j < k → wi (tn j) 1 200 ∧ wi (w j) 0 10000) (h : abOK f t lf lt) {g : Nat} (hg : g < 10) (S T i : Nat) (hS : S ≤ 100000) (hi : i < k) (eS : sm g = nI S) (hT1 : 1 ≤ T) (hT2 : T ≤ 2400) :
    ∀ (r j n : Nat) (x : Int32) (c : Nat), j + r = k → r < n → c ≤ j → -(j * 20000000) ≤ x.toInt → x.toInt ≤ 100000 → ∃ v, g_X6_partOf_53 tn (nI k) sm f t n (nI i) (nI g) (nI T) (nI (S * (tn i).toNatClampNeg)) x (nI c) (nI j) = some v ∧ g_X9_partOf_52 (nI k) tn lf lt sm n (nI i) (nI g) (lN T) x.toInt64 (nI c) (lN (S * (tn i).toNatClampNeg % T)) (nI j) = some v := by
  obtain ⟨ti1, ti2, ti3⟩ := tn_n hb hi
  have mb : ∀ a, a ≤ 200 → S * a ≤ 20000000 := fun a ha => Nat.le_trans (Nat.mul_le_mul hS ha) (by omega)
  have eg1 : inb (nI g) 10 = true := inb_t hg (by omega)
  have eg2 : (nI g).toNatClampNeg = g := nI_clamp (by omega)
  have eT : ¬ nI T = 0 := fun q => by have := (nI_eq (a := T) (b := 0) (by omega) (by omega)).mp q; omega
  have eTL : ¬ lN T = 0 := fun q => by have := (lN_eq (a := T) (b := 0) (by omega) (by omega)).mp q; omega
  intro r
  induction r with
  | zero =>
    intro j n x c hj hn hc h1 h2
    obtain ⟨m, rfl, hm⟩ := succ_of hn
    rw [gs_X6_partOf_53, gs_X9_partOf_52]
    unfold f_X6_partOf_53 f_X9_partOf_52 f_X6_partOf_145 f_X9_partOf_172
    have e : nI k ≤ nI j := nI_le (by omega) (by omega)
    have ei1 : inb (nI i) 12 = true := inb_t (by omega) (by omega)
    have ei2 : (nI i).toNatClampNeg = i := nI_clamp (by omega)
    have b1 := mb _ ti2
    generalize hB : (tn i).toNatClampNeg = B at *
    rw [if_pos e, if_pos e, if_neg eT, eg1, ei1, if_neg eTL, eg2, ei2, eS, ti3, nI_l (show S < 2 ^ 31 by omega), nI_l (show B < 2 ^ 31 by omega)]
    rw [lN_mul, pk_lDiv (by omega) (by omega) (by omega), lN_i, pk_div (by omega) (by omega) (by omega)]
    have ec : (x ≤ nI c) ↔ (x.toInt64 ≤ (nI c).toInt64) := (fa_wide_le x (nI c)).symm
    by_cases q : x ≤ nI c
    · rw [if_pos q, if_pos rfl, if_pos rfl, if_pos (ec.mp q)]
      exact ⟨_, rfl, rfl⟩
    · rw [if_neg q, if_pos rfl, if_pos rfl, if_neg (fun z => q (ec.mpr z))]
      exact ⟨_, rfl, rfl⟩
  | succ r ih =>
    intro j n x c hj hn hc h1 h2
    obtain ⟨m, rfl, hm⟩ := succ_of hn
    rw [gs_X6_partOf_53, gs_X9_partOf_52]
    unfold f_X6_partOf_53 f_X9_partOf_52 f_X6_partOf_123 f_X9_partOf_126 f_X9_partOf_130 f_X9_partOf_131 f_X9_partOf_134 f_X6_isServedFirst
    have e : ¬ nI k ≤ nI j := nI_ge (by omega) (by omega)
    have e1 : inb (nI j) 12 = true := inb_t (by omega) (by omega)
    have e2 : (nI j).toNatClampNeg = j := nI_clamp (by omega)
    have e3 : nI j + 1 = nI (j + 1) := nI_1 j
    obtain ⟨a1, a2⟩ := p_ab h (i := j) (g := g) (by omega) (by omega)
    obtain ⟨t1, t2, t3⟩ := tn_n hb (show j < k by omega)
    rw [if_neg e, if_neg e, a1, a2]
    simp only [Option.bind_some, if01b]
    cases ca : abd f t g j with
    | false =>
      simp only [if_true, e3]
      exact ih (j + 1) m x c (by omega) (by omega) (by omega) (by omega) h2
    | true =>
      have b1 := mb _ t2
      have b2 := mb _ ti2
      generalize hA : (tn j).toNatClampNeg = A at *
      generalize hB : (tn i).toNatClampNeg = B at *
      simp only [reduceCtorEq, if_false, eg1, e1, if_true, eT, eTL, eg2, e2, e3, eS, t3]
      rw [nI_l (show S < 2 ^ 31 by omega), nI_l (show A < 2 ^ 31 by omega), lN_mul, pk_lRem (by omega) (by omega) (by omega), pk_lDiv (by omega) (by omega) (by omega), pk_mul, pk_rem (a := S * A) (by omega) (by omega) (by omega), pk_rem (a := S * B) (by omega) (by omega) (by omega), pk_div (a := S * A) (by omega) (by omega) (by omega)]
      have hq : S * A / T ≤ 20000000 := Nat.le_trans (Nat.div_le_self _ _) b1
      have r1 : S * A % T < T := Nat.mod_lt _ (by omega)
      have r2 : S * B % T < T := Nat.mod_lt _ (by omega)
      generalize hQ : S * A / T = Q at *
      have eq1 : (nI Q).toInt = (Q : Int) := nI_toInt (by omega)
      obtain ⟨d1, d2⟩ := i64_sub (x := x) (y := nI Q) (by rw [eq1]; omega) (by rw [eq1]; omega)
      rw [nI_l (show Q < 2 ^ 31 by omega)] at d2
      rw [d2]
      have x1 : -((((j + 1 : Nat)) : Int) * 20000000) ≤ (x - nI Q).toInt := by rw [d1, eq1]; omega
      have x2 : (x - nI Q).toInt ≤ 100000 := by rw [d1, eq1]; omega
      have I0 := ih (j + 1) m (x - nI Q) c (by omega) (by omega) (by omega) x1 x2
      have I1 := ih (j + 1) m (x - nI Q) (c + 1) (by omega) (by omega) (by omega) x1 x2
      have ec : nI c + 1 = nI (c + 1) := nI_1 c
      have c1 : (nI (S * B % T) < nI (S * A % T)) ↔ S * B % T < S * A % T := nI_ltI (by omega) (by omega)
      have c2 : (lN (S * B % T) < lN (S * A % T)) ↔ S * B % T < S * A % T := lN_lt (by omega) (by omega)
      have c3 : (nI (S * A % T) = nI (S * B % T)) ↔ S * A % T = S * B % T := nI_eq (by omega) (by omega)
      have c4 : (lN (S * A % T) = lN (S * B % T)) ↔ S * A % T = S * B % T := lN_eq (by omega) (by omega)
      have z1 : ¬ (1 : Int32) = 0 := by decide
      simp only [c1, c2, c3, c4]
      by_cases d : S * B % T < S * A % T
      · simp only [d, if_true, Option.bind_some, z1, if_false, ec]
        exact I1
      · by_cases d' : S * A % T = S * B % T
        · simp only [d', Nat.lt_irrefl, if_false, if_true]
          by_cases d3 : nI i ≤ nI j
          · simp only [d3, if_true, Option.bind_some, Int32.add_zero]
            exact I0
          · simp only [d3, if_false, Option.bind_some, z1, ec]
            exact I1
        · simp only [d, d', if_false, Option.bind_some, if_true, Int32.add_zero]
          exact I0
theorem p_part {tn w f t lf lt sm : Nat → Int32} {k G : Nat} (hk : k ≤ 12) (hG : G ≤ 10) (hb : ∀ j, j < k → wi (tn j) 1 200 ∧ wi (w j) 0 10000) (h : abOK f t lf lt) (hs : ∀ j, j < G → wi (sm j) 0 100000) {g i : Nat} (hg : g < G) (hi : i < k) : ∃ v, f_X6_partOf tn (nI k) sm f t (nI i) (nI g) = some v ∧ f_X9_partOf (nI k) tn lf lt sm (nI i) (nI g) = some v := by
  unfold f_X6_partOf f_X9_partOf
  obtain ⟨q1, q2⟩ := p_tons hk hb h (show g ≤ 10 by omega)
  obtain ⟨a1, a2⟩ := p_ab h (i := i) (g := g) (by omega) (by omega)
  obtain ⟨S, hS, eS⟩ := wi_nat (b := 100000) (hs g hg) (by omega)
  have hle := abT_le hb f t g (Nat.le_refl k)
  rw [q1, q2, a1, a2]
  simp only [Option.bind_some, if01b]
  cases c : abd f t g i with
  | false =>
    simp only [if_true]
    by_cases d : nI (abT tn f t g k) = 0
    · rw [if_pos d]; exact ⟨_, rfl, rfl⟩
    · rw [if_neg d]; exact ⟨_, rfl, rfl⟩
  | true =>
    obtain ⟨ti1, ti2, ti3⟩ := tn_n hb hi
    have hT1 : 1 ≤ abT tn f t g k := by
      have := fb_sm_part (fun i => if abd f t g i = true then (tn i).toNatClampNeg else 0) hi
      simp only [c, if_true] at this
      unfold abT
      omega
    have eT : ¬ nI (abT tn f t g k) = 0 := fun q => by have := (nI_eq (a := abT tn f t g k) (b := 0) (by omega) (by omega)).mp q; omega
    have eTL : ¬ lN (abT tn f t g k) = 0 := fun q => by have := (lN_eq (a := abT tn f t g k) (b := 0) (by omega) (by omega)).mp q; omega
    have L := l_part (sm := sm) hk hb h (show g < 10 by omega) S (abT tn f t g k) i hS hi eS hT1 (by omega) k 0 FU (nI S) 0 (by omega) (FU_gt (by omega)) (Nat.le_refl _) (by rw [nI_toInt (by omega)]; omega) (by rw [nI_toInt (by omega)]; omega)
    have b1 : S * (tn i).toNatClampNeg ≤ 20000000 := Nat.le_trans (Nat.mul_le_mul hS ti2) (by omega)
    generalize hB : (tn i).toNatClampNeg = B at *
    have hB31 : B < 2 ^ 31 := by omega
    rw [nI_l (show S < 2 ^ 31 by omega)] at L
    have z : nI 0 = (0 : Int32) := rfl
    rw [z] at L
    simp only [reduceCtorEq, if_false, eT, inb_t (show g < 10 by omega) (show 10 < 2 ^ 31 by omega), inb_t (show i < 12 by omega) (show 12 < 2 ^ 31 by omega), if_true, nI_clamp (show g < 2 ^ 31 by omega), nI_clamp (show i < 2 ^ 31 by omega), eS, ti3, nI_l (show abT tn f t g k < 2 ^ 31 by omega), eTL, nI_l (show S < 2 ^ 31 by omega), nI_l hB31]
    rw [lN_mul, pk_lRem (by omega) (by omega) (by omega), pk_mul]
    exact L
theorem sx_part (th : Int32) (tn w f t lf lt sm : Nat → Int32) (k G : Nat) (hk : k ≤ 12) (hG : G ≤ 10) (hb : ∀ j, j < k → wi (tn j) 1 200 ∧ wi (w j) 0 10000) (h : abOK f t lf lt) (hs : ∀ j, j < G → wi (sm j) 0 100000) (a b : Int32) :
    ∃ X Y, f_X8_part tn (nI k) sm f t (nI G) a b = some X ∧ f_X9_part th (nI k) tn lf lt (nI G) sm a b = some Y ∧ X = Y.1 := by
  unfold f_X8_part f_X9_part
  rw [p_has k (by omega), p_isLoad k (by omega)]
  simp only [p_hasL G (show G < 2 ^ 30 by omega), p_isLeg G (show G < 2 ^ 30 by omega), Option.bind_some, if01b, if01]
  rcases Bool.eq_false_or_eq_true (wi a 0 ((k : Int) - 1)) with h1 | h1
  · rcases Bool.eq_false_or_eq_true (wi b 0 ((G : Int) - 1)) with h2 | h2
    · obtain ⟨i, hi, rfl⟩ := (wi_below (by omega)).mp h1
      obtain ⟨g, hg, rfl⟩ := (wi_below (by omega)).mp h2
      obtain ⟨v, v1, v2⟩ := p_part hk hG hb h hs hg hi
      simp only [h1, h2, reduceCtorEq, Bool.false_eq_true, not_false_eq_true, not_true_eq_false, if_false, v1, v2, Option.bind_some]
      exact ⟨_, _, rfl, rfl, rfl⟩
    · simp only [h1, h2, reduceCtorEq, Bool.false_eq_true, not_false_eq_true, not_true_eq_false, if_false, if_true]
      exact ⟨_, _, rfl, rfl, rfl⟩
  · simp only [h1, reduceCtorEq, Bool.false_eq_true, not_false_eq_true, not_true_eq_false, if_true]
    exact ⟨_, _, rfl, rfl, rfl⟩
