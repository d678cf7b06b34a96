/-! stow: both sides -/
def free2 (ap : Nat → Int32) (S : Nat) : Prop := ∀ i i', i < 12 → i' < 12 → S.testBit i = true → S.testBit i' = true → bt (ap i) i' = false
theorem free2_ok {ap : Nat → Int32} {S k : Nat} (hk : k ≤ 12) (hS : S < 2 ^ 12) (h : free2 ap S) : okF ap S k = true :=
  (okF_iff k).mpr (fun i hi q => (and0 hS).mpr (fun i' hi' q' => h i i' (by omega) hi' q q'))
theorem pow12 {k : Nat} (hk : k ≤ 12) : 2 ^ k ≤ 2 ^ 12 := Nat.pow_le_pow_right (by omega) hk
theorem l_choose {t w ap : Nat → Int32} {k : Nat} (hk : k ≤ 12) (hb : ∀ j, j < k → wi (t j) 1 200 ∧ wi (w j) 0 10000) (hap : apOK ap) (R : Nat) (hR : R ≤ 1000) :
    ∀ (j f a : Nat) (b : B3), j ≤ k → j < f → 2 ^ j * a + 2 ^ j ≤ 2 ^ k → free2 ap (2 ^ j * a) → sT t (2 ^ j * a) k ≤ R → r_X1_choose t w ap (nI R) f b.1 b.2.1 b.2.2 (nI j - 1) (nI (2 ^ j * a)) (nI (sT t (2 ^ j * a) k)) (nI (sT w (2 ^ j * a) k)) = some (fld t w ap k R b (2 ^ j * a) (2 ^ j)) := by
  intro j
  induction j with
  | zero =>
    intro f a b hj hf hS hfr hT
    obtain ⟨m, rfl, hm⟩ := succ_of hf
    show h_X1_choose t w ap (nI R) (fun b1 b2 b3 x1 x2 x3 x4 => r_X1_choose t w ap (nI R) m b1 b2 b3 x1 x2 x3 x4) b.1 b.2.1 b.2.2 (nI 0 - 1) (nI (2 ^ 0 * a)) (nI (sT t (2 ^ 0 * a) k)) (nI (sT w (2 ^ 0 * a) k)) = _
    unfold h_X1_choose f_X1_keepIfBetter f_X1_keepIfBetter_24
    have e0 : ¬ (0 : Int32) ≤ nI 0 - 1 := by decide
    have p12 := pow12 hk
    have ok : (okF ap (2 ^ 0 * a) k && decide (sT t (2 ^ 0 * a) k ≤ R)) = true := by
      rw [free2_ok hk (by omega) hfr, decide_eq_true hT]; rfl
    rw [if_neg e0]
    have e1 : fld t w ap k R b (2 ^ 0 * a) (2 ^ 0) = keepB t w k b (2 ^ 0 * a) := by
      show stp t w ap k R b (2 ^ 0 * a) = _
      unfold stp
      rw [if_pos ok]
    rw [e1]
    unfold keepB
    by_cases c1 : b.2.2 < nI (sT w (2 ^ 0 * a) k)
    · rw [if_pos c1, if_pos c1]; rfl
    · rw [if_neg c1, if_neg c1]
      by_cases c2 : nI (sT w (2 ^ 0 * a) k) = b.2.2
      · rw [if_pos c2, if_pos c2]
        by_cases c3 : b.2.1 ≤ nI (sT t (2 ^ 0 * a) k)
        · rw [if_pos c3, if_pos c3]; rfl
        · rw [if_neg c3, if_neg c3]; rfl
      · rw [if_neg c2, if_neg c2]; rfl
  | succ j ih =>
    intro f a b hj hf hS hfr hT
    obtain ⟨m, rfl, hm⟩ := succ_of hf
    have eS : 2 ^ (j + 1) * a = 2 ^ j * (2 * a) := by rw [Nat.pow_succ, Nat.mul_assoc]
    have eP : 2 ^ (j + 1) = 2 ^ j + 2 ^ j := by rw [Nat.pow_succ]; omega
    have eN : 2 ^ j * (2 * a + 1) = 2 ^ j * (2 * a) + 2 ^ j := by rw [Nat.mul_add, Nat.mul_one]
    rw [eS] at hS hfr hT ⊢
    rw [eP] at hS
    have p12 := pow12 hk
    have hp := Nat.two_pow_pos j
    show h_X1_choose t w ap (nI R) (fun b1 b2 b3 x1 x2 x3 x4 => r_X1_choose t w ap (nI R) m b1 b2 b3 x1 x2 x3 x4) b.1 b.2.1 b.2.2 (nI (j + 1) - 1) (nI (2 ^ j * (2 * a))) (nI (sT t (2 ^ j * (2 * a)) k)) (nI (sT w (2 ^ j * (2 * a)) k)) = _
    unfold h_X1_choose
    have e1 : nI (j + 1) - (1 : Int32) = nI j := nI_pred j
    have e2 : (0 : Int32) ≤ nI j := nI_pos' (by omega)
    have I := ih m (2 * a) b (by omega) (by omega) (by omega) hfr hT
    rw [eP, fld_add, ← eN]
    simp only [e1, e2, if_true, I, Option.bind_some, inb_t (show j < 12 by omega) (show 12 < 2 ^ 31 by omega), nI_clamp (show j < 2 ^ 31 by omega)]
    obtain ⟨tj, htj, etj⟩ := wi_nat (b := 200) (x := t j) (wi_iff.mpr ⟨by have := wi_1 (hb j (by omega)).1; omega, wi_2 (hb j (by omega)).1⟩) (by omega)
    obtain ⟨wj, hwj, ewj⟩ := wi_nat (b := 10000) (hb j (by omega)).2 (by omega)
    have ct : (t j).toNatClampNeg = tj := by rw [etj, nI_clamp (by omega)]
    have cw : (w j).toNatClampNeg = wj := by rw [ewj, nI_clamp (by omega)]
    have nT := sT_new t j a k
    have nW := sT_new w j a k
    rw [if_pos (show j < k by omega), ct] at nT
    rw [if_pos (show j < k by omega), cw] at nW
    rw [etj, ewj, nI_add, nI_add, ← nT, ← nW]
    have e3 : (nI R < nI (sT t (2 ^ j * (2 * a + 1)) k)) ↔ R < sT t (2 ^ j * (2 * a + 1)) k := nI_ltI (by omega) (by omega)
    by_cases c1 : R < sT t (2 ^ j * (2 * a + 1)) k
    · suffices N : ∀ c : B3, fld t w ap k R c (2 ^ j * (2 * a + 1)) (2 ^ j) = c by
        rw [if_pos (e3.mpr c1), N]
      intro c
      apply fld_no
      intro r hr
      have h1 : ¬ sT t (2 ^ j * (2 * a + 1) + r) k ≤ R := by
        have := sT_sub (t := t) (S := 2 ^ j * (2 * a + 1)) (s := 2 ^ j * (2 * a + 1) + r) (fun i q => tb_part hr i q) k
        omega
      rw [decide_eq_false h1, Bool.and_false]
    · rw [if_neg (fun z => c1 (e3.mp z))]
      have hS12 : 2 ^ j * (2 * a) < 2 ^ 12 := by omega
      by_cases c2 : ap j &&& nI (2 ^ j * (2 * a)) = 0
      · rw [if_pos c2, shl1 j (by omega)]
        have eor : nI (2 ^ j * (2 * a)) ||| nI (2 ^ j) = nI (2 ^ j * (2 * a + 1)) := by
          rw [← eS, fa_or_sum (k := j + 1) a (by omega), eS, ← eN]
        rw [eor]
        have hfr' : free2 ap (2 ^ j * (2 * a + 1)) := by
          intro i i' hi hi' q q'
          rw [tb_new] at q q'
          have c3 := (and0 hS12).mp c2
          by_cases a1 : i = j
          · by_cases a2 : i' = j
            · rw [a1, a2]; exact hap.2 j (by omega)
            · rw [if_neg a2] at q'
              rw [a1]; exact c3 i' hi' q'
          · rw [if_neg a1] at q
            by_cases a2 : i' = j
            · rw [a2, hap.1 i j hi (by omega)]; exact c3 i hi q
            · rw [if_neg a2] at q'
              exact hfr i i' hi hi' q q'
        have I2 := ih m (2 * a + 1) (fld t w ap k R b (2 ^ j * (2 * a)) (2 ^ j)) (by omega) (by omega) (by omega) hfr' (by omega)
        rw [I2]
        rfl
      · suffices N : ∀ c : B3, fld t w ap k R c (2 ^ j * (2 * a + 1)) (2 ^ j) = c by
          rw [if_neg c2, N]
        intro c
        apply fld_no
        intro r hr
        have h1 : okF ap (2 ^ j * (2 * a + 1) + r) k = false := by
          cases q : okF ap (2 ^ j * (2 * a + 1) + r) k with
          | false => rfl
          | true =>
            exfalso
            apply c2
            have h2 := (okF_iff k).mp q j (by omega) (tb_part hr j (by rw [tb_new, if_pos rfl]))
            have h3 := (and0 (show 2 ^ j * (2 * a + 1) + r < 2 ^ 12 by omega)).mp h2
            apply (and0 hS12).mpr
            intro i hi q1
            apply h3 i hi
            apply tb_part hr
            rw [tb_new]
            by_cases z : i = j
            · rw [if_pos z]
            · rw [if_neg z]; exact q1
        rw [h1, Bool.false_and]
theorem l_65 {t w ap : Nat → Int32} {k : Nat} (hk : k ≤ 12) (hb : ∀ j, j < k → wi (t j) 1 200 ∧ wi (w j) 0 10000) (R : Nat) (hR : R ≤ 1000) (kh : (Int32) → Int32 → Int32 → Int32 → Int32 → Int32 → Int32 → Option (Int32 × (Int32))) (th z : Int32) (b : B3) (s : Nat) (hs : s < 2 ^ 12) :
    ∀ (r j f : Nat), j + r = k → r < f → g_X9_stow_65 (nI k) t w ap kh f th (nI R) z b.1 b.2.1 b.2.2 (nI s) (nI (sT t s j)) (nI (sT w s j)) (if okF ap s j = true then 1 else 0) (nI j) = kh th (nI R) z (stp t w ap k R b s).1 (stp t w ap k R b s).2.1 (stp t w ap k R b s).2.2 (nI (s + 1)) := by
  have hbt : ∀ j, j < k → ∃ tj, tj ≤ 200 ∧ t j = nI tj := fun j hj => wi_nat (b := 200) (x := t j) (wi_iff.mpr ⟨by have := wi_1 (hb j hj).1; omega, wi_2 (hb j hj).1⟩) (by omega)
  have hbw : ∀ j, j < k → ∃ wj, wj ≤ 10000 ∧ w j = nI wj := fun j hj => wi_nat (b := 10000) (hb j hj).2 (by omega)
  have bT : ∀ m, m ≤ k → sT t s m ≤ m * 200 := fun m hm => sT_le (k := k) (fun i hi => by obtain ⟨x, hx, e⟩ := hbt i hi; rw [e, nI_clamp (by omega)]; exact hx) s hm
  have e7 : nI s + 1 = nI (s + 1) := nI_1 s
  intro r
  induction r with
  | zero =>
    intro j f hj hf
    obtain ⟨m, rfl, hm⟩ := succ_of hf
    have hjk : j = k := by omega
    subst hjk
    rw [gs_X9_stow_65]
    unfold f_X9_stow_65 f_X9_stow_183 f_X9_stow_172 f_X9_stow_183
    have e : nI j ≤ nI j := nI_le (by omega) (by omega)
    rw [if_pos e, e7]
    have e3 : (nI R < nI (sT t s j)) ↔ R < sT t s j := nI_ltI (by omega) (by have := bT j (Nat.le_refl _); omega)
    unfold stp
    have z1 : ¬ (1 : Int32) = 0 := by decide
    cases ok : okF ap s j with
    | false => simp only [Bool.false_eq_true, if_false, if_true, Bool.false_and]
    | true =>
      simp only [if_true, z1, if_false, Bool.true_and]
      by_cases c : sT t s j ≤ R
      · rw [if_neg (fun q => by have := e3.mp q; omega), decide_eq_true c]
        unfold keepB
        simp only [if_true]
        by_cases c1 : b.2.2 < nI (sT w s j)
        · rw [if_pos c1, if_pos c1]
        · rw [if_neg c1, if_neg c1]
          by_cases c2 : nI (sT w s j) = b.2.2
          · rw [if_pos c2, if_pos c2]
            by_cases c3 : b.2.1 ≤ nI (sT t s j)
            · rw [if_pos c3, if_pos c3]
            · rw [if_neg c3, if_neg c3]
          · rw [if_neg c2, if_neg c2]
      · rw [if_pos (e3.mpr (by omega)), decide_eq_false c]
        simp only [Bool.false_eq_true, if_false]
  | succ r ih =>
    intro j f hj hf
    obtain ⟨m, rfl, hm⟩ := succ_of hf
    rw [gs_X9_stow_65]
    unfold f_X9_stow_65 f_X9_stow_131 f_X9_stow_132 f_X9_stow_134
    have e : ¬ nI k ≤ nI j := nI_ge (by omega) (by omega)
    have e3 : nI j + 1 = nI (j + 1) := nI_1 j
    have i := ih (j + 1) m (by omega) (by omega)
    obtain ⟨tj, htj, etj⟩ := hbt j (by omega)
    obtain ⟨wj, hwj, ewj⟩ := hbw j (by omega)
    have ct : (t j).toNatClampNeg = tj := by rw [etj, nI_clamp (by omega)]
    have cw : (w j).toNatClampNeg = wj := by rw [ewj, nI_clamp (by omega)]
    rw [sT_s, sT_s, okF_s, ct, cw] at i
    simp only [e, e3, if_false, inb_t (show j < 12 by omega) (show 12 < 2 ^ 31 by omega), nI_clamp (show j < 2 ^ 31 by omega), if_true, etj, ewj, nI_add]
    have e4 := bit1 (s := s) (j := j) (by omega) (by omega)
    have z1 : ¬ (1 : Int32) = 0 := by decide
    cases c : s.testBit j with
    | false =>
      rw [c] at e4 i
      rw [if_neg (fun q => by have := e4.mp q; cases this)]
      simp only [Bool.false_eq_true, if_false, Nat.add_zero, Bool.not_false, Bool.true_or, Bool.and_true] at i
      exact i
    | true =>
      rw [c] at e4 i
      rw [if_pos (e4.mpr rfl)]
      simp only [if_true, Bool.not_true, Bool.false_or] at i
      cases ok : okF ap s j with
      | false =>
        rw [ok] at i
        simp only [Bool.false_and, Bool.false_eq_true, if_false] at i
        simp only [Bool.false_eq_true, if_false, if_true]
        exact i
      | true =>
        rw [ok] at i
        simp only [Bool.true_and, decide_eq_true_eq] at i
        simp only [if_true, z1, if_false]
        by_cases c2 : ap j &&& nI s = 0
        · rw [if_pos c2] at i ⊢
          exact i
        · rw [if_neg c2] at i ⊢
          exact i
theorem l_42 {t w ap : Nat → Int32} {k : Nat} (hk : k ≤ 12) (hb : ∀ j, j < k → wi (t j) 1 200 ∧ wi (w j) 0 10000) (R : Nat) (hR : R ≤ 1000) (th z : Int32) :
    ∀ (r s f : Nat) (b : B3), s + r = 2 ^ k → r < f → g_X9_stow_42 (nI k) t w ap f th (nI R) z b.1 b.2.1 b.2.2 (nI s) = some (if z = 0 then ((fld t w ap k R b s r).1, th) else if z = 1 then ((fld t w ap k R b s r).2.1, th) else ((fld t w ap k R b s r).2.2, th)) := by
  have p12 := pow12 hk
  intro r
  induction r with
  | zero =>
    intro s f b hs hf
    obtain ⟨m, rfl, hm⟩ := succ_of hf
    rw [gs_X9_stow_42]
    unfold f_X9_stow_42
    rw [shl1 k (by omega)]
    have e : nI (2 ^ k) ≤ nI s := nI_le (by omega) (by omega)
    rw [if_pos e]
    show (if z = 0 then _ else _) = some (if z = 0 then (b.1, th) else if z = 1 then (b.2.1, th) else (b.2.2, th))
    by_cases c : z = 0
    · rw [if_pos c, if_pos c]
    · rw [if_neg c, if_neg c]
      by_cases c2 : z = 1
      · rw [if_pos c2, if_pos c2]
      · rw [if_neg c2, if_neg c2]
  | succ r ih =>
    intro s f b hs hf
    obtain ⟨m, rfl, hm⟩ := succ_of hf
    rw [gs_X9_stow_42]
    unfold f_X9_stow_42
    rw [shl1 k (by omega)]
    have e : ¬ nI (2 ^ k) ≤ nI s := nI_ge (by omega) (by omega)
    rw [if_neg e]
    have K := l_65 (ap := ap) hk hb R hR (fun a1 a2 a3 a4 a5 a6 a7 => g_X9_stow_42 (nI k) t w ap m a1 a2 a3 a4 a5 a6 a7) th z b s (by omega) k 0 FU (by omega) (FU_gt (by omega))
    have z0 : nI (sT t s 0) = (0 : Int32) := rfl
    have z1 : nI (sT w s 0) = (0 : Int32) := rfl
    have z2 : nI 0 = (0 : Int32) := rfl
    have z3 : (if okF ap s 0 = true then (1 : Int32) else 0) = 1 := rfl
    rw [z0, z1, z2, z3] at K
    rw [K, fld_s]
    exact ih (s + 1) m (stp t w ap k R b s) (by omega) (by omega)
theorem sx_stow (th : Int32) (t w ap : Nat → Int32) (k : Nat) (hk : k ≤ 12) (hb : ∀ j, j < k → wi (t j) 1 200 ∧ wi (w j) 0 10000) (hap : apOK ap) (r0 r1 r2 r3 a z : Int32) :
    ∃ X Y, f_X8_stow t w ap (nI k) r0 r1 r2 r3 a z = some X ∧ f_X9_stow th (nI k) t w ap a z = some Y ∧ X.1 = Y.1 := by
  unfold f_X8_stow f_X1_fill f_X1_choose f_X9_stow
  simp only [p_iw, p_in32, Option.bind_some, if01b, if01, t32_0, t64_0, t32_2, t64_2, t32_1000, t64_1000]
  rcases Bool.eq_false_or_eq_true (wi a 0 1000) with h1 | h1
  · rcases Bool.eq_false_or_eq_true (wi z 0 2) with h2 | h2
    · simp only [h1, h2, reduceCtorEq, Bool.false_eq_true, not_false_eq_true, not_true_eq_false, if_false]
      obtain ⟨R, hR, rfl⟩ := wi_nat (b := 1000) h1 (by omega)
      have A := l_choose hk hb hap R hR k 14 0 (0, 0, 0) (Nat.le_refl _) (by omega) (by omega) (by intro i i' hi hi' q; rw [Nat.mul_zero, Nat.zero_testBit] at q; cases q)
      have hz : ∀ (t : Nat → Int32) m, sT t (2 ^ k * 0) m = 0 := by
        intro t m
        induction m with
        | zero => rfl
        | succ m ih => rw [sT_s, ih, Nat.mul_zero, Nat.zero_testBit]; rfl
      rw [hz, hz, Nat.mul_zero] at A
      have A := A (Nat.zero_le _)
      have z0 : nI 0 = (0 : Int32) := rfl
      rw [z0] at A
      have B := l_42 (ap := ap) hk hb R hR 0 z (2 ^ k) 0 FU (0, 0, 0) (by omega) (FU_gt (by have := pow12 hk; omega))
      rw [z0] at B
      simp only at A B
      rw [A, B]
      simp only [Option.bind_some]
      by_cases c : z = 0
      · rw [if_pos c, if_pos c]; exact ⟨_, _, rfl, rfl, rfl⟩
      · rw [if_neg c, if_neg c]
        by_cases c2 : z = 1
        · rw [if_pos c2, if_pos c2]; exact ⟨_, _, rfl, rfl, rfl⟩
        · rw [if_neg c2, if_neg c2]; exact ⟨_, _, rfl, rfl, rfl⟩
    · simp only [h1, h2, reduceCtorEq, Bool.false_eq_true, not_false_eq_true, not_true_eq_false, if_false, if_true]
      exact ⟨_, _, rfl, rfl, rfl⟩
  · simp only [h1, reduceCtorEq, Bool.false_eq_true, not_false_eq_true, not_true_eq_false, if_true]
    exact ⟨_, _, rfl, rfl, rfl⟩
