/-! the reader: words and numbers -/
def lenW (w : Nat) : Nat := lenS.getD w 0
def dg (w i : Nat) : Nat := (sC w (nI i)).toNatClampNeg - 96
def Kw (w : Nat) : Int64 := lN (cW (dg w) (lenW w))
def isWd (w : Nat) : Prop := w < 13 ∧ w ≠ 7 ∧ w ≠ 12
theorem wd_len : ∀ w, w < 13 → w ≠ 7 → w ≠ 12 → 3 ≤ lenW w ∧ lenW w ≤ 6 := by decide +kernel
theorem wd_chr : ∀ w, w < 13 → w ≠ 7 → w ≠ 12 → ∀ i, i < lenW w → 97 ≤ (sC w (nI i)).toNatClampNeg ∧ (sC w (nI i)).toNatClampNeg ≤ 122 ∧ sC w (nI i) = nI (sC w (nI i)).toNatClampNeg := by decide +kernel
theorem l_here (B : Nat → Int32) (s w : Nat) (te : Int32) (hw : w < 13) (hs : s + lenW w ≤ 200) : ∀ (r j f : Nat), j + r = lenW w → r < f → g_X3_isHere_20 (nI s) te B f w (nI j) = some (if anyB (fun i => decide (¬ B (s + i) = sC w (nI i))) j r = true then 0 else 1) := by
  intro r
  induction r with
  | zero =>
    intro j f hj hf
    obtain ⟨m, rfl, hm⟩ := succ_of hf
    rw [gs_X3_isHere_20]
    unfold f_X3_isHere_20
    have e : sL w ≤ nI j := nI_le (b := j) (a := lenW w) (by omega) (by omega)
    rw [if_pos hw, if_pos e]
    rfl
  | succ r ih =>
    intro j f hj hf
    obtain ⟨m, rfl, hm⟩ := succ_of hf
    rw [gs_X3_isHere_20]
    unfold f_X3_isHere_20
    have e : ¬ sL w ≤ nI j := nI_ge (b := lenW w) (by omega) (by omega)
    have e1 : nI s + nI j = nI (s + j) := nI_add s j
    have e2 : inb (nI (s + j)) 200 = true := inb_t (by omega) (by omega)
    have e3 : inb (nI j) (lenS.getD w 0) = true := inb_t (show j < lenW w by omega) (show lenW w < 2 ^ 31 by omega)
    have e4 : (nI (s + j)).toNatClampNeg = s + j := nI_clamp (by omega)
    have e5 : nI j + 1 = nI (j + 1) := nI_1 j
    rw [if_pos hw, if_neg e, e1, e2, if_pos rfl, e3, if_pos rfl, e4, e5]
    have st : anyB (fun i => decide (¬ B (s + i) = sC w (nI i))) j (r + 1) = (decide (¬ B (s + j) = sC w (nI j)) || anyB (fun i => decide (¬ B (s + i) = sC w (nI i))) (j + 1) r) := rfl
    rw [st]
    by_cases c : B (s + j) = sC w (nI j)
    · rw [if_pos c, decide_eq_false (fun q => q c), Bool.false_or]
      exact ih (j + 1) m (by omega) (by omega)
    · rw [if_neg c, decide_eq_true c, Bool.true_or]; rfl
/-- the token is this word -/
theorem p_here {B : Nat → Int32} {b : Nat → Nat} {N s e : Nat} {so : Int32} {wo : Int64} (h : tpOK B b N) (ht : Tok b N s e so wo) (w : Nat) (hw : w < 13) (h7 : w ≠ 7) (h12 : w ≠ 12) : f_X3_isHere (nI s) (nI e) B w = some (if so = 1 ∧ wo = Kw w then 1 else 0) := by
  obtain ⟨hN, hB⟩ := h
  obtain ⟨t1, t2, t3⟩ := ht
  unfold f_X3_isHere
  rw [if_pos hw, pk_sub t1]
  obtain ⟨l1, l2⟩ := wd_len w hw h7 h12
  have wc := wd_chr w hw h7 h12
  have el : (nI (e - s) = sL w) ↔ e - s = lenW w := nI_eq (b := lenW w) (by omega) (by omega)
  have K1 : (so = 1 ∧ wo = Kw w) → e - s = lenW w ∧ ∀ i, i < lenW w → B (s + i) = sC w (nI i) := by
    rintro ⟨a1, a2⟩
    rcases t3 with ⟨_, q⟩ | ⟨_, _, q, _⟩ | ⟨_, q, _⟩ | ⟨u1, _, u2, u3⟩
    · rw [q] at a1; exact absurd a1 (by decide)
    · rw [q] at a1; exact absurd a1 (by decide)
    · rw [q] at a1; exact absurd a1 (by decide)
    · have hk := cW_le (d := dg w) (lenW w) (fun i hi => by have := wc i hi; unfold dg; omega)
      have hp := p32 (m := lenW w) (by omega)
      by_cases c : e - s ≤ 7
      · have e1 : wo = lN (cW (fun i => b (s + i) - 96) (e - s)) := by rw [u3]; unfold wW; rw [if_pos c]
        have dr : ∀ i, i < e - s → 1 ≤ b (s + i) - 96 ∧ b (s + i) - 96 ≤ 31 := fun i hi => by have := srN_1.mp (u2 (s + i) (by omega) (by omega)); omega
        have hk2 := cW_le (d := fun i => b (s + i) - 96) (e - s) (fun i hi => (dr i hi).2)
        have hp2 := p32 (m := e - s) c
        have e2 : cW (fun i => b (s + i) - 96) (e - s) = cW (dg w) (lenW w) := by
          apply (fb_lN_inj (by omega) (by omega)).mp
          rw [← e1, a2]; rfl
        obtain ⟨r1, r2⟩ := cW_inj _ _ dr (fun i hi => by have := wc i hi; unfold dg; omega) e2
        refine ⟨r1, fun i hi => ?_⟩
        have r3 := r2 i (by omega)
        have := wc i hi
        have := srN_1.mp (u2 (s + i) (by omega) (by omega))
        rw [(hB (s + i) (by omega)).1, (wc i hi).2.2]
        congr 1
        unfold dg at r3
        omega
      · have e1 : wo = -1 := by rw [u3]; unfold wW; rw [if_neg c]
        have e2 : (-1 : Int64).toInt = -1 := by decide
        have e3 : (Kw w).toInt = (cW (dg w) (lenW w) : Int) := pk_lT (by omega)
        rw [e1] at a2
        have := congrArg Int64.toInt a2
        omega
  have K2 : (e - s = lenW w ∧ ∀ i, i < lenW w → B (s + i) = sC w (nI i)) → (so = 1 ∧ wo = Kw w) := by
    rintro ⟨a1, a2⟩
    have bb : ∀ i, i < lenW w → b (s + i) = (sC w (nI i)).toNatClampNeg := fun i hi => by
      have q := a2 i hi
      have q2 := hB (s + i) (by omega)
      rw [q2.1, (wc i hi).2.2] at q
      have := wc i hi
      exact (nI_eq (by omega) (by omega)).mp q
    have b0 : srN (b s) = 1 := by
      have := bb 0 (by omega)
      rw [Nat.add_zero] at this
      rw [this]
      exact srN_1.mpr ⟨(wc 0 (by omega)).1, (wc 0 (by omega)).2.1⟩
    rcases t3 with ⟨q, _⟩ | ⟨_, _, _, _, q⟩ | ⟨u1, _, q, _⟩ | ⟨u1, u0, u2, u3⟩
    · omega
    · omega
    · have := q s (Nat.le_refl _) u1; omega
    · refine ⟨u0, ?_⟩
      rw [u3, a1]
      unfold wW Kw
      rw [if_pos (by omega), cW_cong (d' := dg w)]
      intro i hi
      unfold dg
      rw [bb i hi]
  by_cases c : so = 1 ∧ wo = Kw w
  · obtain ⟨k1, k2⟩ := K1 c
    rw [if_pos c, if_pos (el.mpr k1)]
    have L := l_here B s w (nI e) hw (by omega) (lenW w) 0 FU (by omega) (FU_gt (by omega))
    have z : nI 0 = (0 : Int32) := rfl
    rw [z] at L
    rw [L]
    have : anyB (fun i => decide (¬ B (s + i) = sC w (nI i))) 0 (lenW w) = false := by
      cases q : anyB (fun i => decide (¬ B (s + i) = sC w (nI i))) 0 (lenW w) with
      | false => rfl
      | true =>
        obtain ⟨i, i1, i2, i3⟩ := (anyB_iff _ _).mp q
        exact absurd (k2 i (by omega)) (of_decide_eq_true i3)
    rw [this]; rfl
  · rw [if_neg c]
    by_cases c2 : e - s = lenW w
    · rw [if_pos (el.mpr c2)]
      have L := l_here B s w (nI e) hw (by omega) (lenW w) 0 FU (by omega) (FU_gt (by omega))
      have z : nI 0 = (0 : Int32) := rfl
      rw [z] at L
      rw [L]
      have : anyB (fun i => decide (¬ B (s + i) = sC w (nI i))) 0 (lenW w) = true := by
        cases q : anyB (fun i => decide (¬ B (s + i) = sC w (nI i))) 0 (lenW w) with
        | true => rfl
        | false =>
          exfalso
          apply c
          apply K2
          refine ⟨c2, fun i hi => ?_⟩
          by_cases z : B (s + i) = sC w (nI i)
          · exact z
          · have : anyB (fun i => decide (¬ B (s + i) = sC w (nI i))) 0 (lenW w) = true := (anyB_iff _ _).mpr ⟨i, by omega, by omega, decide_eq_true z⟩
            rw [q] at this; cases this
      rw [this]; rfl
    · rw [if_neg (fun q => c2 (el.mp q))]
/-- the sign between clauses -/
theorem p_semi {B : Nat → Int32} {b : Nat → Nat} {N s e : Nat} {so : Int32} {wo : Int64} (h : tpOK B b N) (ht : Tok b N s e so wo) : f_X3_isHere (nI s) (nI e) B 12 = some (if so = 3 ∧ wo = 59 then 1 else 0) := by
  obtain ⟨hN, hB⟩ := h
  obtain ⟨t1, t2, t3⟩ := ht
  unfold f_X3_isHere
  rw [if_pos (by omega), pk_sub t1]
  have l12 : lenW 12 = 1 := rfl
  have el : (nI (e - s) = sL 12) ↔ e - s = 1 := nI_eq (b := 1) (by omega) (by omega)
  have sc : sC 12 (nI 0) = nI 59 := by decide
  by_cases c2 : e - s = 1
  · rw [if_pos (el.mpr c2)]
    have L := l_here B s 12 (nI e) (by omega) (by omega) 1 0 FU (by omega) (FU_gt (by omega))
    have z : nI 0 = (0 : Int32) := rfl
    have st : anyB (fun i => decide (¬ B (s + i) = sC 12 (nI i))) 0 1 = (decide (¬ B (s + 0) = sC 12 (nI 0)) || false) := rfl
    rw [st, sc] at L
    rw [z] at L
    rw [L, Nat.add_zero, Bool.or_false]
    have q1 := hB s (by omega)
    have eb : (B s = nI 59) ↔ b s = 59 := by rw [q1.1]; exact nI_eq (by omega) (by omega)
    by_cases c : b s = 59
    · have : so = 3 ∧ wo = 59 := by
        have sr : srN (b s) = 0 := by rw [c]; rfl
        rcases t3 with ⟨q, _⟩ | ⟨_, _, q, q2, _⟩ | ⟨u1, _, q, _⟩ | ⟨u1, u0, q, u3⟩
        · omega
        · exact ⟨q, by rw [q2, c]; rfl⟩
        · have := q s (Nat.le_refl _) u1; omega
        · have := q s (Nat.le_refl _) u1; omega
      rw [if_pos this, decide_eq_false (fun q => q (eb.mpr c))]; rfl
    · have : ¬ (so = 3 ∧ wo = 59) := by
        rintro ⟨a1, a2⟩
        rcases t3 with ⟨_, q⟩ | ⟨_, _, q, q2, _⟩ | ⟨u1, q, _⟩ | ⟨u1, q, _⟩
        · rw [q] at a1; exact absurd a1 (by decide)
        · apply c
          rw [q2] at a2
          exact (lN_eq (b := 59) (by omega) (by omega)).mp a2
        · rw [q] at a1; exact absurd a1 (by decide)
        · rw [q] at a1; exact absurd a1 (by decide)
      rw [if_neg this, decide_eq_true (show ¬ B s = nI 59 from fun q => c (eb.mp q))]; rfl
  · rw [if_neg (fun q => c2 (el.mp q))]
    have : ¬ (so = 3 ∧ wo = 59) := by
      rintro ⟨a1, a2⟩
      rcases t3 with ⟨_, q⟩ | ⟨_, q0, q, q2, _⟩ | ⟨u1, q, _⟩ | ⟨u1, q, _⟩
      · rw [q] at a1; exact absurd a1 (by decide)
      · omega
      · rw [q] at a1; exact absurd a1 (by decide)
      · rw [q] at a1; exact absurd a1 (by decide)
    rw [if_neg this]
theorem p_119 (so : Int32) (wo t K : Int64) (h : t = K) : f_X9_isWord_119 so wo t = some (if so = 1 ∧ wo = K then 1 else 0) := by
  subst h
  unfold f_X9_isWord_119
  by_cases c1 : so = 1
  · by_cases c2 : wo = t
    · rw [if_pos c1, if_pos c2, if_pos ⟨c1, c2⟩]
    · rw [if_pos c1, if_neg c2, if_neg (fun q => c2 q.2)]
  · rw [if_neg c1, if_neg (fun q => c1 q.1)]
theorem m_w0 (so : Int32) (wo : Int64) : f_X9_isWord so wo (112 : Int32) (97 : Int32) (121 : Int32) (0 : Int32) (0 : Int32) (0 : Int32) = some (if so = 1 ∧ wo = Kw 0 then 1 else 0) := by
  unfold f_X9_isWord
  rw [if_neg (show ¬ (121 : Int32) = 0 by decide)]
  unfold f_X9_isWord_41
  rw [if_pos (show (0 : Int32) = 0 from rfl)]
  unfold f_X9_isWord_67
  rw [if_pos (show (0 : Int32) = 0 from rfl)]
  unfold f_X9_isWord_93
  rw [if_pos (show (0 : Int32) = 0 from rfl)]
  exact p_119 so wo _ (Kw 0) (by decide +kernel)
theorem m_w1 (so : Int32) (wo : Int64) : f_X9_isWord so wo (112 : Int32) (101 : Int32) (114 : Int32) (0 : Int32) (0 : Int32) (0 : Int32) = some (if so = 1 ∧ wo = Kw 1 then 1 else 0) := by
  unfold f_X9_isWord
  rw [if_neg (show ¬ (114 : Int32) = 0 by decide)]
  unfold f_X9_isWord_41
  rw [if_pos (show (0 : Int32) = 0 from rfl)]
  unfold f_X9_isWord_67
  rw [if_pos (show (0 : Int32) = 0 from rfl)]
  unfold f_X9_isWord_93
  rw [if_pos (show (0 : Int32) = 0 from rfl)]
  exact p_119 so wo _ (Kw 1) (by decide +kernel)
theorem m_w2 (so : Int32) (wo : Int64) : f_X9_isWord so wo (108 : Int32) (97 : Int32) (116 : Int32) (101 : Int32) (0 : Int32) (0 : Int32) = some (if so = 1 ∧ wo = Kw 2 then 1 else 0) := by
  unfold f_X9_isWord
  rw [if_neg (show ¬ (116 : Int32) = 0 by decide)]
  unfold f_X9_isWord_41
  rw [if_neg (show ¬ (101 : Int32) = 0 by decide)]
  unfold f_X9_isWord_67
  rw [if_pos (show (0 : Int32) = 0 from rfl)]
  unfold f_X9_isWord_93
  rw [if_pos (show (0 : Int32) = 0 from rfl)]
  exact p_119 so wo _ (Kw 2) (by decide +kernel)
theorem m_w3 (so : Int32) (wo : Int64) : f_X9_isWord so wo (101 : Int32) (97 : Int32) (114 : Int32) (108 : Int32) (121 : Int32) (0 : Int32) = some (if so = 1 ∧ wo = Kw 3 then 1 else 0) := by
  unfold f_X9_isWord
  rw [if_neg (show ¬ (114 : Int32) = 0 by decide)]
  unfold f_X9_isWord_41
  rw [if_neg (show ¬ (108 : Int32) = 0 by decide)]
  unfold f_X9_isWord_67
  rw [if_neg (show ¬ (121 : Int32) = 0 by decide)]
  unfold f_X9_isWord_93
  rw [if_pos (show (0 : Int32) = 0 from rfl)]
  exact p_119 so wo _ (Kw 3) (by decide +kernel)
theorem m_w4 (so : Int32) (wo : Int64) : f_X9_isWord so wo (115 : Int32) (109 : Int32) (111 : Int32) (107 : Int32) (101 : Int32) (0 : Int32) = some (if so = 1 ∧ wo = Kw 4 then 1 else 0) := by
  unfold f_X9_isWord
  rw [if_neg (show ¬ (111 : Int32) = 0 by decide)]
  unfold f_X9_isWord_41
  rw [if_neg (show ¬ (107 : Int32) = 0 by decide)]
  unfold f_X9_isWord_67
  rw [if_neg (show ¬ (101 : Int32) = 0 by decide)]
  unfold f_X9_isWord_93
  rw [if_pos (show (0 : Int32) = 0 from rfl)]
  exact p_119 so wo _ (Kw 4) (by decide +kernel)
theorem m_w5 (so : Int32) (wo : Int64) : f_X9_isWord so wo (109 : Int32) (111 : Int32) (115 : Int32) (116 : Int32) (0 : Int32) (0 : Int32) = some (if so = 1 ∧ wo = Kw 5 then 1 else 0) := by
  unfold f_X9_isWord
  rw [if_neg (show ¬ (115 : Int32) = 0 by decide)]
  unfold f_X9_isWord_41
  rw [if_neg (show ¬ (116 : Int32) = 0 by decide)]
  unfold f_X9_isWord_67
  rw [if_pos (show (0 : Int32) = 0 from rfl)]
  unfold f_X9_isWord_93
  rw [if_pos (show (0 : Int32) = 0 from rfl)]
  exact p_119 so wo _ (Kw 5) (by decide +kernel)
theorem m_w6 (so : Int32) (wo : Int64) : f_X9_isWord so wo (108 : Int32) (101 : Int32) (97 : Int32) (115 : Int32) (116 : Int32) (0 : Int32) = some (if so = 1 ∧ wo = Kw 6 then 1 else 0) := by
  unfold f_X9_isWord
  rw [if_neg (show ¬ (97 : Int32) = 0 by decide)]
  unfold f_X9_isWord_41
  rw [if_neg (show ¬ (115 : Int32) = 0 by decide)]
  unfold f_X9_isWord_67
  rw [if_neg (show ¬ (116 : Int32) = 0 by decide)]
  unfold f_X9_isWord_93
  rw [if_pos (show (0 : Int32) = 0 from rfl)]
  exact p_119 so wo _ (Kw 6) (by decide +kernel)
theorem m_w8 (so : Int32) (wo : Int64) : f_X9_isWord so wo (116 : Int32) (111 : Int32) (110 : Int32) (0 : Int32) (0 : Int32) (0 : Int32) = some (if so = 1 ∧ wo = Kw 8 then 1 else 0) := by
  unfold f_X9_isWord
  rw [if_neg (show ¬ (110 : Int32) = 0 by decide)]
  unfold f_X9_isWord_41
  rw [if_pos (show (0 : Int32) = 0 from rfl)]
  unfold f_X9_isWord_67
  rw [if_pos (show (0 : Int32) = 0 from rfl)]
  unfold f_X9_isWord_93
  rw [if_pos (show (0 : Int32) = 0 from rfl)]
  exact p_119 so wo _ (Kw 8) (by decide +kernel)
theorem m_w9 (so : Int32) (wo : Int64) : f_X9_isWord so wo (98 : Int32) (101 : Int32) (104 : Int32) (105 : Int32) (110 : Int32) (100 : Int32) = some (if so = 1 ∧ wo = Kw 9 then 1 else 0) := by
  unfold f_X9_isWord
  rw [if_neg (show ¬ (104 : Int32) = 0 by decide)]
  unfold f_X9_isWord_41
  rw [if_neg (show ¬ (105 : Int32) = 0 by decide)]
  unfold f_X9_isWord_67
  rw [if_neg (show ¬ (110 : Int32) = 0 by decide)]
  unfold f_X9_isWord_93
  rw [if_neg (show ¬ (100 : Int32) = 0 by decide)]
  exact p_119 so wo _ (Kw 9) (by decide +kernel)
theorem m_w10 (so : Int32) (wo : Int64) : f_X9_isWord so wo (97 : Int32) (104 : Int32) (101 : Int32) (97 : Int32) (100 : Int32) (0 : Int32) = some (if so = 1 ∧ wo = Kw 10 then 1 else 0) := by
  unfold f_X9_isWord
  rw [if_neg (show ¬ (101 : Int32) = 0 by decide)]
  unfold f_X9_isWord_41
  rw [if_neg (show ¬ (97 : Int32) = 0 by decide)]
  unfold f_X9_isWord_67
  rw [if_neg (show ¬ (100 : Int32) = 0 by decide)]
  unfold f_X9_isWord_93
  rw [if_pos (show (0 : Int32) = 0 from rfl)]
  exact p_119 so wo _ (Kw 10) (by decide +kernel)
theorem m_w11 (so : Int32) (wo : Int64) : f_X9_isWord so wo (98 : Int32) (101 : Int32) (108 : Int32) (111 : Int32) (119 : Int32) (0 : Int32) = some (if so = 1 ∧ wo = Kw 11 then 1 else 0) := by
  unfold f_X9_isWord
  rw [if_neg (show ¬ (108 : Int32) = 0 by decide)]
  unfold f_X9_isWord_41
  rw [if_neg (show ¬ (111 : Int32) = 0 by decide)]
  unfold f_X9_isWord_67
  rw [if_neg (show ¬ (119 : Int32) = 0 by decide)]
  unfold f_X9_isWord_93
  rw [if_pos (show (0 : Int32) = 0 from rfl)]
  exact p_119 so wo _ (Kw 11) (by decide +kernel)
def isK (so : Int32) (wo : Int64) (w : Nat) : Bool := decide (so = 1 ∧ wo = Kw w)
def kdOf (so : Int32) (wo : Int64) : Int32 := if isK so wo 0 = true then 0 else if isK so wo 1 = true then 1 else if isK so wo 2 = true then 2 else if isK so wo 3 = true then 3 else if isK so wo 4 = true then 4 else if isK so wo 5 = true then 5 else if isK so wo 6 = true then 6 else -1
theorem kIf (so : Int32) (wo : Int64) (w : Nat) : (if so = 1 ∧ wo = Kw w then (1 : Int32) else 0) = if isK so wo w = true then 1 else 0 := by
  unfold isK
  by_cases c : so = 1 ∧ wo = Kw w
  · rw [if_pos c, if_pos (decide_eq_true c)]
  · rw [if_neg c, decide_eq_false c]; rfl
theorem p_sortAt (so : Int32) (wo : Int64) : f_X9_sortAt so wo = some (kdOf so wo) := by
  unfold f_X9_sortAt f_X9_sortAt_32 f_X9_sortAt_89 f_X9_sortAt_147 kdOf
  rw [m_w0, m_w1, m_w2, m_w3, m_w4, m_w5, m_w6]
  simp only [Option.bind_some, kIf, if01b]
  cases isK so wo 0 <;> cases isK so wo 1 <;> cases isK so wo 2 <;> cases isK so wo 3 <;> cases isK so wo 4 <;> cases isK so wo 5 <;> cases isK so wo 6 <;> rfl
theorem l_kind {B : Nat → Int32} {b : Nat → Nat} {N s e : Nat} {so : Int32} {wo : Int64} (h : tpOK B b N) (ht : Tok b N s e so wo) (w : Nat) (hw : w < 7) (m : Nat) : g_X3_kindHere_2 (nI s) (nI e) B (m + 1) (nI w) = if isK so wo w = true then some (nI w) else g_X3_kindHere_2 (nI s) (nI e) B m (nI (w + 1)) := by
  rw [gs_X3_kindHere_2]
  unfold f_X3_kindHere_2
  have e0 : ¬ (7 : Int32) ≤ nI w := by
    have q : ¬ nI 7 ≤ nI w := nI_ge (by omega) (by omega)
    exact q
  have e1 : f_X5_firstWord (nI w) = some w := by
    have : ∀ w, w < 7 → f_X5_firstWord (nI w) = some w := by decide +kernel
    exact this w hw
  have e2 : nI w + 1 = nI (w + 1) := nI_1 w
  rw [if_neg e0, e1]
  simp only [Option.bind_some]
  rw [p_here h ht w (by omega) (by omega) (by omega)]
  simp only [Option.bind_some, kIf, if01b, e2]
  cases isK so wo w <;> rfl
theorem p_kind {B : Nat → Int32} {b : Nat → Nat} {N s e : Nat} {so : Int32} {wo : Int64} (h : tpOK B b N) (ht : Tok b N s e so wo) : f_X3_kindHere (nI s) (nI e) B = some (kdOf so wo) := by
  unfold f_X3_kindHere kdOf
  have f0 : FU = 999992 + 8 := rfl
  have z : (0 : Int32) = nI 0 := rfl
  rw [f0, show g_X3_kindHere_2 (nI s) (nI e) B (999992 + 8) (0 : Int32) = g_X3_kindHere_2 (nI s) (nI e) B ((999992 + 7) + 1) (nI 0) from rfl, l_kind h ht 0 (by omega)]
  rw [show 999992 + 7 = (999992 + 6) + 1 from rfl, l_kind h ht 1 (by omega), show 999992 + 6 = (999992 + 5) + 1 from rfl, l_kind h ht 2 (by omega), show 999992 + 5 = (999992 + 4) + 1 from rfl, l_kind h ht 3 (by omega), show 999992 + 4 = (999992 + 3) + 1 from rfl, l_kind h ht 4 (by omega), show 999992 + 3 = (999992 + 2) + 1 from rfl, l_kind h ht 5 (by omega), show 999992 + 2 = (999992 + 1) + 1 from rfl, l_kind h ht 6 (by omega), gs_X3_kindHere_2]
  unfold f_X3_kindHere_2
  rw [if_pos (show (7 : Int32) ≤ nI 7 by decide)]
  cases isK so wo 0 <;> cases isK so wo 1 <;> cases isK so wo 2 <;> cases isK so wo 3 <;> cases isK so wo 4 <;> cases isK so wo 5 <;> cases isK so wo 6 <;> rfl
