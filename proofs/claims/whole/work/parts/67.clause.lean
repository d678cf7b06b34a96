/-! the reader: a clause -/
def trOK (kd am mk nC : Nat → Int32) (k : Nat) : Prop := ∀ j, j < k → kd j = nC (3 * j) ∧ am j = nC (3 * j + 1) ∧ mk j = nC (3 * j + 2) ∧ wi (nC (3 * j)) 0 6 ∧ wi (nC (3 * j + 2)) 0 10000
def up3 (nC : Nat → Int32) (k : Nat) (x1 x2 x3 : Int32) : Nat → Int32 := upd (upd (upd nC (3 * k) x1) (3 * k + 1) x2) (3 * k + 2) x3
theorem up3_0 (nC : Nat → Int32) (k : Nat) (x1 x2 x3 : Int32) : up3 nC k x1 x2 x3 (3 * k) = x1 := by
  unfold up3; rw [pk_un (by omega), pk_un (by omega), pk_us]
theorem up3_1 (nC : Nat → Int32) (k : Nat) (x1 x2 x3 : Int32) : up3 nC k x1 x2 x3 (3 * k + 1) = x2 := by
  unfold up3; rw [pk_un (by omega), pk_us]
theorem up3_2 (nC : Nat → Int32) (k : Nat) (x1 x2 x3 : Int32) : up3 nC k x1 x2 x3 (3 * k + 2) = x3 := by
  unfold up3; rw [pk_us]
theorem up3_n (nC : Nat → Int32) (k : Nat) (x1 x2 x3 : Int32) {i : Nat} (h : i < 3 * k) : up3 nC k x1 x2 x3 i = nC i := by
  unfold up3; rw [pk_un (by omega), pk_un (by omega), pk_un (by omega)]
theorem tr_add {kd am mk nC : Nat → Int32} {k : Nat} (h : trOK kd am mk nC k) {x1 x2 x3 : Int32} (h1 : wi x1 0 6 = true) (h3 : wi x3 0 10000 = true) : trOK (upd kd k x1) (upd am k x2) (upd mk k x3) (up3 nC k x1 x2 x3) (k + 1) := by
  intro j hj
  by_cases c : j = k
  · subst c
    rw [up3_0, up3_1, up3_2, pk_us, pk_us, pk_us]
    exact ⟨rfl, rfl, rfl, h1, h3⟩
  · have hjk : j < k := by omega
    rw [pk_un c, pk_un c, pk_un c, up3_n _ _ _ _ _ (by omega), up3_n _ _ _ _ _ (by omega), up3_n _ _ _ _ _ (by omega)]
    exact h j hjk
abbrev CT : Type := Int32 × (Int32) × (Int32) × (Nat → Int32) × (Nat → Int32) × (Nat → Int32) × (Int32)
abbrev MT : Type := (Int32) × (Nat → Int32) × (Int32) × (Int32) × (Int32) × (Int64) × (Int32) × (Int32)
def RC (b : Nat → Nat) (N : Nat) (kd am mk nC : Nat → Int32) (k : Nat) (ft : Int32) (C : Option CT) (M : Option MT) : Prop :=
  (∃ (s e : Nat) (so : Int32) (wo : Int64), s ≤ 200 ∧ C = some (0, nI s, nI e, kd, am, mk, nI k) ∧ M = some (nI k, nC, nI s, nI e, so, wo, nI s, 1)) ∨
  (∃ (s e : Nat) (so : Int32) (wo : Int64) (kd' am' mk' nC' : Nat → Int32), Tok b N s e so wo ∧ C = some (1, nI s, nI e, kd', am', mk', nI (k + 1)) ∧ M = some (nI (k + 1), nC', nI s, nI e, so, wo, ft, 0) ∧ trOK kd' am' mk' nC' (k + 1))
theorem m_137 (B : Nat → Int32) (N : Int32) (nC : Nat → Int32) (k : Nat) (hk : k < 20) (fr to so : Int32) (wo : Int64) (ft x1 x2 x3 : Int32) : f_X9_readClause_137 B N (nI k) nC fr to so wo ft 0 x1 x2 x3 = some (nI (k + 1), up3 nC k x1 x2 x3, fr, to, so, wo, ft, 0) := by
  unfold f_X9_readClause_137
  have e0 : (3 : Int32) * nI k = nI (3 * k) := pk_mul 3 k
  have e1 : nI (3 * k) + (1 : Int32) = nI (3 * k + 1) := nI_add _ 1
  have e2 : nI (3 * k) + (2 : Int32) = nI (3 * k + 2) := nI_add _ 2
  have e3 : nI k + (1 : Int32) = nI (k + 1) := nI_1 k
  rw [if_pos rfl, e0, e1, e2, e3, inb_t (show 3 * k < 60 by omega) (by omega), inb_t (show 3 * k + 1 < 60 by omega) (by omega), inb_t (show 3 * k + 2 < 60 by omega) (by omega), if_pos rfl, if_pos rfl, if_pos rfl, nI_clamp (by omega), nI_clamp (by omega), nI_clamp (by omega)]
  rfl
theorem m_137B (B : Nat → Int32) (N nM : Int32) (nC : Nat → Int32) (fr to so : Int32) (wo : Int64) (ft x1 x2 x3 : Int32) : f_X9_readClause_137 B N nM nC fr to so wo ft 1 x1 x2 x3 = some (nM, nC, fr, to, so, wo, ft, 1) := by
  unfold f_X9_readClause_137
  rw [if_neg (by decide)]
theorem m_129B (B : Nat → Int32) (N nM : Int32) (nC : Nat → Int32) (fr to so : Int32) (wo : Int64) (ft x1 x2 t : Int32) : f_X9_readClause_129 B N nM nC fr to so wo ft 1 x1 x2 t = some (nM, nC, fr, to, so, wo, ft, 1) := by
  unfold f_X9_readClause_129
  rw [m_mustB]
  simp only [Option.bind_some]
  rw [m_numB]
  simp only [Option.bind_some]
  exact m_137B _ _ _ _ _ _ _ _ _ _ _ _
theorem m_tail (B : Nat → Int32) (N nM : Int32) (nC : Nat → Int32) (fr to so : Int32) (wo : Int64) (ft x1 v : Int32) : (if x1 < (2 : Int32) then f_X9_readClause_137 B N nM nC fr to so wo ft 1 x1 v 0 else (if (4 : Int32) < x1 then f_X9_readClause_137 B N nM nC fr to so wo ft 1 x1 v 0 else (if x1 = (2 : Int32) then ((f_X9_isWord so wo (98 : Int32) (101 : Int32) (104 : Int32) (105 : Int32) (110 : Int32) (100 : Int32)).bind (fun u14 => f_X9_readClause_129 B N nM nC fr to so wo ft 1 x1 v u14)) else (if x1 = (3 : Int32) then ((f_X9_isWord so wo (97 : Int32) (104 : Int32) (101 : Int32) (97 : Int32) (100 : Int32) (0 : Int32)).bind (fun u13 => f_X9_readClause_129 B N nM nC fr to so wo ft 1 x1 v u13)) else ((f_X9_isWord so wo (98 : Int32) (101 : Int32) (108 : Int32) (111 : Int32) (119 : Int32) (0 : Int32)).bind (fun u12 => f_X9_readClause_129 B N nM nC fr to so wo ft 1 x1 v u12)))))) = some (nM, nC, fr, to, so, wo, ft, 1) := by
  rw [m_w9, m_w10, m_w11]
  simp only [Option.bind_some, m_129B, m_137B]
  by_cases c1 : x1 < (2 : Int32)
  · rw [if_pos c1]
  · rw [if_neg c1]
    by_cases c2 : (4 : Int32) < x1
    · rw [if_pos c2]
    · rw [if_neg c2]
      by_cases c3 : x1 = (2 : Int32)
      · rw [if_pos c3]
      · rw [if_neg c3]
        by_cases c4 : x1 = (3 : Int32)
        · rw [if_pos c4]
        · rw [if_neg c4]
theorem m_49B (B : Nat → Int32) (N nM : Int32) (nC : Nat → Int32) (fr to so : Int32) (wo : Int64) (ft x1 : Int32) : f_X9_readClause_49 B N nM nC fr to so wo ft 1 x1 = some (nM, nC, fr, to, so, wo, ft, 1) := by
  unfold f_X9_readClause_49
  rw [m_numB]
  exact m_tail _ _ _ _ _ _ _ _ _ _ _
theorem m_23 (B : Nat → Int32) (N nM : Int32) (nC : Nat → Int32) (fr to so : Int32) (wo : Int64) (ft x1 : Int32) : f_X9_readClause_23 B N nM nC fr to so wo ft 0 x1 = some (nM, nC, fr, to, so, wo, fr, 1) := by
  unfold f_X9_readClause_23 f_X9_readClause_24
  rw [m_must0]
  simp only [Option.bind_some]
  rw [m_w8]
  simp only [Option.bind_some, m_mustB, m_49B]
  by_cases c : x1 = 1
  · rw [if_pos c]
  · rw [if_neg c]
theorem c_94 (B : Nat → Int32) (N ts te : Int32) (kd am mk : Nat → Int32) (k : Nat) (hk : k < 20) (x2 x3 x4 : Int32) : f_X3_readClause_94 B N ts te kd am mk (nI k) x2 x3 x4 = some (1, ts, te, upd kd k x2, upd am k x3, upd mk k x4, nI (k + 1)) := by
  unfold f_X3_readClause_94 f_X5_add
  have e0 : ¬ (20 : Int32) ≤ nI k := by
    have q : ¬ nI 20 ≤ nI k := nI_ge (by omega) (by omega)
    exact q
  have e3 : nI k + (1 : Int32) = nI (k + 1) := nI_1 k
  rw [if_neg e0, inb_t hk (by omega), if_pos rfl, nI_clamp (by omega), e3]
  rfl
/-- the word between, and the mark -/
theorem rc_btw {B : Nat → Int32} {b : Nat → Nat} {N s e : Nat} {so : Int32} {wo : Int64} (h : tpOK B b N) (ht : Tok b N s e so wo) {kd am mk nC : Nat → Int32} {k : Nat} (hk : k < 20) (htr : trOK kd am mk nC k) (ft x v : Int32) (hx : wi x 0 6 = true) (w : Nat) (hw : w < 13) (h7 : w ≠ 7) (h12 : w ≠ 12) :
    RC b N kd am mk nC k ft ((f_X3_passes (nI s) (nI e) B (nI N) w).bind (fun u8 => (if u8.1 = (0 : Int32) then (some ((0 : Int32), u8.2.1, u8.2.2, kd, am, mk, nI k)) else ((f_X3_numberHere u8.2.1 u8.2.2 B (nI N)).bind (fun u10 => (if u10 = (-1 : Int32) then (some ((0 : Int32), u8.2.1, u8.2.2, kd, am, mk, nI k)) else ((f_X3_advance u8.2.1 u8.2.2 B (nI N)).bind (fun u12 => (f_X3_readClause_94 B (nI N) u12.1 u12.2 kd am mk (nI k) x v u10)))))))))
      (f_X9_readClause_129 B (nI N) (nI k) nC (nI s) (nI e) so wo ft 0 x v (if so = 1 ∧ wo = Kw w then 1 else 0)) := by
  have hN := h.1
  have pp := p_pass h ht.2.1 (p_here h ht w hw h7 h12) so wo (nI s)
  unfold f_X9_readClause_129
  have z10 : ¬ (1 : Int32) = 0 := by decide
  by_cases c : so = 1 ∧ wo = Kw w
  · obtain ⟨s1, e1, so1, wo1, t1, p1, p2⟩ := pp.2 c
    rw [p1, if_pos c, m_must1 z10 p2]
    simp only [Option.bind_some, z10, if_false]
    rw [p_num h t1]
    simp only [Option.bind_some]
    by_cases d : so1 = 2 ∧ ¬ (10000 : Int64) < wo1
    · obtain ⟨n1, n2, n3⟩ := num_rg hN t1 d
      obtain ⟨s2, e2, so2, wo2, t2, a1, a2⟩ := p_adv h e1 t1.2.1 (nI s1) (nI s1) so1 wo1
      rw [if_neg n2, a1, m_num1 d a2]
      simp only [Option.bind_some]
      rw [c_94 _ _ _ _ _ _ _ _ hk, m_137 _ _ _ _ hk, n3]
      exact Or.inr ⟨s2, e2, so2, wo2, _, _, _, _, t2, rfl, rfl, tr_add htr hx n1⟩
    · rw [num_no d, if_pos rfl, m_num0 _ _ _ _ _ _ _ d]
      simp only [Option.bind_some, m_137B]
      exact Or.inl ⟨s1, e1, so1, wo1, by have := t1.1; have := t1.2.1; omega, rfl, rfl⟩
  · rw [pp.1 c, if_neg c, m_must0]
    simp only [Option.bind_some, if_true, m_numB, m_137B]
    exact Or.inl ⟨s, e, so, wo, by have := ht.1; have := ht.2.1; omega, rfl, rfl⟩
theorem wi_7 {x : Int32} (h : wi x 0 6 = true) : x = 0 ∨ x = 1 ∨ x = 2 ∨ x = 3 ∨ x = 4 ∨ x = 5 ∨ x = 6 := by
  by_cases h0 : x = 0
  · exact Or.inl h0
  · by_cases h1 : x = 1
    · exact Or.inr (Or.inl h1)
    · by_cases h2 : x = 2
      · exact Or.inr (Or.inr (Or.inl h2))
      · by_cases h3 : x = 3
        · exact Or.inr (Or.inr (Or.inr (Or.inl h3)))
        · by_cases h4 : x = 4
          · exact Or.inr (Or.inr (Or.inr (Or.inr (Or.inl h4))))
          · by_cases h5 : x = 5
            · exact Or.inr (Or.inr (Or.inr (Or.inr (Or.inr (Or.inl h5)))))
            · exact Or.inr (Or.inr (Or.inr (Or.inr (Or.inr (Or.inr (wi6 h h0 h1 h2 h3 h4 h5))))))
/-- from the number on -/
theorem rc_32 {B : Nat → Int32} {b : Nat → Nat} {N s e : Nat} {so : Int32} {wo : Int64} (h : tpOK B b N) (ht : Tok b N s e so wo) {kd am mk nC : Nat → Int32} {k : Nat} (hk : k < 20) (htr : trOK kd am mk nC k) (ft x : Int32) (hx : wi x 0 6 = true) :
    RC b N kd am mk nC k ft (f_X3_readClause_32 B (nI N) (nI s) (nI e) kd am mk (nI k) x) (f_X9_readClause_49 B (nI N) (nI k) nC (nI s) (nI e) so wo ft 0 x) := by
  have hN := h.1
  unfold f_X3_readClause_32 f_X9_readClause_49
  rw [p_num h ht]
  simp only [Option.bind_some]
  by_cases d : so = 2 ∧ ¬ (10000 : Int64) < wo
  · obtain ⟨n1, n2, n3⟩ := num_rg hN ht d
    obtain ⟨s1, e1, so1, wo1, t1, a1, a2⟩ := p_adv h e ht.2.1 (nI s) (nI s) so wo
    rw [if_neg n2, a1, m_num1 d a2, n3]
    simp only [Option.bind_some]
    rw [m_w9, m_w10, m_w11]
    simp only [Option.bind_some]
    have w0 : wi (0 : Int32) 0 10000 = true := by decide
    have plain : ∀ y : Int32, wi y 0 6 = true → RC b N kd am mk nC k ft (f_X3_readClause_94 B (nI N) (nI s1) (nI e1) kd am mk (nI k) y wo.toInt32 0) (f_X9_readClause_137 B (nI N) (nI k) nC (nI s1) (nI e1) so1 wo1 ft 0 y wo.toInt32 0) := by
      intro y hy
      rw [c_94 _ _ _ _ _ _ _ _ hk, m_137 _ _ _ _ hk]
      exact Or.inr ⟨s1, e1, so1, wo1, _, _, _, _, t1, rfl, rfl, tr_add htr hy w0⟩
    rcases wi_7 hx with rfl | rfl | rfl | rfl | rfl | rfl | rfl
    · exact plain 0 hx
    · exact plain 1 hx
    · exact rc_btw h t1 hk htr ft 2 wo.toInt32 hx 9 (by decide) (by decide) (by decide)
    · exact rc_btw h t1 hk htr ft 3 wo.toInt32 hx 10 (by decide) (by decide) (by decide)
    · exact rc_btw h t1 hk htr ft 4 wo.toInt32 hx 11 (by decide) (by decide) (by decide)
    · exact plain 5 hx
    · exact plain 6 hx
  · rw [num_no d, if_pos rfl, m_num0 _ _ _ _ _ _ _ d]
    refine Or.inl ⟨s, e, so, wo, by have := ht.1; have := ht.2.1; omega, rfl, ?_⟩
    exact m_tail _ _ _ _ _ _ _ _ _ _ _
theorem kd_rg (so : Int32) (wo : Int64) : kdOf so wo = -1 ∨ wi (kdOf so wo) 0 6 = true := by
  unfold kdOf
  cases isK so wo 0 <;> cases isK so wo 1 <;> cases isK so wo 2 <;> cases isK so wo 3 <;> cases isK so wo 4 <;> cases isK so wo 5 <;> cases isK so wo 6 <;> decide
theorem rc {B : Nat → Int32} {b : Nat → Nat} {N s e : Nat} {so : Int32} {wo : Int64} (h : tpOK B b N) (ht : Tok b N s e so wo) {kd am mk nC : Nat → Int32} {k : Nat} (hk : k < 20) (htr : trOK kd am mk nC k) (ft : Int32) :
    RC b N kd am mk nC k ft (f_X3_readClause (nI s) (nI e) B (nI N) kd am mk (nI k)) (f_X9_readClause (nI k) nC B (nI N) (nI s) (nI e) so wo ft 0) := by
  have hN := h.1
  unfold f_X3_readClause f_X9_readClause
  rw [p_kind h ht, p_sortAt]
  simp only [Option.bind_some, m_23]
  have e0 : ¬ (20 : Int32) ≤ nI k := by
    have q : ¬ nI 20 ≤ nI k := nI_ge (by omega) (by omega)
    exact q
  have z10 : ¬ (1 : Int32) = 0 := by decide
  rcases kd_rg so wo with c | c
  · rw [c, if_pos rfl, if_pos (by decide)]
    exact Or.inl ⟨s, e, so, wo, by have := ht.1; have := ht.2.1; omega, rfl, rfl⟩
  · have c1 : ¬ kdOf so wo = -1 := by
      intro z
      have := wi_1 c
      rw [z] at this
      have e1 : (-1 : Int32).toInt = -1 := by decide
      omega
    have c2 : ¬ kdOf so wo < 0 := by
      rw [fa_lt, t32_0]
      have := wi_1 c
      omega
    obtain ⟨s1, e1, so1, wo1, t1, a1, a2⟩ := p_adv h e ht.2.1 (nI s) (nI s) so wo
    unfold f_X9_readClause_24
    rw [if_neg c1, if_neg c2, if_neg e0, a1, m_must1 z10 a2]
    simp only [Option.bind_some]
    by_cases c3 : kdOf so wo = 1
    · rw [c3] at c
      rw [if_pos c3, if_pos c3, c3, m_w8]
      simp only [Option.bind_some]
      have pp := p_pass h t1.2.1 (p_here h t1 8 (by decide) (by decide) (by decide)) so1 wo1 (nI s1)
      by_cases d : so1 = 1 ∧ wo1 = Kw 8
      · obtain ⟨s2, e2, so2, wo2, t2, p1, p2⟩ := pp.2 d
        rw [p1, if_pos d, m_must1 z10 p2]
        simp only [Option.bind_some, z10, if_false]
        exact rc_32 h t2 hk htr ft 1 c
      · rw [pp.1 d, if_neg d, m_must0]
        simp only [Option.bind_some, if_true, m_49B]
        exact Or.inl ⟨s1, e1, so1, wo1, by have := t1.1; have := t1.2.1; omega, rfl, rfl⟩
    · rw [if_neg c3, if_neg c3]
      exact rc_32 h t1 hk htr ft _ c
theorem rc_full {B : Nat → Int32} {N s e so : Int32} {wo : Int64} {nC : Nat → Int32} (ft : Int32) : f_X9_readClause (nI 20) nC B N s e so wo ft 0 = some (nI 20, nC, s, e, so, wo, s, 1) := by
  unfold f_X9_readClause
  rw [p_sortAt]
  simp only [Option.bind_some, m_23]
  have e0 : (20 : Int32) ≤ nI 20 := by decide
  rw [if_pos e0]
  by_cases c : kdOf so wo < 0
  · rw [if_pos c]
  · rw [if_neg c]
