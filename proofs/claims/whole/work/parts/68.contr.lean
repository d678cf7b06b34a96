/-! the reader: a contract -/
abbrev MR : Type := Int32 × (Int32) × (Int32) × (Int32) × (Nat → Int32) × (Nat → Int32) × (Nat → Int32) × (Int32) × (Nat → Int32) × (Int32) × (Int32) × (Int32) × (Int32) × (Int64) × (Int32) × (Int32)
def RdL (B : Nat → Int32) (th st cl : Int32) (cs ca cb : Nat → Int32) (C : Option CT) (M : Option MR) : Prop :=
  (∃ (s : Nat) (ts te : Int32) (kd am mk : Nat → Int32) (c nM : Int32) (nC : Nat → Int32) (fr to so : Int32) (wo : Int64), s ≤ 200 ∧ C = some (nI s, ts, te, kd, am, mk, c) ∧ M = some (-6, th, sg (-6), cl, cs, ca, cb, nM, nC, 0, fr, to, so, wo, nI s, 1)) ∨
  (∃ (k : Nat) (ts te : Int32) (kd am mk nC : Nat → Int32) (fr to so : Int32) (wo : Int64), k ≤ 20 ∧ trOK kd am mk nC k ∧ C = some (-1, ts, te, kd, am, mk, nI k) ∧ M = g_X9_contract_125 B FU th st (nI k) cs ca cb (nI k) nC 0 fr to so wo (-1) 0 0)
theorem m_40B (B : Nat → Int32) (m : Nat) (th st cl : Int32) (cs ca cb : Nat → Int32) (nM : Int32) (nC : Nat → Int32) (tp fr to so : Int32) (wo : Int64) (ft : Int32) : g_X9_contract_40 B (m + 1) th st cl cs ca cb nM nC tp fr to so wo ft 1 = some (-6, th, sg (-6), cl, cs, ca, cb, nM, nC, 0, fr, to, so, wo, ft, 1) := by
  rw [gs_X9_contract_40]
  unfold f_X9_contract_40 f_X9_contract_77 f_X9_contract_96
  have z10 : ¬ (1 : Int32) = 0 := by decide
  rw [if_neg z10, if_neg z10, if_neg z10, p_told]
  rfl
theorem m_77 (B : Nat → Int32) (th st cl : Int32) (cs ca cb : Nat → Int32) (nM : Int32) (nC : Nat → Int32) (tp fr to so : Int32) (wo : Int64) (ft : Int32) (h : ¬ so = 0) : f_X9_contract_77 B th st cl cs ca cb nM nC tp fr to so wo ft 0 = some (-6, th, sg (-6), cl, cs, ca, cb, nM, nC, 0, fr, to, so, wo, fr, 1) := by
  unfold f_X9_contract_77 f_X9_contract_96
  have z10 : ¬ (1 : Int32) = 0 := by decide
  rw [if_pos rfl, if_neg h, m_must0]
  simp only [Option.bind_some]
  rw [if_neg z10, p_told]
  rfl
theorem tok_so {b : Nat → Nat} {N s e : Nat} {so : Int32} {wo : Int64} (ht : Tok b N s e so wo) : (s < N ∧ ¬ so = 0) ∨ (s = N ∧ so = 0) := by
  obtain ⟨t1, t2, t3⟩ := ht
  rcases t3 with ⟨q1, q2⟩ | ⟨q0, _, q, _⟩ | ⟨u1, u2, _⟩ | ⟨u1, q, _⟩
  · exact Or.inr ⟨q1, q2⟩
  · exact Or.inl ⟨q0, by rw [q]; decide⟩
  · exact Or.inl ⟨by omega, by rw [u2]; decide⟩
  · exact Or.inl ⟨by omega, by rw [q]; decide⟩
theorem p_end {B : Nat → Int32} {b : Nat → Nat} {N s e : Nat} {so : Int32} {wo : Int64} (h : tpOK B b N) (ht : Tok b N s e so wo) : f_X3_isAtEnd (nI s) (nI N) = some (if so = 0 then 1 else 0) := by
  have hN := h.1
  have t1 := ht.1
  have t2 := ht.2.1
  unfold f_X3_isAtEnd
  rcases tok_so ht with ⟨c, d⟩ | ⟨c, d⟩
  · rw [if_pos (nI_lt (by omega) (by omega)), if_neg d]
  · rw [if_neg (fun q => by have := (nI_ltI (by omega) (by omega)).mp q; omega), if_pos d]
theorem l_read {B : Nat → Int32} {b : Nat → Nat} {N : Nat} (h : tpOK B b N) (th st cl : Int32) (cs ca cb : Nat → Int32) :
    ∀ (r k f m s e : Nat) (so : Int32) (wo : Int64) (kd am mk nC : Nat → Int32), k + r = 20 → r < f → r < m → Tok b N s e so wo → trOK kd am mk nC k →
      RdL B th st cl cs ca cb (g_X3_read_25 B (nI N) f (nI s) (nI e) kd am mk (nI k) (nI k)) ((f_X9_readClause (nI k) nC B (nI N) (nI s) (nI e) so wo (-1) 0).bind (fun u16 => g_X9_contract_40 B m th st cl cs ca cb u16.1 u16.2.1 (nI N) u16.2.2.1 u16.2.2.2.1 u16.2.2.2.2.1 u16.2.2.2.2.2.1 u16.2.2.2.2.2.2.1 u16.2.2.2.2.2.2.2)) := by
  have hN := h.1
  intro r
  induction r with
  | zero =>
    intro k f m s e so wo kd am mk nC hk hf hm ht htr
    obtain ⟨f', rfl, hf'⟩ := succ_of hf
    obtain ⟨m', rfl, hm'⟩ := succ_of hm
    have hk20 : k = 20 := by omega
    subst hk20
    have t1 := ht.1
    have t2 := ht.2.1
    rw [rc_full, gs_X3_read_25]
    unfold f_X3_read_25
    rw [if_pos (show (20 : Int32) ≤ nI 20 by decide)]
    simp only [Option.bind_some, m_40B]
    exact Or.inl ⟨s, _, _, _, _, _, _, _, _, _, _, _, _, by omega, rfl, rfl⟩
  | succ r ih =>
    intro k f m s e so wo kd am mk nC hk hf hm ht htr
    obtain ⟨f', rfl, hf'⟩ := succ_of hf
    obtain ⟨m', rfl, hm'⟩ := succ_of hm
    have e0 : ¬ (20 : Int32) ≤ nI k := by
      have q : ¬ nI 20 ≤ nI k := nI_ge (by omega) (by omega)
      exact q
    have e1 : nI k + 1 = nI (k + 1) := nI_1 k
    have z10 : ¬ (1 : Int32) = 0 := by decide
    rw [gs_X3_read_25]
    unfold f_X3_read_25
    rw [if_neg e0]
    rcases rc h ht (by omega) htr (-1) with ⟨s1, e1', so1, wo1, u0, u1, u2⟩ | ⟨s1, e1', so1, wo1, kd', am', mk', nC', t1, u1, u2, u3⟩
    · rw [u1, u2]
      simp only [Option.bind_some, if_true, m_40B]
      exact Or.inl ⟨s1, _, _, _, _, _, _, _, _, _, _, _, _, u0, rfl, rfl⟩
    · rw [u1, u2]
      simp only [Option.bind_some, z10, if_false]
      rw [p_end h t1, gs_X9_contract_40]
      unfold f_X9_contract_40
      simp only [Option.bind_some, if_true]
      by_cases c0 : so1 = 0
      · subst c0
        have z03 : ¬ (0 : Int32) = 3 := by decide
        rw [if_pos rfl, if_neg z10, if_neg z03]
        unfold f_X9_contract_77 f_X9_contract_96
        rw [if_pos rfl, if_pos rfl, if_pos rfl]
        exact Or.inr ⟨k + 1, _, _, kd', am', mk', nC', _, _, _, _, by omega, u3, rfl, rfl⟩
      · rw [if_neg c0, if_pos rfl]
        have pp := p_pass h t1.2.1 (p_semi h t1) so1 wo1 (nI s1)
        have q1 := t1.1
        have q2 := t1.2.1
        by_cases d : so1 = 3 ∧ wo1 = 59
        · obtain ⟨s2, e2, so2, wo2, t2, p1, p2⟩ := pp.2 d
          rw [p1, if_pos d.1, if_pos d.2, p2]
          simp only [Option.bind_some, z10, if_false, e1]
          exact ih (k + 1) f' m' s2 e2 so2 wo2 kd' am' mk' nC' (by omega) (by omega) (by omega) t2 u3
        · rw [pp.1 d]
          simp only [Option.bind_some, if_true]
          have E : (if so1 = 3 then (if wo1 = 59 then ((f_X9_next B (nI N) (nI s1) (nI e1') so1 wo1).bind (fun u15 => ((f_X9_readClause (nI (k + 1)) nC' B (nI N) u15.1 u15.2.1 u15.2.2.1 u15.2.2.2 (-1) 0).bind (fun u16 => (g_X9_contract_40 B m' th st cl cs ca cb u16.1 u16.2.1 (nI N) u16.2.2.1 u16.2.2.2.1 u16.2.2.2.2.1 u16.2.2.2.2.2.1 u16.2.2.2.2.2.2.1 u16.2.2.2.2.2.2.2))))) else (f_X9_contract_77 B th st cl cs ca cb (nI (k + 1)) nC' (nI N) (nI s1) (nI e1') so1 wo1 (-1) 0)) else (f_X9_contract_77 B th st cl cs ca cb (nI (k + 1)) nC' (nI N) (nI s1) (nI e1') so1 wo1 (-1) 0)) = some (-6, th, sg (-6), cl, cs, ca, cb, nI (k + 1), nC', 0, nI s1, nI e1', so1, wo1, nI s1, 1) := by
            rw [m_77 _ _ _ _ _ _ _ _ _ _ _ _ _ _ _ c0]
            by_cases d1 : so1 = 3
            · rw [if_pos d1, if_neg (fun q => d ⟨d1, q⟩)]
            · rw [if_neg d1]
          rw [E]
          exact Or.inl ⟨s1, _, _, _, _, _, _, _, _, _, _, _, _, by omega, rfl, rfl⟩
theorem l_125 (B : Nat → Int32) (k : Nat) (hk : k ≤ 20) (nC : Nat → Int32) (th st nM tp fr to so : Int32) (wo : Int64) (ft bd : Int32) : ∀ (r j f : Nat) (cs ca cb : Nat → Int32), j + r = k → r < f → (∀ i, i < j → cs i = nC (3 * i) ∧ ca i = nC (3 * i + 1) ∧ cb i = nC (3 * i + 2)) → ∃ cs' ca' cb' : Nat → Int32, (∀ i, i < k → cs' i = nC (3 * i) ∧ ca' i = nC (3 * i + 1) ∧ cb' i = nC (3 * i + 2)) ∧ g_X9_contract_125 B f th st (nI k) cs ca cb nM nC tp fr to so wo ft bd (nI j) = some (nI k, th, sg (nI k), nI k, cs', ca', cb', nM, nC, tp, fr, to, so, wo, ft, bd) := by
  intro r
  induction r with
  | zero =>
    intro j f cs ca cb hj hf h
    obtain ⟨m, rfl, hm⟩ := succ_of hf
    refine ⟨cs, ca, cb, fun i hi => h i (by omega), ?_⟩
    rw [gs_X9_contract_125]
    unfold f_X9_contract_125
    rw [if_pos (nI_le (by omega) (by omega)), p_told]
    rfl
  | succ r ih =>
    intro j f cs ca cb hj hf h
    obtain ⟨m, rfl, hm⟩ := succ_of hf
    rw [gs_X9_contract_125]
    unfold f_X9_contract_125
    have e : ¬ nI k ≤ nI j := nI_ge (by omega) (by omega)
    have e0 : (3 : Int32) * nI j = nI (3 * j) := pk_mul 3 j
    have e1 : nI (3 * j) + (1 : Int32) = nI (3 * j + 1) := nI_add _ 1
    have e2 : nI (3 * j) + (2 : Int32) = nI (3 * j + 2) := nI_add _ 2
    have e3 : nI j + 1 = nI (j + 1) := nI_1 j
    simp only [e, e0, e1, e2, e3, if_false, inb_t (show 3 * j < 60 by omega) (show 60 < 2 ^ 31 by omega), inb_t (show 3 * j + 1 < 60 by omega) (show 60 < 2 ^ 31 by omega), inb_t (show 3 * j + 2 < 60 by omega) (show 60 < 2 ^ 31 by omega), inb_t (show j < 20 by omega) (show 20 < 2 ^ 31 by omega), if_true, nI_clamp (show j < 2 ^ 31 by omega), nI_clamp (show 3 * j < 2 ^ 31 by omega), nI_clamp (show 3 * j + 1 < 2 ^ 31 by omega), nI_clamp (show 3 * j + 2 < 2 ^ 31 by omega)]
    apply ih (j + 1) m _ _ _ (by omega) (by omega)
    intro i hi
    by_cases c : i = j
    · subst c
      rw [pk_us, pk_us, pk_us]
      exact ⟨rfl, rfl, rfl⟩
    · rw [pk_un c, pk_un c, pk_un c]
      exact h i (by omega)
theorem sx_contract (fp rb th st : Int32) (rs re : Int32) (B : Nat → Int32) (N : Nat) (hN : N ≤ 200) (hB : ∀ j, j < N → wi (B j) 0 255 = true) (ak aa am : Nat → Int32) (dk da dm : Nat → Int32) (dc : Int32) (cs ca cb : Nat → Int32) (k : Nat) (hk : k ≤ 20) (htm : tmOK ak aa am cs ca cb k) (nM : Int32) (nC : Nat → Int32) (fr to so : Int32) (wo : Int64) (ft bd : Int32) :
    ∃ (r fp' rb' ts te : Int32) (ak' aa' am' : Nat → Int32) (ac' : Int32) (dk' da' dm' : Nat → Int32) (dc' th' cl' : Int32) (cs' ca' cb' : Nat → Int32) (nM' : Int32) (nC' : Nat → Int32) (fr' to' so' : Int32) (wo' : Int64) (bd' : Int32),
      f_X8_contract fp rb rs re B (nI N) ak aa am (nI k) dk da dm dc = some (r, fp', rb', ts, te, 0, ak', aa', am', ac', dk', da', dm', dc') ∧
      f_X9_contract th st (nI k) cs ca cb nM nC B (nI N) fr to so wo ft bd = some (r, th', rb', cl', cs', ca', cb', nM', nC', 0, fr', to', so', wo', fp', bd') ∧
      ∃ k' : Nat, k' ≤ 20 ∧ ac' = nI k' ∧ cl' = nI k' ∧ tmOK ak' aa' am' cs' ca' cb' k' := by
  have h : tpOK B (fun j => (B j).toNatClampNeg) N := by
    refine ⟨hN, fun j hj => ?_⟩
    obtain ⟨x, hx, e⟩ := wi_nat (b := 255) (hB j hj) (by omega)
    show B j = nI (B j).toNatClampNeg ∧ (B j).toNatClampNeg ≤ 255
    rw [e, nI_clamp (by omega)]
    exact ⟨rfl, hx⟩
  have tr0 : ∀ kd am mk nC : Nat → Int32, trOK kd am mk nC 0 := fun _ _ _ _ j hj => by omega
  have z0 : nI 0 = (0 : Int32) := rfl
  have nm : ∀ s : Nat, s ≤ 200 → ¬ nI s = (-1 : Int32) := by
    intro s hs z
    have := congrArg Int32.toInt z
    rw [nI_toInt (by omega)] at this
    have e1 : (-1 : Int32).toInt = -1 := by decide
    omega
  unfold f_X8_contract f_X3_read f_X9_contract
  obtain ⟨s, e, so1, wo1, t1, a1, a2⟩ := p_adv h 0 (by omega) rs fr so wo
  rw [z0] at a1 a2
  rw [a1, a2]
  simp only [Option.bind_some]
  rw [p_end h t1]
  simp only [Option.bind_some]
  have fin : RdL B 0 st (nI k) cs ca cb (if (if so1 = 0 then (1 : Int32) else 0) = 0 then (g_X3_read_25 B (nI N) FU (nI s) (nI e) dk da dm (0 : Int32) (0 : Int32)) else (some ((-1 : Int32), nI s, nI e, dk, da, dm, (0 : Int32)))) (if so1 = (0 : Int32) then (f_X9_contract_96 B (0 : Int32) st (nI k) cs ca cb (0 : Int32) nC (nI N) (nI s) (nI e) so1 wo1 (-1 : Int32) (0 : Int32)) else ((f_X9_readClause (0 : Int32) nC B (nI N) (nI s) (nI e) so1 wo1 (-1 : Int32) (0 : Int32)).bind (fun u19 => (g_X9_contract_40 B FU (0 : Int32) st (nI k) cs ca cb u19.1 u19.2.1 (nI N) u19.2.2.1 u19.2.2.2.1 u19.2.2.2.2.1 u19.2.2.2.2.2.1 u19.2.2.2.2.2.2.1 u19.2.2.2.2.2.2.2)))) := by
    by_cases c : so1 = 0
    · subst c
      rw [if_pos rfl, if_neg (by decide), if_pos rfl]
      unfold f_X9_contract_96
      rw [if_pos rfl]
      exact Or.inr ⟨0, _, _, dk, da, dm, nC, _, _, _, _, by omega, tr0 _ _ _ _, rfl, rfl⟩
    · rw [if_neg c, if_pos rfl, if_neg c]
      exact l_read h 0 st (nI k) cs ca cb 20 0 FU FU s e so1 wo1 dk da dm nC (by omega) (FU_gt (by omega)) (FU_gt (by omega)) t1 (tr0 _ _ _ _)
  rcases fin with ⟨s', ts, te, kd, a', m', c, nM', nC', fr', to', so', wo', q0, q1, q2⟩ | ⟨k', ts, te, kd, a', m', nC', fr', to', so', wo', q0, q1, q2, q3⟩
  · rw [q1, q2]
    simp only [Option.bind_some, nm s' q0, if_false, p_ans]
    exact ⟨_, _, _, _, _, _, _, _, _, _, _, _, _, _, _, _, _, _, _, _, _, _, _, _, _, rfl, rfl, k, hk, rfl, rfl, htm⟩
  · obtain ⟨cs', ca', cb', g1, g2⟩ := l_125 B k' q0 nC' 0 st (nI k') 0 fr' to' so' wo' (-1) 0 k' 0 FU cs ca cb (by omega) (FU_gt (by omega)) (fun i hi => by omega)
    rw [z0] at g2
    rw [q2, q3, g2]
    simp only [Option.bind_some, if_true, p_ans]
    refine ⟨_, _, _, _, _, _, _, _, _, _, _, _, _, _, _, _, _, _, _, _, _, _, _, _, _, rfl, rfl, k', q0, rfl, rfl, ?_⟩
    intro j hj
    obtain ⟨p1, p2, p3, p4, p5⟩ := q1 j hj
    obtain ⟨w1, w2, w3⟩ := g1 j hj
    rw [w1, w2, w3]
    exact ⟨p1, p2, p3, p4, p5⟩
