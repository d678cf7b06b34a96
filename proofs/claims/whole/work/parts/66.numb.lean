/-! the reader: numbers, and what must stand here -/
def numOf (so : Int32) (wo : Int64) : Int32 := if so = 2 ∧ ¬ (10000 : Int64) < wo then wo.toInt32 else -1
theorem l_num {B : Nat → Int32} {b : Nat → Nat} {N : Nat} (h : tpOK B b N) (s e : Nat) (ts : Int32) (he : e ≤ N) (hal : ∀ i, s ≤ i → i < e → srN (b i) = 2) : ∀ (r t f : Nat), t + r = e → s ≤ t → r < f → nW b s (t - s) ≤ 10000 → g_X3_numberHere_35 ts (nI e) B (nI N) f (nI (nW b s (t - s))) (nI t) = some (if nW b s (e - s) ≤ 10000 then nI (nW b s (e - s)) else -1) := by
  obtain ⟨hN, hB⟩ := h
  intro r
  induction r with
  | zero =>
    intro t f ht hst hf hw
    obtain ⟨m, rfl, hm⟩ := succ_of hf
    rw [gs_X3_numberHere_35]
    unfold f_X3_numberHere_35
    have hte : t = e := by omega
    subst hte
    have q : nI t ≤ nI t := nI_le (by omega) (by omega)
    rw [if_pos q, if_pos hw]
  | succ r ih =>
    intro t f ht hst hf hw
    obtain ⟨m, rfl, hm⟩ := succ_of hf
    rw [gs_X3_numberHere_35]
    unfold f_X3_numberHere_35
    have q : ¬ nI e ≤ nI t := nI_ge (by omega) (by omega)
    have e1 : inb (nI t) 200 = true := inb_t (by omega) (by omega)
    have e2 : (nI t).toNatClampNeg = t := nI_clamp (by omega)
    have e3 : nI t + 1 = nI (t + 1) := nI_1 t
    obtain ⟨q1, q2⟩ := hB t (by omega)
    have hd := srN_2.mp (hal t hst (by omega))
    have e4 : nI (nW b s (t - s)) * (10 : Int32) + nI (b t) - (48 : Int32) = nI (nW b s (t + 1 - s)) := by
      have z10 : (10 : Int32) = nI 10 := rfl
      have z48 : (48 : Int32) = nI 48 := rfl
      rw [z10, z48, pk_mul, nI_add, pk_sub (by omega), show t + 1 - s = (t - s) + 1 by omega, nW_s, if_pos hw, show s + (t - s) = t by omega]
      congr 1
      omega
    have hw2 : nW b s (t + 1 - s) ≤ 100009 := nW_le _ (fun i hi => (srN_2.mp (hal (s + i) (by omega) (by omega))).2)
    have e5 : (nI (nW b s (t + 1 - s)) ≤ (10000 : Int32)) ↔ nW b s (t + 1 - s) ≤ 10000 := nI_leI (b := 10000) (by omega) (by omega)
    rw [if_neg q, e1, if_pos rfl, e2, q1, e4, e3]
    by_cases c : nW b s (t + 1 - s) ≤ 10000
    · rw [if_pos (e5.mpr c)]
      exact ih (t + 1) m (by omega) (by omega) (by omega) c
    · rw [if_neg (fun z => c (e5.mp z))]
      have := nW_stay c (e - (t + 1))
      rw [show t + 1 - s + (e - (t + 1)) = e - s by omega] at this
      rw [this, if_neg c]
theorem p_num {B : Nat → Int32} {b : Nat → Nat} {N s e : Nat} {so : Int32} {wo : Int64} (h : tpOK B b N) (ht : Tok b N s e so wo) : f_X3_numberHere (nI s) (nI e) B (nI N) = some (numOf so wo) := by
  have hN := h.1
  obtain ⟨t1, t2, t3⟩ := ht
  unfold f_X3_numberHere f_X3_isAtEnd numOf
  have z10 : ¬ (1 : Int32) = 0 := by decide
  have no : ∀ {so : Int32}, ¬ so = 2 → (if so = 2 ∧ ¬ (10000 : Int64) < wo then wo.toInt32 else -1) = (-1 : Int32) := fun q => if_neg (fun z => q z.1)
  by_cases c0 : s < N
  · obtain ⟨q1, q2⟩ := h.2 s c0
    have e1 : nI s < nI N := nI_lt (by omega) (by omega)
    have e2 : inb (nI s) 200 = true := inb_t (by omega) (by omega)
    have e3 : (nI s).toNatClampNeg = s := nI_clamp (by omega)
    have e4 : (nI (srN (b s)) = (2 : Int32)) ↔ srN (b s) = 2 := nI_eq (b := 2) (srN_lt _) (by omega)
    simp only [e1, e2, e3, q1, p_sort q2, if_true, Option.bind_some, e4]
    rcases t3 with ⟨q, _⟩ | ⟨_, _, q, _, q3⟩ | ⟨u1, u2, q, q3⟩ | ⟨u1, q, u2, _⟩
    · omega
    · rw [if_neg (by omega), no (by rw [q]; decide)]
    · rw [if_pos (q s (Nat.le_refl _) u1)]
      have L := l_num h s e (nI s) t2 q (e - s) s FU (by omega) (Nat.le_refl _) (FU_gt (by omega)) (by rw [Nat.sub_self]; show 0 ≤ _; omega)
      have z : nI (nW b s (s - s)) = (0 : Int32) := by rw [Nat.sub_self]; rfl
      rw [z] at L
      rw [L, q3]
      have hw := nW_le (b := b) (s := s) (e - s) (fun i hi => (srN_2.mp (q (s + i) (by omega) (by omega))).2)
      have e5 : ((10000 : Int64) < lN (nW b s (e - s))) ↔ 10000 < nW b s (e - s) := lN_lt (a := 10000) (by omega) (by omega)
      by_cases c : nW b s (e - s) ≤ 10000
      · rw [if_pos c, if_pos ⟨u2, fun z => by have := e5.mp z; omega⟩, lN_i]
      · rw [if_neg c, if_neg (fun z => z.2 (e5.mpr (by omega)))]
    · rw [if_neg (by have := u2 s (Nat.le_refl _) u1; omega), no (by rw [q]; decide)]
  · have e1 : ¬ nI s < nI N := fun q => c0 ((nI_ltI (by omega) (by omega)).mp q)
    rw [if_neg e1, Option.bind_some, if_neg z10]
    rcases t3 with ⟨_, q⟩ | ⟨_, _, q, _⟩ | ⟨u1, _⟩ | ⟨u1, _⟩
    · rw [no (by rw [q]; decide)]
    · omega
    · omega
    · omega
/-- the number, where it is one -/
theorem num_rg {b : Nat → Nat} {N s e : Nat} {so : Int32} {wo : Int64} (hN : N ≤ 200) (ht : Tok b N s e so wo) (h : so = 2 ∧ ¬ (10000 : Int64) < wo) : wi wo.toInt32 0 10000 = true ∧ ¬ numOf so wo = -1 ∧ numOf so wo = wo.toInt32 := by
  obtain ⟨t1, t2, t3⟩ := ht
  obtain ⟨h1, h2⟩ := h
  have k : ∃ v : Nat, v ≤ 10000 ∧ wo.toInt32 = nI v := by
    rcases t3 with ⟨_, q⟩ | ⟨_, _, q, _⟩ | ⟨u1, u2, q, q3⟩ | ⟨u1, q, u2, _⟩
    · rw [q] at h1; exact absurd h1 (by decide)
    · rw [q] at h1; exact absurd h1 (by decide)
    · have hw := nW_le (b := b) (s := s) (e - s) (fun i hi => (srN_2.mp (q (s + i) (by omega) (by omega))).2)
      have e5 : ((10000 : Int64) < lN (nW b s (e - s))) ↔ 10000 < nW b s (e - s) := lN_lt (a := 10000) (by omega) (by omega)
      refine ⟨nW b s (e - s), ?_, by rw [q3, lN_i]⟩
      rw [q3] at h2
      have : ¬ 10000 < nW b s (e - s) := fun z => h2 (e5.mpr z)
      omega
    · rw [q] at h1; exact absurd h1 (by decide)
  obtain ⟨v, v1, v2⟩ := k
  have en : numOf so wo = wo.toInt32 := by unfold numOf; rw [if_pos ⟨h1, h2⟩]
  refine ⟨by rw [v2]; exact (wi_nI (by omega) _ _).mpr ⟨by omega, by omega⟩, ?_, en⟩
  rw [en, v2]
  intro z
  have := congrArg Int32.toInt z
  rw [nI_toInt (by omega)] at this
  have e1 : (-1 : Int32).toInt = -1 := by decide
  omega
theorem num_no {so : Int32} {wo : Int64} (h : ¬ (so = 2 ∧ ¬ (10000 : Int64) < wo)) : numOf so wo = -1 := by unfold numOf; rw [if_neg h]
theorem sC7 : sE 7 = 1 := by decide
/-- passes: a word, or the sign -/
theorem p_pass {B : Nat → Int32} {b : Nat → Nat} {N s e : Nat} (h : tpOK B b N) (he : e ≤ N) {w : Nat} {P : Prop} [Decidable P] (hh : f_X3_isHere (nI s) (nI e) B w = some (if P then 1 else 0)) (so : Int32) (wo : Int64) (fr : Int32) : (¬ P → f_X3_passes (nI s) (nI e) B (nI N) w = some (0, nI s, nI e)) ∧ (P → ∃ s' e' so' wo', Tok b N s' e' so' wo' ∧ f_X3_passes (nI s) (nI e) B (nI N) w = some (1, nI s', nI e') ∧ f_X9_next B (nI N) fr (nI e) so wo = some (nI s', nI e', so', wo')) := by
  unfold f_X3_passes
  rw [hh]
  constructor
  · intro q
    rw [if_neg q, Option.bind_some, if_pos rfl]
  · intro q
    obtain ⟨s', e', so', wo', g1, g2, g3⟩ := p_adv h e he (nI s) fr so wo
    refine ⟨s', e', so', wo', g1, ?_, g3⟩
    rw [if_pos q, Option.bind_some, if_neg (by decide), g2]
    rfl
theorem m_must0 (B : Nat → Int32) (N : Int32) (fr to so : Int32) (wo : Int64) (ft : Int32) : f_X9_must B N fr to so wo ft 0 0 = some (fr, to, so, wo, fr, 1) := by
  unfold f_X9_must f_X9_must_24
  rw [if_pos rfl, if_pos rfl, if_neg (by decide)]
theorem m_must1 {B : Nat → Int32} {N : Int32} {fr to so : Int32} {wo : Int64} {ft x : Int32} (hx : ¬ x = 0) {s' e' so' : Int32} {wo' : Int64} (h : f_X9_next B N fr to so wo = some (s', e', so', wo')) : f_X9_must B N fr to so wo ft 0 x = some (s', e', so', wo', ft, 0) := by
  unfold f_X9_must f_X9_must_24
  rw [if_pos rfl, if_neg hx, if_pos rfl, h]
  rfl
theorem m_mustB (B : Nat → Int32) (N : Int32) (fr to so : Int32) (wo : Int64) (ft x : Int32) : f_X9_must B N fr to so wo ft 1 x = some (fr, to, so, wo, ft, 1) := by
  unfold f_X9_must f_X9_must_24
  rw [if_neg (by decide), if_neg (by decide)]
theorem m_numB (B : Nat → Int32) (N : Int32) (fr to so : Int32) (wo : Int64) (ft : Int32) : f_X9_number B N fr to so wo ft 1 = some (wo.toInt32, fr, to, so, wo, ft, 1) := by
  unfold f_X9_number f_X9_number_30 f_X9_number_31
  rw [m_mustB, m_mustB]
  simp only [Option.bind_some]
  by_cases c : so = 2
  · rw [if_pos c]
    by_cases c2 : (10000 : Int64) < wo
    · rw [if_pos c2]
    · rw [if_neg c2]
  · rw [if_neg c]
theorem m_num0 (B : Nat → Int32) (N : Int32) (fr to so : Int32) (wo : Int64) (ft : Int32) (h : ¬ (so = 2 ∧ ¬ (10000 : Int64) < wo)) : f_X9_number B N fr to so wo ft 0 = some (wo.toInt32, fr, to, so, wo, fr, 1) := by
  unfold f_X9_number f_X9_number_30 f_X9_number_31
  rw [m_must0]
  simp only [Option.bind_some]
  by_cases c : so = 2
  · rw [if_pos c]
    by_cases c2 : (10000 : Int64) < wo
    · rw [if_pos c2]
    · exact absurd ⟨c, c2⟩ h
  · rw [if_neg c]
theorem m_num1 {B : Nat → Int32} {N : Int32} {fr to so : Int32} {wo : Int64} {ft : Int32} (h : so = 2 ∧ ¬ (10000 : Int64) < wo) {s' e' so' : Int32} {wo' : Int64} (hn : f_X9_next B N fr to so wo = some (s', e', so', wo')) : f_X9_number B N fr to so wo ft 0 = some (wo.toInt32, s', e', so', wo', ft, 0) := by
  unfold f_X9_number f_X9_number_31
  rw [if_pos h.1, if_neg h.2, m_must1 (by decide) hn]
  rfl
