/-! stow: the best of all sets -/
def sT (t : Nat → Int32) (s m : Nat) : Nat := fb_sm (fun i => if s.testBit i = true then (t i).toNatClampNeg else 0) m
theorem sT_s (t : Nat → Int32) (s m : Nat) : sT t s (m + 1) = sT t s m + if s.testBit m = true then (t m).toNatClampNeg else 0 := rfl
theorem sT_le {t : Nat → Int32} {c k : Nat} (h : ∀ i, i < k → (t i).toNatClampNeg ≤ c) (s : Nat) {m : Nat} (hm : m ≤ k) : sT t s m ≤ m * c := by
  unfold sT
  apply fb_sm_bound
  intro i hi
  by_cases q : s.testBit i = true
  · rw [if_pos q]; exact h i (by omega)
  · rw [if_neg q]; omega
def okF (ap : Nat → Int32) (s : Nat) : Nat → Bool
  | 0 => true
  | m + 1 => okF ap s m && (!s.testBit m || decide (ap m &&& nI s = 0))
theorem okF_s (ap : Nat → Int32) (s m : Nat) : okF ap s (m + 1) = (okF ap s m && (!s.testBit m || decide (ap m &&& nI s = 0))) := rfl
theorem okF_iff {ap : Nat → Int32} {s : Nat} : ∀ m, okF ap s m = true ↔ ∀ i, i < m → s.testBit i = true → ap i &&& nI s = 0
  | 0 => ⟨fun _ i hi => by omega, fun _ => rfl⟩
  | m + 1 => by
    rw [okF_s, Bool.and_eq_true, okF_iff m, Bool.or_eq_true, decide_eq_true_iff, Bool.not_eq_true']
    constructor
    · rintro ⟨h1, h2⟩ i hi q
      by_cases e : i = m
      · subst e
        rcases h2 with h2 | h2
        · rw [h2] at q; cases q
        · exact h2
      · exact h1 i (by omega) q
    · intro h
      refine ⟨fun i hi q => h i (by omega) q, ?_⟩
      cases e : s.testBit m with
      | false => exact Or.inl rfl
      | true => exact Or.inr (h m (by omega) e)
abbrev B3 : Type := Int32 × Int32 × Int32
def keepB (t w : Nat → Int32) (k : Nat) (b : B3) (s : Nat) : B3 := if b.2.2 < nI (sT w s k) then (nI s, nI (sT t s k), nI (sT w s k)) else (if nI (sT w s k) = b.2.2 then (if b.2.1 ≤ nI (sT t s k) then b else (nI s, nI (sT t s k), nI (sT w s k))) else b)
def stp (t w ap : Nat → Int32) (k R : Nat) (b : B3) (s : Nat) : B3 := if (okF ap s k && decide (sT t s k ≤ R)) = true then keepB t w k b s else b
def fld (t w ap : Nat → Int32) (k R : Nat) : B3 → Nat → Nat → B3
  | b, _, 0 => b
  | b, s, n + 1 => fld t w ap k R (stp t w ap k R b s) (s + 1) n
theorem fld_s (t w ap : Nat → Int32) (k R : Nat) (b : B3) (s n : Nat) : fld t w ap k R b s (n + 1) = fld t w ap k R (stp t w ap k R b s) (s + 1) n := rfl
theorem fld_add (t w ap : Nat → Int32) (k R : Nat) : ∀ (m : Nat) (b : B3) (s n : Nat), fld t w ap k R b s (m + n) = fld t w ap k R (fld t w ap k R b s m) (s + m) n
  | 0, b, s, n => by rw [Nat.zero_add]; rfl
  | m + 1, b, s, n => by
    rw [show m + 1 + n = (m + n) + 1 by omega, fld_s, fld_s, fld_add t w ap k R m, show s + 1 + m = s + (m + 1) by omega]
theorem fld_no {t w ap : Nat → Int32} {k R : Nat} : ∀ (n : Nat) (b : B3) (s : Nat), (∀ i, i < n → (okF ap (s + i) k && decide (sT t (s + i) k ≤ R)) = false) → fld t w ap k R b s n = b
  | 0, _, _, _ => rfl
  | n + 1, b, s, h => by
    have h0 := h 0 (by omega)
    rw [fld_s]
    have e : stp t w ap k R b s = b := by
      unfold stp
      rw [Nat.add_zero] at h0
      rw [h0]
      rfl
    rw [e]
    exact fld_no n b (s + 1) (fun i hi => by rw [show s + 1 + i = s + (i + 1) by omega]; exact h (i + 1) (by omega))
/-! bits -/
theorem bt_nI {n i : Nat} (hn : n < 2 ^ 32) : bt (nI n) i = n.testBit i := by
  unfold bt
  rw [BitVec.getLsbD, pk_tn hn]
theorem and0 {x : Int32} {s : Nat} (hs : s < 2 ^ 12) : x &&& nI s = 0 ↔ ∀ i, i < 12 → s.testBit i = true → bt x i = false := by
  constructor
  · intro h i hi q
    have e := congrArg (fun z => bt z i) h
    simp only [b_and, b_0, bt_nI (show s < 2 ^ 32 by omega), q, Bool.and_true] at e
    exact e
  · intro h
    apply b_ext
    intro i hi
    rw [b_and, b_0, bt_nI (show s < 2 ^ 32 by omega)]
    by_cases q : s.testBit i = true
    · by_cases hi2 : i < 12
      · rw [h i hi2 q]; rfl
      · have := Nat.testBit_lt_two_pow (Nat.lt_of_lt_of_le hs (Nat.pow_le_pow_right (by omega) (show 12 ≤ i by omega)))
        rw [this] at q; cases q
    · rw [Bool.not_eq_true] at q
      rw [q, Bool.and_false]
theorem shl1 : ∀ n, n < 13 → (1 : Int32) <<< (nI n &&& 31) = nI (2 ^ n) := by decide +kernel
theorem nI_31 : ∀ n, n < 32 → nI n &&& 31 = nI n := by decide +kernel
theorem smod_l : ∀ n, n < 32 → ((nI n).toBitVec.smod 32).toNat = n := by decide +kernel
theorem bit1 {s j : Nat} (hs : s < 2 ^ 31) (hj : j < 32) : ((nI s >>> (nI j &&& 31)) &&& (1 : Int32)) = 1 ↔ s.testBit j = true := by
  rw [nI_31 j hj, pk_shrN hs _ j (smod_l j hj), pk_andN (show s / 2 ^ j < 2 ^ 32 by have := Nat.div_le_self s (2 ^ j); omega) (m := 1) 1 (by decide)]
  have e : nI (s / 2 ^ j % 2 ^ 1) = 1 ↔ s / 2 ^ j % 2 ^ 1 = 1 := nI_eq (b := 1) (by omega) (by omega)
  rw [e, Nat.testBit_eq_decide_div_mod_eq, decide_eq_true_iff]
theorem tb_mul {j a r : Nat} (hr : r < 2 ^ j) (i : Nat) : (2 ^ j * a + r).testBit i = if i < j then r.testBit i else a.testBit (i - j) := Nat.testBit_two_pow_mul_add a hr i
theorem tb_0 (j a i : Nat) : (2 ^ j * a).testBit i = if i < j then false else a.testBit (i - j) := by
  have := tb_mul (j := j) (a := a) (r := 0) (Nat.two_pow_pos j) i
  rw [Nat.add_zero, Nat.zero_testBit] at this
  exact this
theorem tb_dbl (a i : Nat) : (2 * a + 1).testBit i = if i = 0 then true else (2 * a).testBit i := by
  cases i with
  | zero => simp
  | succ i => rw [if_neg (by omega), Nat.testBit_succ, Nat.testBit_succ, show (2 * a + 1) / 2 = a by omega, show 2 * a / 2 = a by omega]
/-- a set and a new load: what it holds -/
theorem tb_new (j a i : Nat) : (2 ^ j * (2 * a + 1)).testBit i = if i = j then true else (2 ^ j * (2 * a)).testBit i := by
  rw [tb_0, tb_0]
  by_cases h1 : i < j
  · rw [if_pos h1, if_pos h1, if_neg (by omega)]
  · rw [if_neg h1, if_neg h1, tb_dbl]
    by_cases h2 : i = j
    · rw [if_pos (by omega), if_pos h2]
    · rw [if_neg (by omega), if_neg h2]
theorem sT_new (t : Nat → Int32) (j a : Nat) : ∀ m, sT t (2 ^ j * (2 * a + 1)) m = sT t (2 ^ j * (2 * a)) m + if j < m then (t j).toNatClampNeg else 0
  | 0 => rfl
  | m + 1 => by
    rw [sT_s, sT_s, sT_new t j a m, tb_new]
    by_cases h : m = j
    · subst h
      have e : (2 ^ m * (2 * a)).testBit m = false := by
        rw [tb_0, if_neg (by omega), Nat.sub_self]
        simp
      rw [e]
      simp
    · by_cases h2 : j < m
      · rw [if_pos h2, if_pos (show j < m + 1 by omega), if_neg h]; omega
      · rw [if_neg h2, if_neg (show ¬ j < m + 1 by omega), if_neg h]; omega
theorem sT_sub {t : Nat → Int32} {S s : Nat} (h : ∀ i, S.testBit i = true → s.testBit i = true) : ∀ m, sT t S m ≤ sT t s m := by
  intro m
  unfold sT
  apply fb_sm_le
  intro i _
  by_cases q : S.testBit i = true
  · rw [if_pos q, if_pos (h i q)]; exact Nat.le_refl _
  · rw [if_neg q]; omega
theorem tb_part {j a r : Nat} (hr : r < 2 ^ j) (i : Nat) (h : (2 ^ j * a).testBit i = true) : (2 ^ j * a + r).testBit i = true := by
  rw [tb_0] at h
  rw [tb_mul hr]
  by_cases q : i < j
  · rw [if_pos q] at h; cases h
  · rw [if_neg q] at h ⊢; exact h
