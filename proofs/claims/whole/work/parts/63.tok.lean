/-! the reader: tokens -/
def srN (b : Nat) : Nat := if 97 ≤ b ∧ b ≤ 122 then 1 else (if 48 ≤ b ∧ b ≤ 57 then 2 else 0)
theorem t32_97 : (97 : Int32).toInt = 97 := by decide
theorem t32_122 : (122 : Int32).toInt = 122 := by decide
theorem t32_48 : (48 : Int32).toInt = 48 := by decide
theorem t32_57 : (57 : Int32).toInt = 57 := by decide
theorem p_sort {b : Nat} (hb : b ≤ 255) : f_X3_sortOf (nI b) = some (nI (srN b)) := by
  unfold f_X3_sortOf srN
  simp only [p_iw, t32_97, t32_122, t32_48, t32_57, Option.bind_some, if01b]
  have a1 := wi_nI (k := b) (by omega) 97 122
  have a2 := wi_nI (k := b) (by omega) 48 57
  by_cases c1 : 97 ≤ b ∧ b ≤ 122
  · rw [a1.mpr ⟨by omega, by omega⟩, if_neg (by decide), if_pos c1]; rfl
  · have : wi (nI b) 97 122 = false := by
      cases q : wi (nI b) 97 122 with
      | false => rfl
      | true => have := a1.mp q; omega
    rw [this, if_pos rfl, if_neg c1]
    by_cases c2 : 48 ≤ b ∧ b ≤ 57
    · rw [a2.mpr ⟨by omega, by omega⟩, if_neg (by decide), if_pos c2]; rfl
    · have : wi (nI b) 48 57 = false := by
        cases q : wi (nI b) 48 57 with
        | false => rfl
        | true => have := a2.mp q; omega
      rw [this, if_pos rfl, if_neg c2]; rfl
theorem p_small {b : Nat} (hb : b ≤ 255) : f_X9_isSmall (nI b) = some (if srN b = 1 then 1 else 0) := by
  unfold f_X9_isSmall srN
  have a1 : (nI b < (97 : Int32)) ↔ b < 97 := nI_ltI (b := 97) (by omega) (by omega)
  have a2 : ((122 : Int32) < nI b) ↔ 122 < b := nI_ltI (a := 122) (by omega) (by omega)
  by_cases c1 : b < 97
  · rw [if_pos (a1.mpr c1), if_neg (show ¬ (97 ≤ b ∧ b ≤ 122) by omega)]
    by_cases c2 : 48 ≤ b ∧ b ≤ 57
    · rw [if_pos c2]; rfl
    · rw [if_neg c2]; rfl
  · rw [if_neg (fun q => c1 (a1.mp q))]
    by_cases c3 : 122 < b
    · rw [if_pos (a2.mpr c3), if_neg (show ¬ (97 ≤ b ∧ b ≤ 122) by omega), if_neg (show ¬ (48 ≤ b ∧ b ≤ 57) by omega)]; rfl
    · rw [if_neg (fun q => c3 (a2.mp q)), if_pos (show 97 ≤ b ∧ b ≤ 122 by omega)]; rfl
theorem p_digit {b : Nat} (hb : b ≤ 255) : f_X9_isDigit (nI b) = some (if srN b = 2 then 1 else 0) := by
  unfold f_X9_isDigit srN
  have a1 : (nI b < (48 : Int32)) ↔ b < 48 := nI_ltI (b := 48) (by omega) (by omega)
  have a2 : ((57 : Int32) < nI b) ↔ 57 < b := nI_ltI (a := 57) (by omega) (by omega)
  by_cases c1 : b < 48
  · rw [if_pos (a1.mpr c1), if_neg (show ¬ (97 ≤ b ∧ b ≤ 122) by omega), if_neg (show ¬ (48 ≤ b ∧ b ≤ 57) by omega)]; rfl
  · rw [if_neg (fun q => c1 (a1.mp q))]
    by_cases c3 : 57 < b
    · rw [if_pos (a2.mpr c3)]
      by_cases c2 : 97 ≤ b ∧ b ≤ 122
      · rw [if_pos c2]; rfl
      · rw [if_neg c2, if_neg (show ¬ (48 ≤ b ∧ b ≤ 57) by omega)]; rfl
    · rw [if_neg (fun q => c3 (a2.mp q)), if_neg (show ¬ (97 ≤ b ∧ b ≤ 122) by omega), if_pos (show 48 ≤ b ∧ b ≤ 57 by omega)]; rfl
theorem srN_1 {b : Nat} : srN b = 1 ↔ 97 ≤ b ∧ b ≤ 122 := by
  unfold srN
  by_cases c : 97 ≤ b ∧ b ≤ 122
  · rw [if_pos c]; exact ⟨fun _ => c, fun _ => rfl⟩
  · rw [if_neg c]
    by_cases c2 : 48 ≤ b ∧ b ≤ 57
    · rw [if_pos c2]; exact ⟨fun q => by omega, fun q => absurd q c⟩
    · rw [if_neg c2]; exact ⟨fun q => by omega, fun q => absurd q c⟩
theorem srN_2 {b : Nat} : srN b = 2 ↔ 48 ≤ b ∧ b ≤ 57 := by
  unfold srN
  by_cases c : 97 ≤ b ∧ b ≤ 122
  · rw [if_pos c]; exact ⟨fun q => by omega, fun q => by omega⟩
  · rw [if_neg c]
    by_cases c2 : 48 ≤ b ∧ b ≤ 57
    · rw [if_pos c2]; exact ⟨fun _ => c2, fun _ => rfl⟩
    · rw [if_neg c2]; exact ⟨fun q => by omega, fun q => absurd q c2⟩
/-- the code of a word, in thirty-twos -/
def cW (d : Nat → Nat) : Nat → Nat
  | 0 => 0
  | m + 1 => cW d m * 32 + d m
theorem cW_s (d : Nat → Nat) (m : Nat) : cW d (m + 1) = cW d m * 32 + d m := rfl
theorem cW_cong {d d' : Nat → Nat} : ∀ m, (∀ i, i < m → d i = d' i) → cW d m = cW d' m
  | 0, _ => rfl
  | m + 1, h => by rw [cW_s, cW_s, cW_cong m (fun i hi => h i (by omega)), h m (by omega)]
theorem cW_inj {d d' : Nat → Nat} : ∀ (m m' : Nat), (∀ i, i < m → 1 ≤ d i ∧ d i ≤ 31) → (∀ i, i < m' → 1 ≤ d' i ∧ d' i ≤ 31) → cW d m = cW d' m' → m = m' ∧ ∀ i, i < m → d i = d' i
  | 0, 0, _, _, _ => ⟨rfl, fun i hi => by omega⟩
  | 0, m' + 1, _, h2, h => by
    have := h2 m' (by omega)
    rw [cW_s] at h
    have : cW d 0 = 0 := rfl
    omega
  | m + 1, 0, h1, _, h => by
    have := h1 m (by omega)
    rw [cW_s] at h
    have : cW d' 0 = 0 := rfl
    omega
  | m + 1, m' + 1, h1, h2, h => by
    have a := h1 m (by omega)
    have b := h2 m' (by omega)
    rw [cW_s, cW_s] at h
    have e1 : cW d m = cW d' m' := by omega
    have e2 : d m = d' m' := by omega
    obtain ⟨q1, q2⟩ := cW_inj m m' (fun i hi => h1 i (by omega)) (fun i hi => h2 i (by omega)) e1
    subst q1
    refine ⟨rfl, fun i hi => ?_⟩
    by_cases q : i = m
    · subst q; exact e2
    · exact q2 i (by omega)
theorem cW_le {d : Nat → Nat} : ∀ m, (∀ i, i < m → d i ≤ 31) → cW d m < 32 ^ m
  | 0, _ => by show 0 < 1; omega
  | m + 1, h => by
    have := cW_le m (fun i hi => h i (by omega))
    have := h m (by omega)
    rw [cW_s, Nat.pow_succ]
    omega
theorem p32 {m : Nat} (h : m ≤ 7) : 32 ^ m ≤ 34359738368 := Nat.le_trans (Nat.pow_le_pow_right (by omega) h) (by decide)
def wW (b : Nat → Nat) (s m : Nat) : Int64 := if m ≤ 7 then lN (cW (fun i => b (s + i) - 96) m) else -1
def nW (b : Nat → Nat) (s : Nat) : Nat → Nat
  | 0 => 0
  | m + 1 => if nW b s m ≤ 10000 then nW b s m * 10 + (b (s + m) - 48) else nW b s m
theorem nW_s (b : Nat → Nat) (s m : Nat) : nW b s (m + 1) = if nW b s m ≤ 10000 then nW b s m * 10 + (b (s + m) - 48) else nW b s m := rfl
theorem nW_le {b : Nat → Nat} {s : Nat} : ∀ m, (∀ i, i < m → b (s + i) ≤ 57) → nW b s m ≤ 100009
  | 0, _ => by show 0 ≤ _; omega
  | m + 1, h => by
    have := nW_le m (fun i hi => h i (by omega))
    have := h m (by omega)
    rw [nW_s]
    by_cases c : nW b s m ≤ 10000
    · rw [if_pos c]; omega
    · rw [if_neg c]; omega
theorem nW_stay {b : Nat → Nat} {s m : Nat} (h : ¬ nW b s m ≤ 10000) : ∀ k, nW b s (m + k) = nW b s m
  | 0 => rfl
  | k + 1 => by
    rw [← Nat.add_assoc, nW_s, nW_stay h k, if_neg h]
/-- a token that both sides stand at -/
def Tok (b : Nat → Nat) (N s e : Nat) (so : Int32) (wo : Int64) : Prop :=
  s ≤ e ∧ e ≤ N ∧ ((s = N ∧ so = 0) ∨ (s < N ∧ e = s + 1 ∧ so = 3 ∧ wo = lN (b s) ∧ srN (b s) = 0) ∨ (s < e ∧ so = 2 ∧ (∀ i, s ≤ i → i < e → srN (b i) = 2) ∧ wo = lN (nW b s (e - s))) ∨ (s < e ∧ so = 1 ∧ (∀ i, s ≤ i → i < e → srN (b i) = 1) ∧ wo = wW b s (e - s)))
