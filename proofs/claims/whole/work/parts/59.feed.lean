/-! feed: the tape -/
theorem byte_sh (x : Int32) (n : Nat) (hn : n ≤ 24) : ((x.toUInt32 >>> ((nI n).toUInt32 &&& Int32.toUInt32 31)).toInt32 &&& (255 : Int32)) = ((x >>> (nI n &&& 31)) &&& (255 : Int32)) := by
  apply b_ext
  intro i hi
  rw [b_and, b_and, b_255, b_ushr n (by omega), b_sshr n (by omega) x hi]
  by_cases h : i < 8
  · rw [if_pos (by omega)]
  · simp [h]
theorem byte_rg (x : Int32) : wi (x &&& (255 : Int32)) 0 255 = true := by
  obtain ⟨j, hj, e⟩ := pk_andE x 8 (m := 255) (by decide)
  rw [e]
  exact (wi_nI (by omega) _ _).mpr ⟨by omega, by omega⟩
def bytOf (x : Int32) (n : Nat) : Int32 := (x >>> (nI n &&& 31)) &&& (255 : Int32)
def four (T : Nat → Int32) (n : Nat) (x : Int32) : Nat → Int32 := upd (upd (upd (upd T n (bytOf x 24)) (n + 1) (bytOf x 16)) (n + 2) (bytOf x 8)) (n + 3) (bytOf x 0)
theorem l_add4 (m : Nat) (T : Nat → Int32) (n : Nat) (hn : n < 200) (x : Int32) (s : Nat) (hs : s ≤ 24) : g_X4_add_3 (m + 1) T (nI n) x (nI s) = g_X4_add_3 m (upd T n (bytOf x s)) (nI (n + 1)) x (nI s + (-8)) ∧ g_X9_four_3 (m + 1) T (nI n) x (nI s) = g_X9_four_3 m (upd T n (bytOf x s)) (nI (n + 1)) x (nI s + (-8)) := by
  have e1 : ¬ nI s < (0 : Int32) := nI_pos (by omega)
  have e2 : ¬ (200 : Int32) ≤ nI n := by
    have q : ¬ nI 200 ≤ nI n := nI_ge (by omega) (by omega)
    exact q
  have e3 : inb (nI n) 200 = true := inb_t hn (by omega)
  have e4 : (nI n).toNatClampNeg = n := nI_clamp (by omega)
  have e5 : nI n + (1 : Int32) = nI (n + 1) := nI_1 n
  constructor
  · rw [gs_X4_add_3]
    unfold f_X4_add_3
    rw [if_neg e1, if_neg e2, e3, if_pos rfl, e4, e5, byte_sh x s hs]
    rfl
  · rw [gs_X9_four_3]
    unfold f_X9_four_3
    rw [if_neg e1, e3, if_pos rfl, e4, e5]
    rfl
theorem l_add (T : Nat → Int32) (n : Nat) (hn : n ≤ 196) (x : Int32) : f_X4_add T (nI n) x = some (four T n x, nI (n + 4)) ∧ f_X9_four T (nI n) x = some (four T n x, nI (n + 4)) := by
  have f0 : FU = (999995 + 5) := rfl
  have z24 : (24 : Int32) = nI 24 := rfl
  have z16 : nI 24 + (-8 : Int32) = nI 16 := by decide
  have z8 : nI 16 + (-8 : Int32) = nI 8 := by decide
  have z0 : nI 8 + (-8 : Int32) = nI 0 := by decide
  have zm : nI 0 + (-8 : Int32) < 0 := by decide
  unfold f_X4_add f_X9_four four
  rw [f0, z24]
  have a1 := l_add4 (999995 + 4) T n (by omega) x 24 (by omega)
  rw [z16] at a1
  have a2 := l_add4 (999995 + 3) (upd T n (bytOf x 24)) (n + 1) (by omega) x 16 (by omega)
  rw [z8] at a2
  have a3 := l_add4 (999995 + 2) (upd (upd T n (bytOf x 24)) (n + 1) (bytOf x 16)) (n + 2) (by omega) x 8 (by omega)
  rw [z0] at a3
  have a4 := l_add4 (999995 + 1) (upd (upd (upd T n (bytOf x 24)) (n + 1) (bytOf x 16)) (n + 2) (bytOf x 8)) (n + 3) (by omega) x 0 (by omega)
  constructor
  · rw [show 999995 + 5 = (999995 + 4) + 1 from rfl, a1.1, show 999995 + 4 = (999995 + 3) + 1 from rfl, a2.1, show 999995 + 3 = (999995 + 2) + 1 from rfl, a3.1, show 999995 + 2 = (999995 + 1) + 1 from rfl, a4.1, gs_X4_add_3]
    unfold f_X4_add_3
    rw [if_pos zm]
  · rw [show 999995 + 5 = (999995 + 4) + 1 from rfl, a1.2, show 999995 + 4 = (999995 + 3) + 1 from rfl, a2.2, show 999995 + 3 = (999995 + 2) + 1 from rfl, a3.2, show 999995 + 2 = (999995 + 1) + 1 from rfl, a4.2, gs_X9_four_3]
    unfold f_X9_four_3
    rw [if_pos zm]
theorem four_rg {T : Nat → Int32} {n : Nat} (h : ∀ j, j < n → wi (T j) 0 255 = true) (x : Int32) : ∀ j, j < n + 4 → wi (four T n x j) 0 255 = true := by
  intro j hj
  unfold four
  by_cases h3 : j = n + 3
  · subst h3; rw [pk_us]; exact byte_rg _
  · rw [pk_un h3]
    by_cases h2 : j = n + 2
    · subst h2; rw [pk_us]; exact byte_rg _
    · rw [pk_un h2]
      by_cases h1 : j = n + 1
      · subst h1; rw [pk_us]; exact byte_rg _
      · rw [pk_un h1]
        by_cases h0 : j = n
        · subst h0; rw [pk_us]; exact byte_rg _
        · rw [pk_un h0]; exact h j (by omega)
theorem sx_feed (th : Int32) (T : Nat → Int32) (n : Nat) (hn : n ≤ 200) (h : ∀ j, j < n → wi (T j) 0 255 = true) (a b c d e : Int32) :
    ∃ X Y, f_X8_feed T (nI n) a b c d e = some X ∧ f_X9_feed th T (nI n) a b c d e = some Y ∧ X.1 = Y.1 ∧ X.2.1 = Y.2.2.1 ∧ X.2.2 = Y.2.2.2 ∧ ∃ n' : Nat, n' ≤ 200 ∧ X.2.2 = nI n' ∧ ∀ j, j < n' → wi (X.2.1 j) 0 255 = true := by
  unfold f_X8_feed f_X4_hasRoom f_X9_feed
  have e0 : nI n + (20 : Int32) = nI (n + 20) := nI_add n 20
  rw [e0]
  have e1 : ((200 : Int32) < nI (n + 20)) ↔ 200 < n + 20 := nI_ltI (a := 200) (by omega) (by omega)
  have e2 : (nI (n + 20) ≤ (200 : Int32)) ↔ n + 20 ≤ 200 := nI_leI (b := 200) (by omega) (by omega)
  have z1 : ¬ (1 : Int32) = 0 := by decide
  by_cases c1 : n + 20 ≤ 200
  · have e1' : ¬ ((200 : Int32) < nI (n + 20)) := fun q => by have := e1.mp q; omega
    have a1 := l_add T n (by omega) a
    have a2 := l_add (four T n a) (n + 4) (by omega) b
    have a3 := l_add (four (four T n a) (n + 4) b) (n + 4 + 4) (by omega) c
    have a4 := l_add (four (four (four T n a) (n + 4) b) (n + 4 + 4) c) (n + 4 + 4 + 4) (by omega) d
    have a5 := l_add (four (four (four (four T n a) (n + 4) b) (n + 4 + 4) c) (n + 4 + 4 + 4) d) (n + 4 + 4 + 4 + 4) (by omega) e
    rw [if_neg e1', if_pos (e2.mpr c1)]
    simp only [Option.bind_some, z1, if_false, a1.1, a1.2, a2.1, a2.2, a3.1, a3.2, a4.1, a4.2, a5.1, a5.2]
    exact ⟨_, _, rfl, rfl, rfl, rfl, rfl, n + 4 + 4 + 4 + 4 + 4, by omega, rfl, four_rg (four_rg (four_rg (four_rg (four_rg h a) b) c) d) e⟩
  · rw [if_pos (e1.mpr (by omega)), if_neg (fun q => c1 (e2.mp q))]
    simp only [Option.bind_some, if_true]
    exact ⟨_, _, rfl, rfl, rfl, rfl, rfl, n, hn, rfl, h⟩
