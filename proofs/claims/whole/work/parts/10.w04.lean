theorem i_X3_isAtEnd_X3 : ∀ w ∈ wsX30, w ∈ wsX3_isAtEnd := by decide +kernel
theorem m_X3_isAtEnd_f35 : Cond.fieldLink RX3 35 "SailCargo$Reader" "tokenStart" "I" ∈ wsX3_isAtEnd := by decide +kernel
theorem m_X3_isAtEnd_f9 : Cond.fieldLink RX3 9 "SailCargo$Reader" "tape" "LSailCargo$Tape;" ∈ wsX3_isAtEnd := by decide +kernel
theorem i_X3_isAtEnd_X4 : ∀ w ∈ wsX40, w ∈ wsX3_isAtEnd := by decide +kernel
set_option maxHeartbeats 4000000 in
set_option maxRecDepth 100000 in
theorem c_X3_isAtEnd (l : Launch) (D : va_G) (cy : Nat → ClassId) (qRe qTa : Nat → Nat) (Re_tokenStart : Int32) (Re_tokenEnd : Int32) (Ta_bytes : Nat → Int32) (Ta_length : Int32) (sz : Nat)  (X : Int32) (hf : f_X3_isAtEnd Re_tokenStart Ta_length = some X) : Met l yX3_isAtEnd wsX3_isAtEnd ({ frames := 0, cells := 0, slots := 0, locals := 0 } : Room) (va_Pc [.ref (qRe 0)] (PW D cy (wX3 cy qRe (qTa 0) Re_tokenStart Re_tokenEnd ++ (wX4 cy qTa Ta_bytes Ta_length)) sz)) (va_Qi (fun (r : Int32) (_ : Unit) => r = X) (fun u t => BW D cy (va_A (wX3 cy qRe (qTa 0) Re_tokenStart Re_tokenEnd ++ (wX4 cy qTa Ta_bytes Ta_length)) sz) (wX3 cy qRe (qTa 0) Re_tokenStart Re_tokenEnd ++ (wX4 cy qTa Ta_bytes Ta_length)) t) (va_A (wX3 cy qRe (qTa 0) Re_tokenStart Re_tokenEnd ++ (wX4 cy qTa Ta_bytes Ta_length)) sz)) 0 0 (va_A (wX3 cy qRe (qTa 0) Re_tokenStart Re_tokenEnd ++ (wX4 cy qTa Ta_bytes Ta_length)) sz) := by
  refine met_enter (Qc := fun A => (va_Qi (fun (r : Int32) (_ : Unit) => r = X) (fun u t => BW D cy A (wX3 cy qRe (qTa 0) Re_tokenStart Re_tokenEnd ++ (wX4 cy qTa Ta_bytes Ta_length)) t) A)) (lv0 := [(0, .ref (qRe 0))]) (by decide) rfl (Nat.le_of_ble_eq_true rfl) rfl ?_
  intro p e s m below meth c A ls hnm C0 hP hD hS hl
  generalize hH : s.heap = H at hP ⊢
  generalize hLoc : ([] : List Loc) = locs at hS ⊢
  have hS : va_S A s.heap H locs := by rw [← hH]; exact hS
  have C0 : CX cX3_isAtEnd 1 (some .boolean) RX3 wsX3_isAtEnd D cy p s m _ meth c A := C0
  obtain ⟨hx, hb, hr, hml, hown, hts, hK, hA, hN, hlocks⟩ := id C0
  unfold f_X3_isAtEnd at hf
  refine lv_aload_n hx hb dX3_isAtEnd_0 rfl (lv_at hl 0 rfl) ?_
  refine va_get (D := D) (ci := 3) (v := .int Re_tokenStart) (C := RX3) (T := TX3) (N := 3) hx hb hts i_X3_isAtEnd_X3 hown hK hP 0 rfl rfl 1 (by decide) (hts _ m_X3_isAtEnd_f35) (fun _ h9 => h9) rfl dX3_isAtEnd_1 ?_
  refine lv_aload_n hx hb dX3_isAtEnd_4 rfl (lv_at hl 0 rfl) ?_
  refine va_get (D := D) (ci := 3) (v := .ref (qTa 0)) (C := RX3) (T := TX3) (N := 3) hx hb hts i_X3_isAtEnd_X3 hown hK hP 0 rfl rfl 0 (by decide) (hts _ m_X3_isAtEnd_f9) (fun _ h9 => h9) rfl dX3_isAtEnd_5 ?_
  refine va_getN (D := D) (ci := 4) (v := .int Ta_length) (C := RX4) (T := TX4) (N := 2) hx hb hts i_X3_isAtEnd_X4 hown hK hP 1 rfl rfl 1 (by decide) (va_Nw.use rfl (hN _ nw_X3_89)) (fun _ h9 => h9) rfl dX3_isAtEnd_8 ?_
  refine lv_icmp_lt (tgt := 18) hx hb dX3_isAtEnd_11 (by decide) (fun hc1 => ?_) (fun hc1 => ?_)
  · have hf := ift hf hc1
    refine lv_iconst (v := (0 : Int32)) hx hb dX3_isAtEnd_18 (by decide) ?_
    exact rq_z C0 (by decide) () (Option.some.inj hf) hP hD hS dX3_isAtEnd_19
  · have hf := iff_ hf hc1
    refine lv_iconst (v := (1 : Int32)) hx hb dX3_isAtEnd_14 (by decide) ?_
    refine lv_goto (tgt := 19) hx hb dX3_isAtEnd_15 (by decide) ?_
    exact rq_z C0 (by decide) () (Option.some.inj hf) hP hD hS dX3_isAtEnd_19

theorem m_X3_sortOf_s_X8_isWithin : Cond.static yX8_isWithin ∈ wsX3_sortOf := by decide +kernel
theorem m_X3_sortOf_i_X8 : Cond.initialized RX8 ∈ wsX3_sortOf := by decide +kernel
set_option maxHeartbeats 4000000 in
set_option maxRecDepth 100000 in
theorem c_X3_sortOf (l : Launch) (D : va_G) (cy : Nat → ClassId)   (sz : Nat) (x0 : Int32) (X : Int32) (hf : f_X3_sortOf x0 = some X) : Met l yX3_sortOf wsX3_sortOf ({ frames := 1, cells := 0, slots := 0, locals := 22 } : Room) (va_Pc [.int x0] (PW D cy ([] : va_W) sz)) (va_Qi (fun (r : Int32) (_ : Unit) => r = X) (fun u t => BW D cy (va_A ([] : va_W) sz) ([] : va_W) t) (va_A ([] : va_W) sz)) 0 0 (va_A ([] : va_W) sz) := by
  refine met_enter (Qc := fun A => (va_Qi (fun (r : Int32) (_ : Unit) => r = X) (fun u t => BW D cy A ([] : va_W) t) A)) (lv0 := [(0, .int x0)]) (by decide) rfl (Nat.le_of_ble_eq_true rfl) rfl ?_
  intro p e s m below meth c A ls hnm C0 hP hD hS hl
  generalize hH : s.heap = H at hP ⊢
  generalize hLoc : ([] : List Loc) = locs at hS ⊢
  have hS : va_S A s.heap H locs := by rw [← hH]; exact hS
  have C0 : CX cX3_sortOf 1 (some .int) RX3 wsX3_sortOf D cy p s m _ meth c A := C0
  obtain ⟨hx, hb, hr, hml, hown, hts, hK, hA, hN, hlocks⟩ := id C0
  unfold f_X3_sortOf at hf
  refine lv_iload_n hx hb dX3_sortOf_0 rfl (lv_at hl 0 rfl) ?_
  refine lv_bipush (v := (97 : Int32)) hx hb dX3_sortOf_1 (by decide) ?_
  refine lv_bipush (v := (122 : Int32)) hx hb dX3_sortOf_3 (by decide) ?_
  obtain ⟨u1, eu1, hf⟩ := Option.bind_eq_some_iff.mp hf
  refine cq_i (wc' := fun (u : Unit) => ([] : va_W)) (ws' := fun (u : Unit) => ([] : va_W)) (wc := ([] : va_W)) (wr := ([] : va_W)) C0 hP hD hS [] [] [] rfl rfl (by decide) (by decide) (by decide) (fun _ => rfl) (va_runSN (As := [.int x0, .int (97 : Int32), .int (122 : Int32)]) (rest := []) ⟨hx, hb, hml, hown, hts⟩ (c_X8_isWithin l D cy   H.size x0 (97 : Int32) (122 : Int32) u1 eu1) ⟨va_cnB 3 hts gX3_sortOf_X8_isWithin_n91 rfl rfl rfl (hN _ nw_X3_91) (hts _ m_X3_sortOf_i_X8) (by decide +kernel) ⟨Nat.le_of_ble_eq_true rfl, Nat.le_of_ble_eq_true rfl⟩, hts _ m_X3_sortOf_s_X8_isWithin, trivial⟩ (pre_S (hP.sub (ws' := ([] : va_W)) [] rfl) hK (hD.sub (ws' := ([] : va_W)) [] (by decide) rfl) hN) rfl rfl hl.1 rfl (lv_room (Nat.le_of_ble_eq_true rfl)) dX3_sortOf_5 ⟨Nat.zero_le _, Nat.zero_le _⟩) (fun r u H locs hw hP hD hS => ?_)
  have hw := hw.symm
  subst hw
  have hP : va_P D vwCl ([] : va_W) H := hP
  have hD : va_D A ([] : va_W) := hD
  refine lv_if_eq (tgt := 13) hx hb dX3_sortOf_8 (by decide) (fun hc2 => ?_) (fun hc2 => ?_)
  · have hf := ift hf hc2
    refine lv_iload_n hx hb dX3_sortOf_13 rfl (lv_at hl 0 rfl) ?_
    refine lv_bipush (v := (48 : Int32)) hx hb dX3_sortOf_14 (by decide) ?_
    refine lv_bipush (v := (57 : Int32)) hx hb dX3_sortOf_16 (by decide) ?_
    obtain ⟨u3, eu3, hf⟩ := Option.bind_eq_some_iff.mp hf
    refine cq_i (wc' := fun (u : Unit) => ([] : va_W)) (ws' := fun (u : Unit) => ([] : va_W)) (wc := ([] : va_W)) (wr := ([] : va_W)) C0 hP hD hS [] [] [] rfl rfl (by decide) (by decide) (by decide) (fun _ => rfl) (va_runSN (As := [.int x0, .int (48 : Int32), .int (57 : Int32)]) (rest := []) ⟨hx, hb, hml, hown, hts⟩ (c_X8_isWithin l D cy   H.size x0 (48 : Int32) (57 : Int32) u3 eu3) ⟨va_cnB 3 hts gX3_sortOf_X8_isWithin_n91 rfl rfl rfl (hN _ nw_X3_91) (hts _ m_X3_sortOf_i_X8) (by decide +kernel) ⟨Nat.le_of_ble_eq_true rfl, Nat.le_of_ble_eq_true rfl⟩, hts _ m_X3_sortOf_s_X8_isWithin, trivial⟩ (pre_S (hP.sub (ws' := ([] : va_W)) [] rfl) hK (hD.sub (ws' := ([] : va_W)) [] (by decide) rfl) hN) rfl rfl hl.1 rfl (lv_room (Nat.le_of_ble_eq_true rfl)) dX3_sortOf_18 ⟨Nat.zero_le _, Nat.zero_le _⟩) (fun r u H locs hw hP hD hS => ?_)
    have hw := hw.symm
    subst hw
    have hP : va_P D vwCl ([] : va_W) H := hP
    have hD : va_D A ([] : va_W) := hD
    refine lv_if_eq (tgt := 28) hx hb dX3_sortOf_21 (by decide) (fun hc4 => ?_) (fun hc4 => ?_)
    · have hf := ift hf hc4
      refine lv_iconst (v := (0 : Int32)) hx hb dX3_sortOf_28 (by decide) ?_
      exact rq_i C0 () (Option.some.inj hf) hP hD hS dX3_sortOf_29
    · have hf := iff_ hf hc4
      refine lv_iconst (v := (2 : Int32)) hx hb dX3_sortOf_24 (by decide) ?_
      refine lv_goto (tgt := 29) hx hb dX3_sortOf_25 (by decide) ?_
      exact rq_i C0 () (Option.some.inj hf) hP hD hS dX3_sortOf_29
  · have hf := iff_ hf hc2
    refine lv_iconst (v := (1 : Int32)) hx hb dX3_sortOf_11 (by decide) ?_
    exact rq_i C0 () (Option.some.inj hf) hP hD hS dX3_sortOf_12

theorem i_X3_advance_X3 : ∀ w ∈ wsX30, w ∈ wsX3_advance := by decide +kernel
theorem m_X3_advance_f21 : Cond.fieldLink RX3 21 "SailCargo$Reader" "tokenEnd" "I" ∈ wsX3_advance := by decide +kernel
theorem m_X3_advance_f9 : Cond.fieldLink RX3 9 "SailCargo$Reader" "tape" "LSailCargo$Tape;" ∈ wsX3_advance := by decide +kernel
theorem i_X3_advance_X4 : ∀ w ∈ wsX40, w ∈ wsX3_advance := by decide +kernel
theorem m_X3_advance_f35 : Cond.fieldLink RX3 35 "SailCargo$Reader" "tokenStart" "I" ∈ wsX3_advance := by decide +kernel
set_option maxHeartbeats 4000000 in
set_option maxRecDepth 100000 in
theorem w_X3_advance_94 {p : Program} {l : Launch} {e : Env} {s : State} {m : MethodId} {args : Array Value} {below : List Frame} {meth : Method} {c : Code} {A : Nat → Prop} {D : va_G} {cy : Nat → ClassId} {qRe qTa : Nat → Nat} {Ta_bytes : Nat → Int32} {Ta_length : Int32} {X : (Int32) × (Int32)}  (C0 : CX cX3_advance 2 none RX3 wsX3_advance D cy p s m args meth c A)  : ∀ (n : Nat) (Re_tokenStart : Int32) (Re_tokenEnd : Int32) (x1 : Int32), g_X3_advance_94 Ta_bytes Ta_length n Re_tokenStart Re_tokenEnd x1 = some X → ∀ (H : Heap) (locs : List Loc) (ls : Array Slot), va_P D vwCl (wX3 cy qRe (qTa 0) Re_tokenStart Re_tokenEnd ++ (wX4 cy qTa Ta_bytes Ta_length)) H → va_D A (wX3 cy qRe (qTa 0) Re_tokenStart Re_tokenEnd ++ (wX4 cy qTa Ta_bytes Ta_length)) → va_S A s.heap H locs → lv_has ls 2 [(0, .ref (qRe 0)), (1, .int x1)] → W p l e ({ frames := 2, cells := 0, slots := 0, locals := 42 } : Room) s m args below meth c H locs 0 0 (MQ below (va_Qv (fun (u : (Int32) × (Int32)) => u = X) (fun u t => BW D cy A (wX3 cy qRe (qTa 0) u.1 u.2 ++ (wX4 cy qTa Ta_bytes Ta_length)) t) A) args s 0 0 A) (F0 m 94 ls []) := by
  obtain ⟨hx, hb, hr, hml, hown, hts, hK, hA, hN, hlocks⟩ := id C0
  intro n
  induction n with
  | zero => intro Re_tokenStart Re_tokenEnd x1 hf; exact (no_some hf).elim
  | succ n hk94 =>
    intro Re_tokenStart Re_tokenEnd x1 hf H locs ls hP hD hS hl
    have hf : f_X3_advance_94 Ta_bytes Ta_length (fun Re_tokenStart Re_tokenEnd x1 => g_X3_advance_94 Ta_bytes Ta_length n Re_tokenStart Re_tokenEnd x1) Re_tokenStart Re_tokenEnd x1 = some X := hf
    unfold f_X3_advance_94 at hf
    refine lv_iload_n hx hb dX3_advance_94 rfl (lv_at hl 1 rfl) ?_
    refine lv_if_eq (tgt := 144) hx hb dX3_advance_95 (by decide) (fun hc1 => ?_) (fun hc1 => ?_)
    · have hf := ift hf hc1
      exact rq_v C0 (Re_tokenStart, Re_tokenEnd) (Option.some.inj hf) hP hD hS dX3_advance_144
    · have hf := iff_ hf hc1
      refine lv_aload_n hx hb dX3_advance_98 rfl (lv_at hl 0 rfl) ?_
      refine va_get (D := D) (ci := 3) (v := .int Re_tokenEnd) (C := RX3) (T := TX3) (N := 3) hx hb hts i_X3_advance_X3 hown hK hP 0 rfl rfl 2 (by decide) (hts _ m_X3_advance_f21) (fun _ h9 => h9) rfl dX3_advance_99 ?_
      refine lv_aload_n hx hb dX3_advance_102 rfl (lv_at hl 0 rfl) ?_
      refine va_get (D := D) (ci := 3) (v := .ref (qTa 0)) (C := RX3) (T := TX3) (N := 3) hx hb hts i_X3_advance_X3 hown hK hP 0 rfl rfl 0 (by decide) (hts _ m_X3_advance_f9) (fun _ h9 => h9) rfl dX3_advance_103 ?_
      refine va_getN (D := D) (ci := 4) (v := .int Ta_length) (C := RX4) (T := TX4) (N := 2) hx hb hts i_X3_advance_X4 hown hK hP 1 rfl rfl 1 (by decide) (va_Nw.use rfl (hN _ nw_X3_89)) (fun _ h9 => h9) rfl dX3_advance_106 ?_
      refine lv_icmp_ge (tgt := 144) hx hb dX3_advance_109 (by decide) (fun hc2 => ?_) (fun hc2 => ?_)
      · have hf := ift hf hc2
        exact rq_v C0 (Re_tokenStart, Re_tokenEnd) (Option.some.inj hf) hP hD hS dX3_advance_144
      · have hf := iff_ hf hc2
        refine lv_aload_n hx hb dX3_advance_112 rfl (lv_at hl 0 rfl) ?_
        refine va_get (D := D) (ci := 3) (v := .ref (qTa 0)) (C := RX3) (T := TX3) (N := 3) hx hb hts i_X3_advance_X3 hown hK hP 0 rfl rfl 0 (by decide) (hts _ m_X3_advance_f9) (fun _ h9 => h9) rfl dX3_advance_113 ?_
        refine va_getN (D := D) (ci := 4) (v := .ref (qTa 1)) (C := RX4) (T := TX4) (N := 2) hx hb hts i_X3_advance_X4 hown hK hP 1 rfl rfl 0 (by decide) (va_Nw.use rfl (hN _ nw_X3_72)) (fun _ h9 => h9) rfl dX3_advance_116 ?_
        refine lv_aload_n hx hb dX3_advance_119 rfl (lv_at hl 0 rfl) ?_
        refine va_get (D := D) (ci := 3) (v := .int Re_tokenEnd) (C := RX3) (T := TX3) (N := 3) hx hb hts i_X3_advance_X3 hown hK hP 0 rfl rfl 2 (by decide) (hts _ m_X3_advance_f21) (fun _ h9 => h9) rfl dX3_advance_120 ?_
        obtain ⟨hz3, hf⟩ := ifn hf
        refine va_iald hx hb hK hP 2 0 rfl rfl (inb_in hz3) dX3_advance_123 ?_
        obtain ⟨u4, eu4, hf⟩ := Option.bind_eq_some_iff.mp hf
        refine cq_i (wc' := fun (u : Unit) => ([] : va_W)) (ws' := fun (u : Unit) => (wX3 cy qRe (qTa 0) Re_tokenStart Re_tokenEnd ++ (wX4 cy qTa Ta_bytes Ta_length))) (wc := ([] : va_W)) (wr := (wX3 cy qRe (qTa 0) Re_tokenStart Re_tokenEnd ++ (wX4 cy qTa Ta_bytes Ta_length))) C0 hP hD hS [] [0, 1, 2] [0, 1, 2] rfl rfl (by decide) (by decide) (by decide) (fun _ => rfl) (va_runS (As := [.int (Ta_bytes Re_tokenEnd.toNatClampNeg)]) (rest := []) ⟨hx, hb, hml, hown, hts⟩ (c_X3_sortOf l D cy   H.size (Ta_bytes Re_tokenEnd.toNatClampNeg) u4 eu4) (va_cwS 1 hts gX3_advance_X3_sortOf rfl rfl rfl (by decide +kernel) ⟨Nat.le_of_ble_eq_true rfl, Nat.le_of_ble_eq_true rfl⟩) (pre_S (hP.sub (ws' := ([] : va_W)) [] rfl) hK (hD.sub (ws' := ([] : va_W)) [] (by decide) rfl) hN) rfl rfl hl.1 rfl (lv_room (Nat.le_of_ble_eq_true rfl)) dX3_advance_124 ⟨Nat.zero_le _, Nat.zero_le _⟩) (fun r u H locs hw hP hD hS => ?_)
        have hw := hw.symm
        subst hw
        have hP : va_P D vwCl (wX3 cy qRe (qTa 0) Re_tokenStart Re_tokenEnd ++ (wX4 cy qTa Ta_bytes Ta_length)) H := hP
        have hD : va_D A (wX3 cy qRe (qTa 0) Re_tokenStart Re_tokenEnd ++ (wX4 cy qTa Ta_bytes Ta_length)) := hD
        refine lv_iload_n hx hb dX3_advance_127 rfl (lv_at hl 1 rfl) ?_
        refine lv_icmp_ne (tgt := 144) hx hb dX3_advance_128 (by decide) (fun hc5 => ?_) (fun hc5 => ?_)
        · have hf := iff_ hf hc5
          exact rq_v C0 (Re_tokenStart, Re_tokenEnd) (Option.some.inj hf) hP hD hS dX3_advance_144
        · have hf := ift hf hc5
          refine lv_aload_n hx hb dX3_advance_131 rfl (lv_at hl 0 rfl) ?_
          refine lv_dup hx hb dX3_advance_132 rfl ?_
          refine va_get (D := D) (ci := 3) (v := .int Re_tokenEnd) (C := RX3) (T := TX3) (N := 3) hx hb hts i_X3_advance_X3 hown hK hP 0 rfl rfl 2 (by decide) (hts _ m_X3_advance_f21) (fun _ h9 => h9) rfl dX3_advance_133 ?_
          refine lv_iconst (v := (1 : Int32)) hx hb dX3_advance_136 (by decide) ?_
          refine lv_iadd hx hb dX3_advance_137 ?_
          refine va_put (D := D) (ci := 3) (v := .int (Re_tokenEnd + (1 : Int32))) (ty := .int) (C := RX3) (T := TX3) (N := 3) hx hb hts i_X3_advance_X3 tyX3 tyX3_ok nmX3 hown hK hP hD hS 0 rfl rfl 2 (by decide) (hts _ m_X3_advance_f21) (fun _ h9 => h9) rfl (by decide +kernel) rfl rfl (Nat.le_of_ble_eq_true rfl) dX3_advance_138 (fun H locs hP hD hS => ?_)
          have hP : va_P D vwCl (wX3 cy qRe (qTa 0) Re_tokenStart (Re_tokenEnd + (1 : Int32)) ++ (wX4 cy qTa Ta_bytes Ta_length)) H := hP
          have hD : va_D A (wX3 cy qRe (qTa 0) Re_tokenStart (Re_tokenEnd + (1 : Int32)) ++ (wX4 cy qTa Ta_bytes Ta_length)) := hD
          refine lv_goto (tgt := 94) hx hb dX3_advance_141 (by decide) ?_
          exact hk94 Re_tokenStart (Re_tokenEnd + (1 : Int32)) x1 hf H locs ls hP hD hS (lv_sub hl [0, 1] rfl)

set_option maxHeartbeats 4000000 in
set_option maxRecDepth 100000 in
theorem w_X3_advance_52 {p : Program} {l : Launch} {e : Env} {s : State} {m : MethodId} {args : Array Value} {below : List Frame} {meth : Method} {c : Code} {A : Nat → Prop} {D : va_G} {cy : Nat → ClassId} {qRe qTa : Nat → Nat} {Ta_bytes : Nat → Int32} {Ta_length : Int32} {X : (Int32) × (Int32)}  (C0 : CX cX3_advance 2 none RX3 wsX3_advance D cy p s m args meth c A)  (Re_tokenStart : Int32) (Re_tokenEnd : Int32)  (hf : f_X3_advance_52 Ta_bytes Ta_length Re_tokenStart Re_tokenEnd = some X) : ∀ (H : Heap) (locs : List Loc) (ls : Array Slot), va_P D vwCl (wX3 cy qRe (qTa 0) Re_tokenStart Re_tokenEnd ++ (wX4 cy qTa Ta_bytes Ta_length)) H → va_D A (wX3 cy qRe (qTa 0) Re_tokenStart Re_tokenEnd ++ (wX4 cy qTa Ta_bytes Ta_length)) → va_S A s.heap H locs → lv_has ls 2 [(0, .ref (qRe 0))] → W p l e ({ frames := 2, cells := 0, slots := 0, locals := 42 } : Room) s m args below meth c H locs 0 0 (MQ below (va_Qv (fun (u : (Int32) × (Int32)) => u = X) (fun u t => BW D cy A (wX3 cy qRe (qTa 0) u.1 u.2 ++ (wX4 cy qTa Ta_bytes Ta_length)) t) A) args s 0 0 A) (F0 m 52 ls []) := by
  obtain ⟨hx, hb, hr, hml, hown, hts, hK, hA, hN, hlocks⟩ := id C0
  intro H locs ls hP hD hS hl
  unfold f_X3_advance_52 at hf
  refine lv_aload_n hx hb dX3_advance_52 rfl (lv_at hl 0 rfl) ?_
  refine lv_aload_n hx hb dX3_advance_53 rfl (lv_at hl 0 rfl) ?_
  refine va_get (D := D) (ci := 3) (v := .int Re_tokenStart) (C := RX3) (T := TX3) (N := 3) hx hb hts i_X3_advance_X3 hown hK hP 0 rfl rfl 1 (by decide) (hts _ m_X3_advance_f35) (fun _ h9 => h9) rfl dX3_advance_54 ?_
  refine va_put (D := D) (ci := 3) (v := .int Re_tokenStart) (ty := .int) (C := RX3) (T := TX3) (N := 3) hx hb hts i_X3_advance_X3 tyX3 tyX3_ok nmX3 hown hK hP hD hS 0 rfl rfl 2 (by decide) (hts _ m_X3_advance_f21) (fun _ h9 => h9) rfl (by decide +kernel) rfl rfl (Nat.le_of_ble_eq_true rfl) dX3_advance_57 (fun H locs hP hD hS => ?_)
  have hP : va_P D vwCl (wX3 cy qRe (qTa 0) Re_tokenStart Re_tokenStart ++ (wX4 cy qTa Ta_bytes Ta_length)) H := hP
  have hD : va_D A (wX3 cy qRe (qTa 0) Re_tokenStart Re_tokenStart ++ (wX4 cy qTa Ta_bytes Ta_length)) := hD
  refine lv_aload_n hx hb dX3_advance_60 rfl (lv_at hl 0 rfl) ?_
  obtain ⟨u6, eu6, hf⟩ := Option.bind_eq_some_iff.mp hf
  refine cq_i (wc' := fun (u : Unit) => (wX3 cy qRe (qTa 0) Re_tokenStart Re_tokenStart ++ (wX4 cy qTa Ta_bytes Ta_length))) (ws' := fun (u : Unit) => (wX3 cy qRe (qTa 0) Re_tokenStart Re_tokenStart ++ (wX4 cy qTa Ta_bytes Ta_length))) (wc := (wX3 cy qRe (qTa 0) Re_tokenStart Re_tokenStart ++ (wX4 cy qTa Ta_bytes Ta_length))) (wr := ([] : va_W)) C0 hP hD hS [0, 1, 2] [] [0, 1, 2] rfl rfl (by decide) (by decide) (by decide) (fun _ => rfl) (va_runV (As := []) (rest := []) ⟨hx, hb, hml, hown, hts⟩ (c_X3_isAtEnd l D cy qRe qTa Re_tokenStart Re_tokenStart Ta_bytes Ta_length H.size  u6 eu6) (cwV 0 hts gX3_advance_X3_isAtEnd rfl rfl rfl (by decide +kernel) ⟨Nat.le_of_ble_eq_true rfl, Nat.le_of_ble_eq_true rfl⟩) (pre_V (hP.sub (ws' := (wX3 cy qRe (qTa 0) Re_tokenStart Re_tokenStart ++ (wX4 cy qTa Ta_bytes Ta_length))) [0, 1, 2] rfl) hK (hD.sub (ws' := (wX3 cy qRe (qTa 0) Re_tokenStart Re_tokenStart ++ (wX4 cy qTa Ta_bytes Ta_length))) [0, 1, 2] (by decide) rfl) hN 3 0 rfl rfl) rfl rfl hl.1 rfl (lv_room (Nat.le_of_ble_eq_true rfl)) dX3_advance_61 ⟨Nat.zero_le _, Nat.zero_le _⟩) (fun r u H locs hw hP hD hS => ?_)
  have hw := hw.symm
  subst hw
  have hP : va_P D vwCl (wX3 cy qRe (qTa 0) Re_tokenStart Re_tokenStart ++ (wX4 cy qTa Ta_bytes Ta_length)) H := hP
  have hD : va_D A (wX3 cy qRe (qTa 0) Re_tokenStart Re_tokenStart ++ (wX4 cy qTa Ta_bytes Ta_length)) := hD
  refine lv_if_eq (tgt := 68) hx hb dX3_advance_64 (by decide) (fun hc7 => ?_) (fun hc7 => ?_)
  · have hf := ift hf hc7
    refine lv_aload_n hx hb dX3_advance_68 rfl (lv_at hl 0 rfl) ?_
    refine va_get (D := D) (ci := 3) (v := .ref (qTa 0)) (C := RX3) (T := TX3) (N := 3) hx hb hts i_X3_advance_X3 hown hK hP 0 rfl rfl 0 (by decide) (hts _ m_X3_advance_f9) (fun _ h9 => h9) rfl dX3_advance_69 ?_
    refine va_getN (D := D) (ci := 4) (v := .ref (qTa 1)) (C := RX4) (T := TX4) (N := 2) hx hb hts i_X3_advance_X4 hown hK hP 1 rfl rfl 0 (by decide) (va_Nw.use rfl (hN _ nw_X3_72)) (fun _ h9 => h9) rfl dX3_advance_72 ?_
    refine lv_aload_n hx hb dX3_advance_75 rfl (lv_at hl 0 rfl) ?_
    refine va_get (D := D) (ci := 3) (v := .int Re_tokenStart) (C := RX3) (T := TX3) (N := 3) hx hb hts i_X3_advance_X3 hown hK hP 0 rfl rfl 1 (by decide) (hts _ m_X3_advance_f35) (fun _ h9 => h9) rfl dX3_advance_76 ?_
    obtain ⟨hz8, hf⟩ := ifn hf
    refine va_iald hx hb hK hP 2 0 rfl rfl (inb_in hz8) dX3_advance_79 ?_
    obtain ⟨u9, eu9, hf⟩ := Option.bind_eq_some_iff.mp hf
    refine cq_i (wc' := fun (u : Unit) => ([] : va_W)) (ws' := fun (u : Unit) => (wX3 cy qRe (qTa 0) Re_tokenStart Re_tokenStart ++ (wX4 cy qTa Ta_bytes Ta_length))) (wc := ([] : va_W)) (wr := (wX3 cy qRe (qTa 0) Re_tokenStart Re_tokenStart ++ (wX4 cy qTa Ta_bytes Ta_length))) C0 hP hD hS [] [0, 1, 2] [0, 1, 2] rfl rfl (by decide) (by decide) (by decide) (fun _ => rfl) (va_runS (As := [.int (Ta_bytes Re_tokenStart.toNatClampNeg)]) (rest := []) ⟨hx, hb, hml, hown, hts⟩ (c_X3_sortOf l D cy   H.size (Ta_bytes Re_tokenStart.toNatClampNeg) u9 eu9) (va_cwS 1 hts gX3_advance_X3_sortOf rfl rfl rfl (by decide +kernel) ⟨Nat.le_of_ble_eq_true rfl, Nat.le_of_ble_eq_true rfl⟩) (pre_S (hP.sub (ws' := ([] : va_W)) [] rfl) hK (hD.sub (ws' := ([] : va_W)) [] (by decide) rfl) hN) rfl rfl hl.1 rfl (lv_room (Nat.le_of_ble_eq_true rfl)) dX3_advance_80 ⟨Nat.zero_le _, Nat.zero_le _⟩) (fun r u H locs hw hP hD hS => ?_)
    have hw := hw.symm
    subst hw
    have hP : va_P D vwCl (wX3 cy qRe (qTa 0) Re_tokenStart Re_tokenStart ++ (wX4 cy qTa Ta_bytes Ta_length)) H := hP
    have hD : va_D A (wX3 cy qRe (qTa 0) Re_tokenStart Re_tokenStart ++ (wX4 cy qTa Ta_bytes Ta_length)) := hD
    refine lv_istore_n (lv' := [(1, .int u9), (0, .ref (qRe 0))]) hx hb dX3_advance_83 rfl hl (by decide) rfl (fun ls hl => ?_)
    refine lv_aload_n hx hb dX3_advance_84 rfl (lv_at hl 1 rfl) ?_
    refine lv_dup hx hb dX3_advance_85 rfl ?_
    refine va_get (D := D) (ci := 3) (v := .int Re_tokenStart) (C := RX3) (T := TX3) (N := 3) hx hb hts i_X3_advance_X3 hown hK hP 0 rfl rfl 2 (by decide) (hts _ m_X3_advance_f21) (fun _ h9 => h9) rfl dX3_advance_86 ?_
    refine lv_iconst (v := (1 : Int32)) hx hb dX3_advance_89 (by decide) ?_
    refine lv_iadd hx hb dX3_advance_90 ?_
    refine va_put (D := D) (ci := 3) (v := .int (Re_tokenStart + (1 : Int32))) (ty := .int) (C := RX3) (T := TX3) (N := 3) hx hb hts i_X3_advance_X3 tyX3 tyX3_ok nmX3 hown hK hP hD hS 0 rfl rfl 2 (by decide) (hts _ m_X3_advance_f21) (fun _ h9 => h9) rfl (by decide +kernel) rfl rfl (Nat.le_of_ble_eq_true rfl) dX3_advance_91 (fun H locs hP hD hS => ?_)
    have hP : va_P D vwCl (wX3 cy qRe (qTa 0) Re_tokenStart (Re_tokenStart + (1 : Int32)) ++ (wX4 cy qTa Ta_bytes Ta_length)) H := hP
    have hD : va_D A (wX3 cy qRe (qTa 0) Re_tokenStart (Re_tokenStart + (1 : Int32)) ++ (wX4 cy qTa Ta_bytes Ta_length)) := hD
    exact w_X3_advance_94 C0  FU Re_tokenStart (Re_tokenStart + (1 : Int32)) u9 hf H locs ls hP hD hS (lv_sub hl [1, 0] rfl)
  · have hf := iff_ hf hc7
    exact rq_v C0 (Re_tokenStart, Re_tokenStart) (Option.some.inj hf) hP hD hS dX3_advance_67

set_option maxHeartbeats 4000000 in
set_option maxRecDepth 100000 in
theorem w_X3_advance_8 {p : Program} {l : Launch} {e : Env} {s : State} {m : MethodId} {args : Array Value} {below : List Frame} {meth : Method} {c : Code} {A : Nat → Prop} {D : va_G} {cy : Nat → ClassId} {qRe qTa : Nat → Nat} {Ta_bytes : Nat → Int32} {Ta_length : Int32} {X : (Int32) × (Int32)}  (C0 : CX cX3_advance 2 none RX3 wsX3_advance D cy p s m args meth c A)  : ∀ (n : Nat) (Re_tokenStart : Int32) (Re_tokenEnd : Int32) , g_X3_advance_8 Ta_bytes Ta_length n Re_tokenStart Re_tokenEnd = some X → ∀ (H : Heap) (locs : List Loc) (ls : Array Slot), va_P D vwCl (wX3 cy qRe (qTa 0) Re_tokenStart Re_tokenEnd ++ (wX4 cy qTa Ta_bytes Ta_length)) H → va_D A (wX3 cy qRe (qTa 0) Re_tokenStart Re_tokenEnd ++ (wX4 cy qTa Ta_bytes Ta_length)) → va_S A s.heap H locs → lv_has ls 2 [(0, .ref (qRe 0))] → W p l e ({ frames := 2, cells := 0, slots := 0, locals := 42 } : Room) s m args below meth c H locs 0 0 (MQ below (va_Qv (fun (u : (Int32) × (Int32)) => u = X) (fun u t => BW D cy A (wX3 cy qRe (qTa 0) u.1 u.2 ++ (wX4 cy qTa Ta_bytes Ta_length)) t) A) args s 0 0 A) (F0 m 8 ls []) := by
  obtain ⟨hx, hb, hr, hml, hown, hts, hK, hA, hN, hlocks⟩ := id C0
  intro n
  induction n with
  | zero => intro Re_tokenStart Re_tokenEnd hf; exact (no_some hf).elim
  | succ n hk8 =>
    intro Re_tokenStart Re_tokenEnd hf H locs ls hP hD hS hl
    have hf : f_X3_advance_8 Ta_bytes Ta_length (fun Re_tokenStart Re_tokenEnd => g_X3_advance_8 Ta_bytes Ta_length n Re_tokenStart Re_tokenEnd) Re_tokenStart Re_tokenEnd = some X := hf
    unfold f_X3_advance_8 at hf
    refine lv_aload_n hx hb dX3_advance_8 rfl (lv_at hl 0 rfl) ?_
    refine va_get (D := D) (ci := 3) (v := .int Re_tokenStart) (C := RX3) (T := TX3) (N := 3) hx hb hts i_X3_advance_X3 hown hK hP 0 rfl rfl 1 (by decide) (hts _ m_X3_advance_f35) (fun _ h9 => h9) rfl dX3_advance_9 ?_
    refine lv_aload_n hx hb dX3_advance_12 rfl (lv_at hl 0 rfl) ?_
    refine va_get (D := D) (ci := 3) (v := .ref (qTa 0)) (C := RX3) (T := TX3) (N := 3) hx hb hts i_X3_advance_X3 hown hK hP 0 rfl rfl 0 (by decide) (hts _ m_X3_advance_f9) (fun _ h9 => h9) rfl dX3_advance_13 ?_
    refine va_getN (D := D) (ci := 4) (v := .int Ta_length) (C := RX4) (T := TX4) (N := 2) hx hb hts i_X3_advance_X4 hown hK hP 1 rfl rfl 1 (by decide) (va_Nw.use rfl (hN _ nw_X3_89)) (fun _ h9 => h9) rfl dX3_advance_16 ?_
    refine lv_icmp_ge (tgt := 52) hx hb dX3_advance_19 (by decide) (fun hc10 => ?_) (fun hc10 => ?_)
    · have hf := ift hf hc10
      exact w_X3_advance_52 C0  Re_tokenStart Re_tokenEnd hf H locs ls hP hD hS (lv_sub hl [0] rfl)
    · have hf := iff_ hf hc10
      refine lv_aload_n hx hb dX3_advance_22 rfl (lv_at hl 0 rfl) ?_
      refine va_get (D := D) (ci := 3) (v := .ref (qTa 0)) (C := RX3) (T := TX3) (N := 3) hx hb hts i_X3_advance_X3 hown hK hP 0 rfl rfl 0 (by decide) (hts _ m_X3_advance_f9) (fun _ h9 => h9) rfl dX3_advance_23 ?_
      refine va_getN (D := D) (ci := 4) (v := .ref (qTa 1)) (C := RX4) (T := TX4) (N := 2) hx hb hts i_X3_advance_X4 hown hK hP 1 rfl rfl 0 (by decide) (va_Nw.use rfl (hN _ nw_X3_72)) (fun _ h9 => h9) rfl dX3_advance_26 ?_
      refine lv_aload_n hx hb dX3_advance_29 rfl (lv_at hl 0 rfl) ?_
      refine va_get (D := D) (ci := 3) (v := .int Re_tokenStart) (C := RX3) (T := TX3) (N := 3) hx hb hts i_X3_advance_X3 hown hK hP 0 rfl rfl 1 (by decide) (hts _ m_X3_advance_f35) (fun _ h9 => h9) rfl dX3_advance_30 ?_
      obtain ⟨hz11, hf⟩ := ifn hf
      refine va_iald hx hb hK hP 2 0 rfl rfl (inb_in hz11) dX3_advance_33 ?_
      refine lv_bipush (v := (32 : Int32)) hx hb dX3_advance_34 (by decide) ?_
      refine lv_icmp_ne (tgt := 52) hx hb dX3_advance_36 (by decide) (fun hc12 => ?_) (fun hc12 => ?_)
      · have hf := iff_ hf hc12
        exact w_X3_advance_52 C0  Re_tokenStart Re_tokenEnd hf H locs ls hP hD hS (lv_sub hl [0] rfl)
      · have hf := ift hf hc12
        refine lv_aload_n hx hb dX3_advance_39 rfl (lv_at hl 0 rfl) ?_
        refine lv_dup hx hb dX3_advance_40 rfl ?_
        refine va_get (D := D) (ci := 3) (v := .int Re_tokenStart) (C := RX3) (T := TX3) (N := 3) hx hb hts i_X3_advance_X3 hown hK hP 0 rfl rfl 1 (by decide) (hts _ m_X3_advance_f35) (fun _ h9 => h9) rfl dX3_advance_41 ?_
        refine lv_iconst (v := (1 : Int32)) hx hb dX3_advance_44 (by decide) ?_
        refine lv_iadd hx hb dX3_advance_45 ?_
        refine va_put (D := D) (ci := 3) (v := .int (Re_tokenStart + (1 : Int32))) (ty := .int) (C := RX3) (T := TX3) (N := 3) hx hb hts i_X3_advance_X3 tyX3 tyX3_ok nmX3 hown hK hP hD hS 0 rfl rfl 1 (by decide) (hts _ m_X3_advance_f35) (fun _ h9 => h9) rfl (by decide +kernel) rfl rfl (Nat.le_of_ble_eq_true rfl) dX3_advance_46 (fun H locs hP hD hS => ?_)
        have hP : va_P D vwCl (wX3 cy qRe (qTa 0) (Re_tokenStart + (1 : Int32)) Re_tokenEnd ++ (wX4 cy qTa Ta_bytes Ta_length)) H := hP
        have hD : va_D A (wX3 cy qRe (qTa 0) (Re_tokenStart + (1 : Int32)) Re_tokenEnd ++ (wX4 cy qTa Ta_bytes Ta_length)) := hD
        refine lv_goto (tgt := 8) hx hb dX3_advance_49 (by decide) ?_
        exact hk8 (Re_tokenStart + (1 : Int32)) Re_tokenEnd hf H locs ls hP hD hS (lv_sub hl [0] rfl)

set_option maxHeartbeats 4000000 in
set_option maxRecDepth 100000 in
theorem c_X3_advance (l : Launch) (D : va_G) (cy : Nat → ClassId) (qRe qTa : Nat → Nat) (Re_tokenStart : Int32) (Re_tokenEnd : Int32) (Ta_bytes : Nat → Int32) (Ta_length : Int32) (sz : Nat)  (X : (Int32) × (Int32)) (hf : f_X3_advance Re_tokenStart Re_tokenEnd Ta_bytes Ta_length = some X) : Met l yX3_advance wsX3_advance ({ frames := 2, cells := 0, slots := 0, locals := 42 } : Room) (va_Pc [.ref (qRe 0)] (PW D cy (wX3 cy qRe (qTa 0) Re_tokenStart Re_tokenEnd ++ (wX4 cy qTa Ta_bytes Ta_length)) sz)) (va_Qv (fun (u : (Int32) × (Int32)) => u = X) (fun u t => BW D cy (va_A (wX3 cy qRe (qTa 0) Re_tokenStart Re_tokenEnd ++ (wX4 cy qTa Ta_bytes Ta_length)) sz) (wX3 cy qRe (qTa 0) u.1 u.2 ++ (wX4 cy qTa Ta_bytes Ta_length)) t) (va_A (wX3 cy qRe (qTa 0) Re_tokenStart Re_tokenEnd ++ (wX4 cy qTa Ta_bytes Ta_length)) sz)) 0 0 (va_A (wX3 cy qRe (qTa 0) Re_tokenStart Re_tokenEnd ++ (wX4 cy qTa Ta_bytes Ta_length)) sz) := by
  refine met_enter (Qc := fun A => (va_Qv (fun (u : (Int32) × (Int32)) => u = X) (fun u t => BW D cy A (wX3 cy qRe (qTa 0) u.1 u.2 ++ (wX4 cy qTa Ta_bytes Ta_length)) t) A)) (lv0 := [(0, .ref (qRe 0))]) (by decide) rfl (Nat.le_of_ble_eq_true rfl) rfl ?_
  intro p e s m below meth c A ls hnm C0 hP hD hS hl
  generalize hH : s.heap = H at hP ⊢
  generalize hLoc : ([] : List Loc) = locs at hS ⊢
  have hS : va_S A s.heap H locs := by rw [← hH]; exact hS
  have C0 : CX cX3_advance 2 none RX3 wsX3_advance D cy p s m _ meth c A := C0
  obtain ⟨hx, hb, hr, hml, hown, hts, hK, hA, hN, hlocks⟩ := id C0
  unfold f_X3_advance at hf
  refine lv_aload_n hx hb dX3_advance_0 rfl (lv_at hl 0 rfl) ?_
  refine lv_aload_n hx hb dX3_advance_1 rfl (lv_at hl 0 rfl) ?_
  refine va_get (D := D) (ci := 3) (v := .int Re_tokenEnd) (C := RX3) (T := TX3) (N := 3) hx hb hts i_X3_advance_X3 hown hK hP 0 rfl rfl 2 (by decide) (hts _ m_X3_advance_f21) (fun _ h9 => h9) rfl dX3_advance_2 ?_
  refine va_put (D := D) (ci := 3) (v := .int Re_tokenEnd) (ty := .int) (C := RX3) (T := TX3) (N := 3) hx hb hts i_X3_advance_X3 tyX3 tyX3_ok nmX3 hown hK hP hD hS 0 rfl rfl 1 (by decide) (hts _ m_X3_advance_f35) (fun _ h9 => h9) rfl (by decide +kernel) rfl rfl (Nat.le_of_ble_eq_true rfl) dX3_advance_5 (fun H locs hP hD hS => ?_)
  have hP : va_P D vwCl (wX3 cy qRe (qTa 0) Re_tokenEnd Re_tokenEnd ++ (wX4 cy qTa Ta_bytes Ta_length)) H := hP
  have hD : va_D A (wX3 cy qRe (qTa 0) Re_tokenEnd Re_tokenEnd ++ (wX4 cy qTa Ta_bytes Ta_length)) := hD
  exact w_X3_advance_8 C0  FU Re_tokenEnd Re_tokenEnd hf H locs ls hP hD hS (lv_sub hl [0] rfl)

theorem i_X3_numberHere_X3 : ∀ w ∈ wsX30, w ∈ wsX3_numberHere := by decide +kernel
theorem m_X3_numberHere_f21 : Cond.fieldLink RX3 21 "SailCargo$Reader" "tokenEnd" "I" ∈ wsX3_numberHere := by decide +kernel
theorem m_X3_numberHere_f9 : Cond.fieldLink RX3 9 "SailCargo$Reader" "tape" "LSailCargo$Tape;" ∈ wsX3_numberHere := by decide +kernel
theorem i_X3_numberHere_X4 : ∀ w ∈ wsX40, w ∈ wsX3_numberHere := by decide +kernel
theorem m_X3_numberHere_f35 : Cond.fieldLink RX3 35 "SailCargo$Reader" "tokenStart" "I" ∈ wsX3_numberHere := by decide +kernel
set_option maxHeartbeats 4000000 in
set_option maxRecDepth 100000 in
theorem w_X3_numberHere_35 {p : Program} {l : Launch} {e : Env} {s : State} {m : MethodId} {args : Array Value} {below : List Frame} {meth : Method} {c : Code} {A : Nat → Prop} {D : va_G} {cy : Nat → ClassId} {qRe qTa : Nat → Nat} {Re_tokenStart Re_tokenEnd : Int32} {Ta_bytes : Nat → Int32} {Ta_length : Int32} {X : Int32}  (C0 : CX cX3_numberHere 3 (some .int) RX3 wsX3_numberHere D cy p s m args meth c A)  : ∀ (n : Nat)  (x1 : Int32) (x2 : Int32), g_X3_numberHere_35 Re_tokenStart Re_tokenEnd Ta_bytes Ta_length n x1 x2 = some X → ∀ (H : Heap) (locs : List Loc) (ls : Array Slot), va_P D vwCl (wX3 cy qRe (qTa 0) Re_tokenStart Re_tokenEnd ++ (wX4 cy qTa Ta_bytes Ta_length)) H → va_D A (wX3 cy qRe (qTa 0) Re_tokenStart Re_tokenEnd ++ (wX4 cy qTa Ta_bytes Ta_length)) → va_S A s.heap H locs → lv_has ls 3 [(0, .ref (qRe 0)), (1, .int x1), (2, .int x2)] → W p l e ({ frames := 2, cells := 0, slots := 0, locals := 42 } : Room) s m args below meth c H locs 0 0 (MQ below (va_Qi (fun (r : Int32) (_ : Unit) => r = X) (fun u t => BW D cy A (wX3 cy qRe (qTa 0) Re_tokenStart Re_tokenEnd ++ (wX4 cy qTa Ta_bytes Ta_length)) t) A) args s 0 0 A) (F0 m 35 ls []) := by
  obtain ⟨hx, hb, hr, hml, hown, hts, hK, hA, hN, hlocks⟩ := id C0
  intro n
  induction n with
  | zero => intro x1 x2 hf; exact (no_some hf).elim
  | succ n hk35 =>
    intro x1 x2 hf H locs ls hP hD hS hl
    have hf : f_X3_numberHere_35 Re_tokenStart Re_tokenEnd Ta_bytes Ta_length (fun x1 x2 => g_X3_numberHere_35 Re_tokenStart Re_tokenEnd Ta_bytes Ta_length n x1 x2) x1 x2 = some X := hf
    unfold f_X3_numberHere_35 at hf
    refine lv_iload_n hx hb dX3_numberHere_35 rfl (lv_at hl 2 rfl) ?_
    refine lv_aload_n hx hb dX3_numberHere_36 rfl (lv_at hl 0 rfl) ?_
    refine va_get (D := D) (ci := 3) (v := .int Re_tokenEnd) (C := RX3) (T := TX3) (N := 3) hx hb hts i_X3_numberHere_X3 hown hK hP 0 rfl rfl 2 (by decide) (hts _ m_X3_numberHere_f21) (fun _ h9 => h9) rfl dX3_numberHere_37 ?_
    refine lv_icmp_ge (tgt := 76) hx hb dX3_numberHere_40 (by decide) (fun hc1 => ?_) (fun hc1 => ?_)
    · have hf := ift hf hc1
      refine lv_iload_n hx hb dX3_numberHere_76 rfl (lv_at hl 1 rfl) ?_
      exact rq_i C0 () (Option.some.inj hf) hP hD hS dX3_numberHere_77
    · have hf := iff_ hf hc1
      refine lv_iload_n hx hb dX3_numberHere_43 rfl (lv_at hl 1 rfl) ?_
      refine lv_bipush (v := (10 : Int32)) hx hb dX3_numberHere_44 (by decide) ?_
      refine lv_imul hx hb dX3_numberHere_46 ?_
      refine lv_aload_n hx hb dX3_numberHere_47 rfl (lv_at hl 0 rfl) ?_
      refine va_get (D := D) (ci := 3) (v := .ref (qTa 0)) (C := RX3) (T := TX3) (N := 3) hx hb hts i_X3_numberHere_X3 hown hK hP 0 rfl rfl 0 (by decide) (hts _ m_X3_numberHere_f9) (fun _ h9 => h9) rfl dX3_numberHere_48 ?_
      refine va_getN (D := D) (ci := 4) (v := .ref (qTa 1)) (C := RX4) (T := TX4) (N := 2) hx hb hts i_X3_numberHere_X4 hown hK hP 1 rfl rfl 0 (by decide) (va_Nw.use rfl (hN _ nw_X3_72)) (fun _ h9 => h9) rfl dX3_numberHere_51 ?_
      refine lv_iload_n hx hb dX3_numberHere_54 rfl (lv_at hl 2 rfl) ?_
      obtain ⟨hz2, hf⟩ := ifn hf
      refine va_iald hx hb hK hP 2 0 rfl rfl (inb_in hz2) dX3_numberHere_55 ?_
      refine lv_iadd hx hb dX3_numberHere_56 ?_
      refine lv_bipush (v := (48 : Int32)) hx hb dX3_numberHere_57 (by decide) ?_
      refine lv_isub hx hb dX3_numberHere_59 ?_
      refine lv_istore_n (lv' := [(1, .int (((x1 * (10 : Int32)) + (Ta_bytes x2.toNatClampNeg)) - (48 : Int32))), (0, .ref (qRe 0)), (2, .int x2)]) hx hb dX3_numberHere_60 rfl hl (by decide) rfl (fun ls hl => ?_)
      refine lv_iload_n hx hb dX3_numberHere_61 rfl (lv_at hl 0 rfl) ?_
      refine lv_sipush (v := (10000 : Int32)) hx hb dX3_numberHere_62 (by decide) ?_
      refine lv_icmp_le (tgt := 70) hx hb dX3_numberHere_65 (by decide) (fun hc3 => ?_) (fun hc3 => ?_)
      · have hf := ift hf hc3
        refine lv_iinc (v := (x2 + 1)) (lv' := [(2, .int (x2 + 1)), (1, .int (((x1 * (10 : Int32)) + (Ta_bytes x2.toNatClampNeg)) - (48 : Int32))), (0, .ref (qRe 0))]) hx hb dX3_numberHere_70 hl (k := 2) rfl rfl (by decide) rfl (fun ls hl => ?_)
        refine lv_goto (tgt := 35) hx hb dX3_numberHere_73 (by decide) ?_
        exact hk35 (((x1 * (10 : Int32)) + (Ta_bytes x2.toNatClampNeg)) - (48 : Int32)) (x2 + 1) hf H locs ls hP hD hS (lv_sub hl [2, 1, 0] rfl)
      · have hf := iff_ hf hc3
        refine lv_iconst (v := (-1 : Int32)) hx hb dX3_numberHere_68 (by decide) ?_
        exact rq_i C0 () (Option.some.inj hf) hP hD hS dX3_numberHere_69

set_option maxHeartbeats 4000000 in
set_option maxRecDepth 100000 in
theorem c_X3_numberHere (l : Launch) (D : va_G) (cy : Nat → ClassId) (qRe qTa : Nat → Nat) (Re_tokenStart : Int32) (Re_tokenEnd : Int32) (Ta_bytes : Nat → Int32) (Ta_length : Int32) (sz : Nat)  (X : Int32) (hf : f_X3_numberHere Re_tokenStart Re_tokenEnd Ta_bytes Ta_length = some X) : Met l yX3_numberHere wsX3_numberHere ({ frames := 2, cells := 0, slots := 0, locals := 42 } : Room) (va_Pc [.ref (qRe 0)] (PW D cy (wX3 cy qRe (qTa 0) Re_tokenStart Re_tokenEnd ++ (wX4 cy qTa Ta_bytes Ta_length)) sz)) (va_Qi (fun (r : Int32) (_ : Unit) => r = X) (fun u t => BW D cy (va_A (wX3 cy qRe (qTa 0) Re_tokenStart Re_tokenEnd ++ (wX4 cy qTa Ta_bytes Ta_length)) sz) (wX3 cy qRe (qTa 0) Re_tokenStart Re_tokenEnd ++ (wX4 cy qTa Ta_bytes Ta_length)) t) (va_A (wX3 cy qRe (qTa 0) Re_tokenStart Re_tokenEnd ++ (wX4 cy qTa Ta_bytes Ta_length)) sz)) 0 0 (va_A (wX3 cy qRe (qTa 0) Re_tokenStart Re_tokenEnd ++ (wX4 cy qTa Ta_bytes Ta_length)) sz) := by
  refine met_enter (Qc := fun A => (va_Qi (fun (r : Int32) (_ : Unit) => r = X) (fun u t => BW D cy A (wX3 cy qRe (qTa 0) Re_tokenStart Re_tokenEnd ++ (wX4 cy qTa Ta_bytes Ta_length)) t) A)) (lv0 := [(0, .ref (qRe 0))]) (by decide) rfl (Nat.le_of_ble_eq_true rfl) rfl ?_
  intro p e s m below meth c A ls hnm C0 hP hD hS hl
  generalize hH : s.heap = H at hP ⊢
  generalize hLoc : ([] : List Loc) = locs at hS ⊢
  have hS : va_S A s.heap H locs := by rw [← hH]; exact hS
  have C0 : CX cX3_numberHere 3 (some .int) RX3 wsX3_numberHere D cy p s m _ meth c A := C0
  obtain ⟨hx, hb, hr, hml, hown, hts, hK, hA, hN, hlocks⟩ := id C0
  unfold f_X3_numberHere at hf
  refine lv_aload_n hx hb dX3_numberHere_0 rfl (lv_at hl 0 rfl) ?_
  obtain ⟨u4, eu4, hf⟩ := Option.bind_eq_some_iff.mp hf
  refine cq_i (wc' := fun (u : Unit) => (wX3 cy qRe (qTa 0) Re_tokenStart Re_tokenEnd ++ (wX4 cy qTa Ta_bytes Ta_length))) (ws' := fun (u : Unit) => (wX3 cy qRe (qTa 0) Re_tokenStart Re_tokenEnd ++ (wX4 cy qTa Ta_bytes Ta_length))) (wc := (wX3 cy qRe (qTa 0) Re_tokenStart Re_tokenEnd ++ (wX4 cy qTa Ta_bytes Ta_length))) (wr := ([] : va_W)) C0 hP hD hS [0, 1, 2] [] [0, 1, 2] rfl rfl (by decide) (by decide) (by decide) (fun _ => rfl) (va_runV (As := []) (rest := []) ⟨hx, hb, hml, hown, hts⟩ (c_X3_isAtEnd l D cy qRe qTa Re_tokenStart Re_tokenEnd Ta_bytes Ta_length H.size  u4 eu4) (cwV 0 hts gX3_numberHere_X3_isAtEnd rfl rfl rfl (by decide +kernel) ⟨Nat.le_of_ble_eq_true rfl, Nat.le_of_ble_eq_true rfl⟩) (pre_V (hP.sub (ws' := (wX3 cy qRe (qTa 0) Re_tokenStart Re_tokenEnd ++ (wX4 cy qTa Ta_bytes Ta_length))) [0, 1, 2] rfl) hK (hD.sub (ws' := (wX3 cy qRe (qTa 0) Re_tokenStart Re_tokenEnd ++ (wX4 cy qTa Ta_bytes Ta_length))) [0, 1, 2] (by decide) rfl) hN 3 0 rfl rfl) rfl rfl hl.1 rfl (lv_room (Nat.le_of_ble_eq_true rfl)) dX3_numberHere_1 ⟨Nat.zero_le _, Nat.zero_le _⟩) (fun r u H locs hw hP hD hS => ?_)
  have hw := hw.symm
  subst hw
  have hP : va_P D vwCl (wX3 cy qRe (qTa 0) Re_tokenStart Re_tokenEnd ++ (wX4 cy qTa Ta_bytes Ta_length)) H := hP
  have hD : va_D A (wX3 cy qRe (qTa 0) Re_tokenStart Re_tokenEnd ++ (wX4 cy qTa Ta_bytes Ta_length)) := hD
  refine lv_if_ne (tgt := 26) hx hb dX3_numberHere_4 (by decide) (fun hc5 => ?_) (fun hc5 => ?_)
  · have hf := iff_ hf hc5
    refine lv_iconst (v := (-1 : Int32)) hx hb dX3_numberHere_26 (by decide) ?_
    exact rq_i C0 () (Option.some.inj hf) hP hD hS dX3_numberHere_27
  · have hf := ift hf hc5
    refine lv_aload_n hx hb dX3_numberHere_7 rfl (lv_at hl 0 rfl) ?_
    refine va_get (D := D) (ci := 3) (v := .ref (qTa 0)) (C := RX3) (T := TX3) (N := 3) hx hb hts i_X3_numberHere_X3 hown hK hP 0 rfl rfl 0 (by decide) (hts _ m_X3_numberHere_f9) (fun _ h9 => h9) rfl dX3_numberHere_8 ?_
    refine va_getN (D := D) (ci := 4) (v := .ref (qTa 1)) (C := RX4) (T := TX4) (N := 2) hx hb hts i_X3_numberHere_X4 hown hK hP 1 rfl rfl 0 (by decide) (va_Nw.use rfl (hN _ nw_X3_72)) (fun _ h9 => h9) rfl dX3_numberHere_11 ?_
    refine lv_aload_n hx hb dX3_numberHere_14 rfl (lv_at hl 0 rfl) ?_
    refine va_get (D := D) (ci := 3) (v := .int Re_tokenStart) (C := RX3) (T := TX3) (N := 3) hx hb hts i_X3_numberHere_X3 hown hK hP 0 rfl rfl 1 (by decide) (hts _ m_X3_numberHere_f35) (fun _ h9 => h9) rfl dX3_numberHere_15 ?_
    obtain ⟨hz6, hf⟩ := ifn hf
    refine va_iald hx hb hK hP 2 0 rfl rfl (inb_in hz6) dX3_numberHere_18 ?_
    obtain ⟨u7, eu7, hf⟩ := Option.bind_eq_some_iff.mp hf
    refine cq_i (wc' := fun (u : Unit) => ([] : va_W)) (ws' := fun (u : Unit) => (wX3 cy qRe (qTa 0) Re_tokenStart Re_tokenEnd ++ (wX4 cy qTa Ta_bytes Ta_length))) (wc := ([] : va_W)) (wr := (wX3 cy qRe (qTa 0) Re_tokenStart Re_tokenEnd ++ (wX4 cy qTa Ta_bytes Ta_length))) C0 hP hD hS [] [0, 1, 2] [0, 1, 2] rfl rfl (by decide) (by decide) (by decide) (fun _ => rfl) (va_runS (As := [.int (Ta_bytes Re_tokenStart.toNatClampNeg)]) (rest := []) ⟨hx, hb, hml, hown, hts⟩ (c_X3_sortOf l D cy   H.size (Ta_bytes Re_tokenStart.toNatClampNeg) u7 eu7) (va_cwS 1 hts gX3_numberHere_X3_sortOf rfl rfl rfl (by decide +kernel) ⟨Nat.le_of_ble_eq_true rfl, Nat.le_of_ble_eq_true rfl⟩) (pre_S (hP.sub (ws' := ([] : va_W)) [] rfl) hK (hD.sub (ws' := ([] : va_W)) [] (by decide) rfl) hN) rfl rfl hl.1 rfl (lv_room (Nat.le_of_ble_eq_true rfl)) dX3_numberHere_19 ⟨Nat.zero_le _, Nat.zero_le _⟩) (fun r u H locs hw hP hD hS => ?_)
    have hw := hw.symm
    subst hw
    have hP : va_P D vwCl (wX3 cy qRe (qTa 0) Re_tokenStart Re_tokenEnd ++ (wX4 cy qTa Ta_bytes Ta_length)) H := hP
    have hD : va_D A (wX3 cy qRe (qTa 0) Re_tokenStart Re_tokenEnd ++ (wX4 cy qTa Ta_bytes Ta_length)) := hD
    refine lv_iconst (v := (2 : Int32)) hx hb dX3_numberHere_22 (by decide) ?_
    refine lv_icmp_eq (tgt := 28) hx hb dX3_numberHere_23 (by decide) (fun hc8 => ?_) (fun hc8 => ?_)
    · have hf := ift hf hc8
      refine lv_iconst (v := (0 : Int32)) hx hb dX3_numberHere_28 (by decide) ?_
      refine lv_istore_n (lv' := [(1, .int (0 : Int32)), (0, .ref (qRe 0))]) hx hb dX3_numberHere_29 rfl hl (by decide) rfl (fun ls hl => ?_)
      refine lv_aload_n hx hb dX3_numberHere_30 rfl (lv_at hl 1 rfl) ?_
      refine va_get (D := D) (ci := 3) (v := .int Re_tokenStart) (C := RX3) (T := TX3) (N := 3) hx hb hts i_X3_numberHere_X3 hown hK hP 0 rfl rfl 1 (by decide) (hts _ m_X3_numberHere_f35) (fun _ h9 => h9) rfl dX3_numberHere_31 ?_
      refine lv_istore_n (lv' := [(2, .int Re_tokenStart), (1, .int (0 : Int32)), (0, .ref (qRe 0))]) hx hb dX3_numberHere_34 rfl hl (by decide) rfl (fun ls hl => ?_)
      exact w_X3_numberHere_35 C0  FU (0 : Int32) Re_tokenStart hf H locs ls hP hD hS (lv_sub hl [2, 1, 0] rfl)
    · have hf := iff_ hf hc8
      refine lv_iconst (v := (-1 : Int32)) hx hb dX3_numberHere_26 (by decide) ?_
      exact rq_i C0 () (Option.some.inj hf) hP hD hS dX3_numberHere_27

theorem i_X5_add_X5 : ∀ w ∈ wsX50, w ∈ wsX5_add := by decide +kernel
theorem m_X5_add_f19 : Cond.fieldLink RX5 19 "SailCargo$Terms" "clauses" "I" ∈ wsX5_add := by decide +kernel
theorem m_X5_add_f9 : Cond.fieldLink RX5 9 "SailCargo$Terms" "kind" "[I" ∈ wsX5_add := by decide +kernel
theorem m_X5_add_f13 : Cond.fieldLink RX5 13 "SailCargo$Terms" "amount" "[I" ∈ wsX5_add := by decide +kernel
theorem m_X5_add_f16 : Cond.fieldLink RX5 16 "SailCargo$Terms" "mark" "[I" ∈ wsX5_add := by decide +kernel
set_option maxHeartbeats 4000000 in
set_option maxRecDepth 100000 in
theorem c_X5_add (l : Launch) (D : va_G) (cy : Nat → ClassId) (qTe : Nat → Nat) (Te_kind : Nat → Int32) (Te_amount : Nat → Int32) (Te_mark : Nat → Int32) (Te_clauses : Int32) (sz : Nat) (x1 : Int32) (x2 : Int32) (x3 : Int32) (X : (Nat → Int32) × (Nat → Int32) × (Nat → Int32) × (Int32)) (hf : f_X5_add Te_kind Te_amount Te_mark Te_clauses x1 x2 x3 = some X) : Met l yX5_add wsX5_add ({ frames := 0, cells := 0, slots := 0, locals := 0 } : Room) (va_Pc [.ref (qTe 0), .int x1, .int x2, .int x3] (PW D cy (wX5 cy qTe Te_kind Te_amount Te_mark Te_clauses) sz)) (va_Qv (fun (u : (Nat → Int32) × (Nat → Int32) × (Nat → Int32) × (Int32)) => u = X) (fun u t => BW D cy (va_A (wX5 cy qTe Te_kind Te_amount Te_mark Te_clauses) sz) (wX5 cy qTe u.1 u.2.1 u.2.2.1 u.2.2.2) t) (va_A (wX5 cy qTe Te_kind Te_amount Te_mark Te_clauses) sz)) 0 0 (va_A (wX5 cy qTe Te_kind Te_amount Te_mark Te_clauses) sz) := by
  refine met_enter (Qc := fun A => (va_Qv (fun (u : (Nat → Int32) × (Nat → Int32) × (Nat → Int32) × (Int32)) => u = X) (fun u t => BW D cy A (wX5 cy qTe u.1 u.2.1 u.2.2.1 u.2.2.2) t) A)) (lv0 := [(0, .ref (qTe 0)), (1, .int x1), (2, .int x2), (3, .int x3)]) (by decide) rfl (Nat.le_of_ble_eq_true rfl) rfl ?_
  intro p e s m below meth c A ls hnm C0 hP hD hS hl
  generalize hH : s.heap = H at hP ⊢
  generalize hLoc : ([] : List Loc) = locs at hS ⊢
  have hS : va_S A s.heap H locs := by rw [← hH]; exact hS
  have C0 : CX cX5_add 4 none RX5 wsX5_add D cy p s m _ meth c A := C0
  obtain ⟨hx, hb, hr, hml, hown, hts, hK, hA, hN, hlocks⟩ := id C0
  unfold f_X5_add at hf
  refine lv_aload_n hx hb dX5_add_0 rfl (lv_at hl 0 rfl) ?_
  refine va_get (D := D) (ci := 5) (v := .int Te_clauses) (C := RX5) (T := TX5) (N := 4) hx hb hts i_X5_add_X5 hown hK hP 0 rfl rfl 3 (by decide) (hts _ m_X5_add_f19) (fun _ h9 => h9) rfl dX5_add_1 ?_
  refine lv_bipush (v := (20 : Int32)) hx hb dX5_add_4 (by decide) ?_
  refine lv_icmp_ge (tgt := 49) hx hb dX5_add_6 (by decide) (fun hc1 => ?_) (fun hc1 => ?_)
  · have hf := ift hf hc1
    exact rq_v C0 (Te_kind, Te_amount, Te_mark, Te_clauses) (Option.some.inj hf) hP hD hS dX5_add_49
  · have hf := iff_ hf hc1
    refine lv_aload_n hx hb dX5_add_9 rfl (lv_at hl 0 rfl) ?_
    refine va_get (D := D) (ci := 5) (v := .ref (qTe 1)) (C := RX5) (T := TX5) (N := 4) hx hb hts i_X5_add_X5 hown hK hP 0 rfl rfl 0 (by decide) (hts _ m_X5_add_f9) (fun _ h9 => h9) rfl dX5_add_10 ?_
    refine lv_aload_n hx hb dX5_add_13 rfl (lv_at hl 0 rfl) ?_
    refine va_get (D := D) (ci := 5) (v := .int Te_clauses) (C := RX5) (T := TX5) (N := 4) hx hb hts i_X5_add_X5 hown hK hP 0 rfl rfl 3 (by decide) (hts _ m_X5_add_f19) (fun _ h9 => h9) rfl dX5_add_14 ?_
    refine lv_iload_n hx hb dX5_add_17 rfl (lv_at hl 1 rfl) ?_
    obtain ⟨hz2, hf⟩ := ifn hf
    refine va_iast hx hb hK hP hD hS 1 0 rfl rfl (inb_in hz2) dX5_add_18 (fun H locs hP hD hS => ?_)
    have hP : va_P D vwCl (wX5 cy qTe (upd Te_kind Te_clauses.toNatClampNeg x1) Te_amount Te_mark Te_clauses) H := hP
    have hD : va_D A (wX5 cy qTe (upd Te_kind Te_clauses.toNatClampNeg x1) Te_amount Te_mark Te_clauses) := hD
    refine lv_aload_n hx hb dX5_add_19 rfl (lv_at hl 0 rfl) ?_
    refine va_get (D := D) (ci := 5) (v := .ref (qTe 2)) (C := RX5) (T := TX5) (N := 4) hx hb hts i_X5_add_X5 hown hK hP 0 rfl rfl 1 (by decide) (hts _ m_X5_add_f13) (fun _ h9 => h9) rfl dX5_add_20 ?_
    refine lv_aload_n hx hb dX5_add_23 rfl (lv_at hl 0 rfl) ?_
    refine va_get (D := D) (ci := 5) (v := .int Te_clauses) (C := RX5) (T := TX5) (N := 4) hx hb hts i_X5_add_X5 hown hK hP 0 rfl rfl 3 (by decide) (hts _ m_X5_add_f19) (fun _ h9 => h9) rfl dX5_add_24 ?_
    refine lv_iload_n hx hb dX5_add_27 rfl (lv_at hl 2 rfl) ?_
    refine va_iast hx hb hK hP hD hS 2 0 rfl rfl (inb_in hz2) dX5_add_28 (fun H locs hP hD hS => ?_)
    have hP : va_P D vwCl (wX5 cy qTe (upd Te_kind Te_clauses.toNatClampNeg x1) (upd Te_amount Te_clauses.toNatClampNeg x2) Te_mark Te_clauses) H := hP
    have hD : va_D A (wX5 cy qTe (upd Te_kind Te_clauses.toNatClampNeg x1) (upd Te_amount Te_clauses.toNatClampNeg x2) Te_mark Te_clauses) := hD
    refine lv_aload_n hx hb dX5_add_29 rfl (lv_at hl 0 rfl) ?_
    refine va_get (D := D) (ci := 5) (v := .ref (qTe 3)) (C := RX5) (T := TX5) (N := 4) hx hb hts i_X5_add_X5 hown hK hP 0 rfl rfl 2 (by decide) (hts _ m_X5_add_f16) (fun _ h9 => h9) rfl dX5_add_30 ?_
    refine lv_aload_n hx hb dX5_add_33 rfl (lv_at hl 0 rfl) ?_
    refine va_get (D := D) (ci := 5) (v := .int Te_clauses) (C := RX5) (T := TX5) (N := 4) hx hb hts i_X5_add_X5 hown hK hP 0 rfl rfl 3 (by decide) (hts _ m_X5_add_f19) (fun _ h9 => h9) rfl dX5_add_34 ?_
    refine lv_iload_n hx hb dX5_add_37 rfl (lv_at hl 3 rfl) ?_
    refine va_iast hx hb hK hP hD hS 3 0 rfl rfl (inb_in hz2) dX5_add_38 (fun H locs hP hD hS => ?_)
    have hP : va_P D vwCl (wX5 cy qTe (upd Te_kind Te_clauses.toNatClampNeg x1) (upd Te_amount Te_clauses.toNatClampNeg x2) (upd Te_mark Te_clauses.toNatClampNeg x3) Te_clauses) H := hP
    have hD : va_D A (wX5 cy qTe (upd Te_kind Te_clauses.toNatClampNeg x1) (upd Te_amount Te_clauses.toNatClampNeg x2) (upd Te_mark Te_clauses.toNatClampNeg x3) Te_clauses) := hD
    refine lv_aload_n hx hb dX5_add_39 rfl (lv_at hl 0 rfl) ?_
    refine lv_dup hx hb dX5_add_40 rfl ?_
    refine va_get (D := D) (ci := 5) (v := .int Te_clauses) (C := RX5) (T := TX5) (N := 4) hx hb hts i_X5_add_X5 hown hK hP 0 rfl rfl 3 (by decide) (hts _ m_X5_add_f19) (fun _ h9 => h9) rfl dX5_add_41 ?_
    refine lv_iconst (v := (1 : Int32)) hx hb dX5_add_44 (by decide) ?_
    refine lv_iadd hx hb dX5_add_45 ?_
    refine va_put (D := D) (ci := 5) (v := .int (Te_clauses + (1 : Int32))) (ty := .int) (C := RX5) (T := TX5) (N := 4) hx hb hts i_X5_add_X5 tyX5 tyX5_ok nmX5 hown hK hP hD hS 0 rfl rfl 3 (by decide) (hts _ m_X5_add_f19) (fun _ h9 => h9) rfl (by decide +kernel) rfl rfl (Nat.le_of_ble_eq_true rfl) dX5_add_46 (fun H locs hP hD hS => ?_)
    have hP : va_P D vwCl (wX5 cy qTe (upd Te_kind Te_clauses.toNatClampNeg x1) (upd Te_amount Te_clauses.toNatClampNeg x2) (upd Te_mark Te_clauses.toNatClampNeg x3) (Te_clauses + (1 : Int32))) H := hP
    have hD : va_D A (wX5 cy qTe (upd Te_kind Te_clauses.toNatClampNeg x1) (upd Te_amount Te_clauses.toNatClampNeg x2) (upd Te_mark Te_clauses.toNatClampNeg x3) (Te_clauses + (1 : Int32))) := hD
    exact rq_v C0 ((upd Te_kind Te_clauses.toNatClampNeg x1), (upd Te_amount Te_clauses.toNatClampNeg x2), (upd Te_mark Te_clauses.toNatClampNeg x3), (Te_clauses + (1 : Int32))) (Option.some.inj hf) hP hD hS dX5_add_49

theorem i_X4_hasRoom_X4 : ∀ w ∈ wsX40, w ∈ wsX4_hasRoom := by decide +kernel
theorem m_X4_hasRoom_f13 : Cond.fieldLink RX4 13 "SailCargo$Tape" "length" "I" ∈ wsX4_hasRoom := by decide +kernel
set_option maxHeartbeats 4000000 in
set_option maxRecDepth 100000 in
theorem c_X4_hasRoom (l : Launch) (D : va_G) (cy : Nat → ClassId) (qTa : Nat → Nat) (Ta_bytes : Nat → Int32) (Ta_length : Int32) (sz : Nat)  (X : Int32) (hf : f_X4_hasRoom Ta_length = some X) : Met l yX4_hasRoom wsX4_hasRoom ({ frames := 0, cells := 0, slots := 0, locals := 0 } : Room) (va_Pc [.ref (qTa 0)] (PW D cy (wX4 cy qTa Ta_bytes Ta_length) sz)) (va_Qi (fun (r : Int32) (_ : Unit) => r = X) (fun u t => BW D cy (va_A (wX4 cy qTa Ta_bytes Ta_length) sz) (wX4 cy qTa Ta_bytes Ta_length) t) (va_A (wX4 cy qTa Ta_bytes Ta_length) sz)) 0 0 (va_A (wX4 cy qTa Ta_bytes Ta_length) sz) := by
  refine met_enter (Qc := fun A => (va_Qi (fun (r : Int32) (_ : Unit) => r = X) (fun u t => BW D cy A (wX4 cy qTa Ta_bytes Ta_length) t) A)) (lv0 := [(0, .ref (qTa 0))]) (by decide) rfl (Nat.le_of_ble_eq_true rfl) rfl ?_
  intro p e s m below meth c A ls hnm C0 hP hD hS hl
  generalize hH : s.heap = H at hP ⊢
  generalize hLoc : ([] : List Loc) = locs at hS ⊢
  have hS : va_S A s.heap H locs := by rw [← hH]; exact hS
  have C0 : CX cX4_hasRoom 1 (some .boolean) RX4 wsX4_hasRoom D cy p s m _ meth c A := C0
  obtain ⟨hx, hb, hr, hml, hown, hts, hK, hA, hN, hlocks⟩ := id C0
  unfold f_X4_hasRoom at hf
  refine lv_aload_n hx hb dX4_hasRoom_0 rfl (lv_at hl 0 rfl) ?_
  refine va_get (D := D) (ci := 4) (v := .int Ta_length) (C := RX4) (T := TX4) (N := 2) hx hb hts i_X4_hasRoom_X4 hown hK hP 0 rfl rfl 1 (by decide) (hts _ m_X4_hasRoom_f13) (fun _ h9 => h9) rfl dX4_hasRoom_1 ?_
  refine lv_bipush (v := (20 : Int32)) hx hb dX4_hasRoom_4 (by decide) ?_
  refine lv_iadd hx hb dX4_hasRoom_6 ?_
  refine lv_sipush (v := (200 : Int32)) hx hb dX4_hasRoom_7 (by decide) ?_
  refine lv_icmp_gt (tgt := 17) hx hb dX4_hasRoom_10 (by decide) (fun hc1 => ?_) (fun hc1 => ?_)
  · have hf := ift hf hc1
    refine lv_iconst (v := (0 : Int32)) hx hb dX4_hasRoom_17 (by decide) ?_
    exact rq_z C0 (by decide) () (Option.some.inj hf) hP hD hS dX4_hasRoom_18
  · have hf := iff_ hf hc1
    refine lv_iconst (v := (1 : Int32)) hx hb dX4_hasRoom_13 (by decide) ?_
    refine lv_goto (tgt := 18) hx hb dX4_hasRoom_14 (by decide) ?_
    exact rq_z C0 (by decide) () (Option.some.inj hf) hP hD hS dX4_hasRoom_18

theorem i_X4_add_X4 : ∀ w ∈ wsX40, w ∈ wsX4_add := by decide +kernel
theorem m_X4_add_f13 : Cond.fieldLink RX4 13 "SailCargo$Tape" "length" "I" ∈ wsX4_add := by decide +kernel
theorem m_X4_add_f9 : Cond.fieldLink RX4 9 "SailCargo$Tape" "bytes" "[I" ∈ wsX4_add := by decide +kernel
set_option maxHeartbeats 4000000 in
set_option maxRecDepth 100000 in
theorem w_X4_add_3 {p : Program} {l : Launch} {e : Env} {s : State} {m : MethodId} {args : Array Value} {below : List Frame} {meth : Method} {c : Code} {A : Nat → Prop} {D : va_G} {cy : Nat → ClassId} {qTa : Nat → Nat}  {X : (Nat → Int32) × (Int32)}  (C0 : CX cX4_add 3 none RX4 wsX4_add D cy p s m args meth c A)  : ∀ (n : Nat) (Ta_bytes : Nat → Int32) (Ta_length : Int32) (x1 : Int32) (x2 : Int32), g_X4_add_3  n Ta_bytes Ta_length x1 x2 = some X → ∀ (H : Heap) (locs : List Loc) (ls : Array Slot), va_P D vwCl (wX4 cy qTa Ta_bytes Ta_length) H → va_D A (wX4 cy qTa Ta_bytes Ta_length) → va_S A s.heap H locs → lv_has ls 3 [(0, .ref (qTa 0)), (1, .int x1), (2, .int x2)] → W p l e ({ frames := 0, cells := 0, slots := 0, locals := 0 } : Room) s m args below meth c H locs 0 0 (MQ below (va_Qv (fun (u : (Nat → Int32) × (Int32)) => u = X) (fun u t => BW D cy A (wX4 cy qTa u.1 u.2) t) A) args s 0 0 A) (F0 m 3 ls []) := by
  obtain ⟨hx, hb, hr, hml, hown, hts, hK, hA, hN, hlocks⟩ := id C0
  intro n
  induction n with
  | zero => intro Ta_bytes Ta_length x1 x2 hf; exact (no_some hf).elim
  | succ n hk3 =>
    intro Ta_bytes Ta_length x1 x2 hf H locs ls hP hD hS hl
    have hf : f_X4_add_3  (fun Ta_bytes Ta_length x1 x2 => g_X4_add_3  n Ta_bytes Ta_length x1 x2) Ta_bytes Ta_length x1 x2 = some X := hf
    unfold f_X4_add_3 at hf
    refine lv_iload_n hx hb dX4_add_3 rfl (lv_at hl 2 rfl) ?_
    refine lv_if_lt (tgt := 49) hx hb dX4_add_4 (by decide) (fun hc1 => ?_) (fun hc1 => ?_)
    · have hf := ift hf hc1
      exact rq_v C0 (Ta_bytes, Ta_length) (Option.some.inj hf) hP hD hS dX4_add_49
    · have hf := iff_ hf hc1
      refine lv_aload_n hx hb dX4_add_7 rfl (lv_at hl 0 rfl) ?_
      refine va_get (D := D) (ci := 4) (v := .int Ta_length) (C := RX4) (T := TX4) (N := 2) hx hb hts i_X4_add_X4 hown hK hP 0 rfl rfl 1 (by decide) (hts _ m_X4_add_f13) (fun _ h9 => h9) rfl dX4_add_8 ?_
      refine lv_sipush (v := (200 : Int32)) hx hb dX4_add_11 (by decide) ?_
      refine lv_icmp_ge (tgt := 49) hx hb dX4_add_14 (by decide) (fun hc2 => ?_) (fun hc2 => ?_)
      · have hf := ift hf hc2
        exact rq_v C0 (Ta_bytes, Ta_length) (Option.some.inj hf) hP hD hS dX4_add_49
      · have hf := iff_ hf hc2
        refine lv_aload_n hx hb dX4_add_17 rfl (lv_at hl 0 rfl) ?_
        refine va_get (D := D) (ci := 4) (v := .ref (qTa 1)) (C := RX4) (T := TX4) (N := 2) hx hb hts i_X4_add_X4 hown hK hP 0 rfl rfl 0 (by decide) (hts _ m_X4_add_f9) (fun _ h9 => h9) rfl dX4_add_18 ?_
        refine lv_aload_n hx hb dX4_add_21 rfl (lv_at hl 0 rfl) ?_
        refine va_get (D := D) (ci := 4) (v := .int Ta_length) (C := RX4) (T := TX4) (N := 2) hx hb hts i_X4_add_X4 hown hK hP 0 rfl rfl 1 (by decide) (hts _ m_X4_add_f13) (fun _ h9 => h9) rfl dX4_add_22 ?_
        refine lv_iload_n hx hb dX4_add_25 rfl (lv_at hl 1 rfl) ?_
        refine lv_iload_n hx hb dX4_add_26 rfl (lv_at hl 2 rfl) ?_
        refine lv_iushr (v := (x1.toUInt32 >>> (x2.toUInt32 &&& Int32.toUInt32 31)).toInt32) hx hb dX4_add_27 rfl ?_
        refine lv_sipush (v := (255 : Int32)) hx hb dX4_add_28 (by decide) ?_
        refine lv_iand hx hb dX4_add_31 ?_
        obtain ⟨hz3, hf⟩ := ifn hf
        refine va_iast hx hb hK hP hD hS 1 0 rfl rfl (inb_in hz3) dX4_add_32 (fun H locs hP hD hS => ?_)
        have hP : va_P D vwCl (wX4 cy qTa (upd Ta_bytes Ta_length.toNatClampNeg ((x1.toUInt32 >>> (x2.toUInt32 &&& Int32.toUInt32 31)).toInt32 &&& (255 : Int32))) Ta_length) H := hP
        have hD : va_D A (wX4 cy qTa (upd Ta_bytes Ta_length.toNatClampNeg ((x1.toUInt32 >>> (x2.toUInt32 &&& Int32.toUInt32 31)).toInt32 &&& (255 : Int32))) Ta_length) := hD
        refine lv_aload_n hx hb dX4_add_33 rfl (lv_at hl 0 rfl) ?_
        refine lv_dup hx hb dX4_add_34 rfl ?_
        refine va_get (D := D) (ci := 4) (v := .int Ta_length) (C := RX4) (T := TX4) (N := 2) hx hb hts i_X4_add_X4 hown hK hP 0 rfl rfl 1 (by decide) (hts _ m_X4_add_f13) (fun _ h9 => h9) rfl dX4_add_35 ?_
        refine lv_iconst (v := (1 : Int32)) hx hb dX4_add_38 (by decide) ?_
        refine lv_iadd hx hb dX4_add_39 ?_
        refine va_put (D := D) (ci := 4) (v := .int (Ta_length + (1 : Int32))) (ty := .int) (C := RX4) (T := TX4) (N := 2) hx hb hts i_X4_add_X4 tyX4 tyX4_ok nmX4 hown hK hP hD hS 0 rfl rfl 1 (by decide) (hts _ m_X4_add_f13) (fun _ h9 => h9) rfl (by decide +kernel) rfl rfl (Nat.le_of_ble_eq_true rfl) dX4_add_40 (fun H locs hP hD hS => ?_)
        have hP : va_P D vwCl (wX4 cy qTa (upd Ta_bytes Ta_length.toNatClampNeg ((x1.toUInt32 >>> (x2.toUInt32 &&& Int32.toUInt32 31)).toInt32 &&& (255 : Int32))) (Ta_length + (1 : Int32))) H := hP
        have hD : va_D A (wX4 cy qTa (upd Ta_bytes Ta_length.toNatClampNeg ((x1.toUInt32 >>> (x2.toUInt32 &&& Int32.toUInt32 31)).toInt32 &&& (255 : Int32))) (Ta_length + (1 : Int32))) := hD
        refine lv_iinc (v := (x2 + (-8))) (lv' := [(2, .int (x2 + (-8))), (0, .ref (qTa 0)), (1, .int x1)]) hx hb dX4_add_43 hl (k := 2) rfl rfl (by decide) rfl (fun ls hl => ?_)
        refine lv_goto (tgt := 3) hx hb dX4_add_46 (by decide) ?_
        exact hk3 (upd Ta_bytes Ta_length.toNatClampNeg ((x1.toUInt32 >>> (x2.toUInt32 &&& Int32.toUInt32 31)).toInt32 &&& (255 : Int32))) (Ta_length + (1 : Int32)) x1 (x2 + (-8)) hf H locs ls hP hD hS (lv_sub hl [1, 2, 0] rfl)

set_option maxHeartbeats 4000000 in
set_option maxRecDepth 100000 in
theorem c_X4_add (l : Launch) (D : va_G) (cy : Nat → ClassId) (qTa : Nat → Nat) (Ta_bytes : Nat → Int32) (Ta_length : Int32) (sz : Nat) (x1 : Int32) (X : (Nat → Int32) × (Int32)) (hf : f_X4_add Ta_bytes Ta_length x1 = some X) : Met l yX4_add wsX4_add ({ frames := 0, cells := 0, slots := 0, locals := 0 } : Room) (va_Pc [.ref (qTa 0), .int x1] (PW D cy (wX4 cy qTa Ta_bytes Ta_length) sz)) (va_Qv (fun (u : (Nat → Int32) × (Int32)) => u = X) (fun u t => BW D cy (va_A (wX4 cy qTa Ta_bytes Ta_length) sz) (wX4 cy qTa u.1 u.2) t) (va_A (wX4 cy qTa Ta_bytes Ta_length) sz)) 0 0 (va_A (wX4 cy qTa Ta_bytes Ta_length) sz) := by
  refine met_enter (Qc := fun A => (va_Qv (fun (u : (Nat → Int32) × (Int32)) => u = X) (fun u t => BW D cy A (wX4 cy qTa u.1 u.2) t) A)) (lv0 := [(0, .ref (qTa 0)), (1, .int x1)]) (by decide) rfl (Nat.le_of_ble_eq_true rfl) rfl ?_
  intro p e s m below meth c A ls hnm C0 hP hD hS hl
  generalize hH : s.heap = H at hP ⊢
  generalize hLoc : ([] : List Loc) = locs at hS ⊢
  have hS : va_S A s.heap H locs := by rw [← hH]; exact hS
  have C0 : CX cX4_add 3 none RX4 wsX4_add D cy p s m _ meth c A := C0
  obtain ⟨hx, hb, hr, hml, hown, hts, hK, hA, hN, hlocks⟩ := id C0
  unfold f_X4_add at hf
  refine lv_bipush (v := (24 : Int32)) hx hb dX4_add_0 (by decide) ?_
  refine lv_istore_n (lv' := [(2, .int (24 : Int32)), (0, .ref (qTa 0)), (1, .int x1)]) hx hb dX4_add_2 rfl hl (by decide) rfl (fun ls hl => ?_)
  exact w_X4_add_3 C0  FU Ta_bytes Ta_length x1 (24 : Int32) hf H locs ls hP hD hS (lv_sub hl [1, 2, 0] rfl)

theorem i_X5_after_X5 : ∀ w ∈ wsX50, w ∈ wsX5_after := by decide +kernel
theorem m_X5_after_f13 : Cond.fieldLink RX5 13 "SailCargo$Terms" "amount" "[I" ∈ wsX5_after := by decide +kernel
theorem m_X5_after_f16 : Cond.fieldLink RX5 16 "SailCargo$Terms" "mark" "[I" ∈ wsX5_after := by decide +kernel
theorem m_X5_after_f9 : Cond.fieldLink RX5 9 "SailCargo$Terms" "kind" "[I" ∈ wsX5_after := by decide +kernel
theorem m_X5_after_m27 : Cond.methodLink RX5 27 Lib.MathLoose.max_long.x ∈ wsX5_after := by decide +kernel
theorem m_X5_after_s27 : Cond.static Lib.MathLoose.max_long.x ∈ wsX5_after := by decide +kernel
theorem m_X5_after_iMath : Cond.initialized "java/lang/Math" ∈ wsX5_after := by decide +kernel
theorem m_X5_after_k27 : Cond.code Lib.MathLoose.max_long.x Lib.MathLoose.max_long.code 4 (some .long) ∈ wsX5_after := by decide +kernel
theorem m_X5_after_m33 : Cond.methodLink RX5 33 Lib.MathLoose.min_long.x ∈ wsX5_after := by decide +kernel
theorem m_X5_after_s33 : Cond.static Lib.MathLoose.min_long.x ∈ wsX5_after := by decide +kernel
theorem m_X5_after_k33 : Cond.code Lib.MathLoose.min_long.x Lib.MathLoose.min_long.code 4 (some .long) ∈ wsX5_after := by decide +kernel
set_option maxHeartbeats 4000000 in
set_option maxRecDepth 100000 in
theorem c_X5_after (l : Launch) (D : va_G) (cy : Nat → ClassId) (qTe : Nat → Nat) (Te_kind : Nat → Int32) (Te_amount : Nat → Int32) (Te_mark : Nat → Int32) (Te_clauses : Int32) (sz : Nat) (x1 : Int32) (x2 : Int64) (x4 : Int32) (x5 : Int32) (x6 : Int32) (X : Int64) (hf : f_X5_after Te_kind Te_amount Te_mark x1 x2 x4 x5 x6 = some X) : Met l yX5_after wsX5_after ({ frames := 1, cells := 0, slots := 0, locals := 23 } : Room) (va_Pc [.ref (qTe 0), .int x1, .long x2, .int x4, .int x5, .int x6] (PW D cy (wX5 cy qTe Te_kind Te_amount Te_mark Te_clauses) sz)) (va_Ql (fun (r : Int64) (_ : Unit) => r = X) (fun u t => BW D cy (va_A (wX5 cy qTe Te_kind Te_amount Te_mark Te_clauses) sz) (wX5 cy qTe Te_kind Te_amount Te_mark Te_clauses) t) (va_A (wX5 cy qTe Te_kind Te_amount Te_mark Te_clauses) sz)) 0 0 (va_A (wX5 cy qTe Te_kind Te_amount Te_mark Te_clauses) sz) := by
  refine met_enter (Qc := fun A => (va_Ql (fun (r : Int64) (_ : Unit) => r = X) (fun u t => BW D cy A (wX5 cy qTe Te_kind Te_amount Te_mark Te_clauses) t) A)) (lv0 := [(0, .ref (qTe 0)), (1, .int x1), (2, .long x2), (4, .int x4), (5, .int x5), (6, .int x6)]) (by decide) rfl (Nat.le_of_ble_eq_true rfl) rfl ?_
  intro p e s m below meth c A ls hnm C0 hP hD hS hl
  generalize hH : s.heap = H at hP ⊢
  generalize hLoc : ([] : List Loc) = locs at hS ⊢
  have hS : va_S A s.heap H locs := by rw [← hH]; exact hS
  have C0 : CX cX5_after 11 (some .long) RX5 wsX5_after D cy p s m _ meth c A := C0
  obtain ⟨hx, hb, hr, hml, hown, hts, hK, hA, hN, hlocks⟩ := id C0
  unfold f_X5_after at hf
  refine lv_aload_n hx hb dX5_after_0 rfl (lv_at hl 0 rfl) ?_
  refine va_get (D := D) (ci := 5) (v := .ref (qTe 2)) (C := RX5) (T := TX5) (N := 4) hx hb hts i_X5_after_X5 hown hK hP 0 rfl rfl 1 (by decide) (hts _ m_X5_after_f13) (fun _ h9 => h9) rfl dX5_after_1 ?_
  refine lv_iload_n hx hb dX5_after_4 rfl (lv_at hl 1 rfl) ?_
  obtain ⟨hz1, hf⟩ := ifn hf
  refine va_iald hx hb hK hP 2 0 rfl rfl (inb_in hz1) dX5_after_5 ?_
  refine lv_i2l (v := (Te_amount x1.toNatClampNeg).toInt64) hx hb dX5_after_6 rfl ?_
  refine lv_lstore (lv' := [(7, .long (Te_amount x1.toNatClampNeg).toInt64), (0, .ref (qTe 0)), (1, .int x1), (2, .long x2), (4, .int x4), (5, .int x5), (6, .int x6)]) hx hb dX5_after_7 hl (by decide) rfl (fun ls hl => ?_)
  refine lv_aload_n hx hb dX5_after_9 rfl (lv_at hl 1 rfl) ?_
  refine va_get (D := D) (ci := 5) (v := .ref (qTe 3)) (C := RX5) (T := TX5) (N := 4) hx hb hts i_X5_after_X5 hown hK hP 0 rfl rfl 2 (by decide) (hts _ m_X5_after_f16) (fun _ h9 => h9) rfl dX5_after_10 ?_
  refine lv_iload_n hx hb dX5_after_13 rfl (lv_at hl 2 rfl) ?_
  refine va_iald hx hb hK hP 3 0 rfl rfl (inb_in hz1) dX5_after_14 ?_
  refine lv_i2l (v := (Te_mark x1.toNatClampNeg).toInt64) hx hb dX5_after_15 rfl ?_
  refine lv_lstore (lv' := [(9, .long (Te_mark x1.toNatClampNeg).toInt64), (7, .long (Te_amount x1.toNatClampNeg).toInt64), (0, .ref (qTe 0)), (1, .int x1), (2, .long x2), (4, .int x4), (5, .int x5), (6, .int x6)]) hx hb dX5_after_16 hl (by decide) rfl (fun ls hl => ?_)
  refine lv_aload_n hx hb dX5_after_18 rfl (lv_at hl 2 rfl) ?_
  refine va_get (D := D) (ci := 5) (v := .ref (qTe 1)) (C := RX5) (T := TX5) (N := 4) hx hb hts i_X5_after_X5 hown hK hP 0 rfl rfl 0 (by decide) (hts _ m_X5_after_f9) (fun _ h9 => h9) rfl dX5_after_19 ?_
  refine lv_iload_n hx hb dX5_after_22 rfl (lv_at hl 3 rfl) ?_
  refine va_iald hx hb hK hP 1 0 rfl rfl (inb_in hz1) dX5_after_23 ?_
  by_cases hc2 : (Te_kind x1.toNatClampNeg) = (0 : Int32)
  · have hf := ift hf hc2
    refine lv_tableIn (off := 44) (tgt := 68) hx hb dX5_after_24 (by rw [hc2]; decide) (by rw [hc2]; decide) (by rw [hc2]; decide) (by decide) ?_
    refine lv_lload_n hx hb dX5_after_68 rfl (lv_at hl 4 rfl) ?_
    refine lv_lload hx hb dX5_after_69 (lv_at hl 1 rfl) ?_
    refine lv_ladd hx hb dX5_after_71 ?_
    exact rq_l C0 () (Option.some.inj hf) hP hD hS dX5_after_72
  · have hf := iff_ hf hc2
    by_cases hc3 : (Te_kind x1.toNatClampNeg) = (1 : Int32)
    · have hf := ift hf hc3
      refine lv_tableIn (off := 49) (tgt := 73) hx hb dX5_after_24 (by rw [hc3]; decide) (by rw [hc3]; decide) (by rw [hc3]; decide) (by decide) ?_
      refine lv_lload_n hx hb dX5_after_73 rfl (lv_at hl 4 rfl) ?_
      refine lv_lload hx hb dX5_after_74 (lv_at hl 1 rfl) ?_
      refine lv_iload hx hb dX5_after_76 (lv_at hl 5 rfl) ?_
      refine lv_i2l (v := x4.toInt64) hx hb dX5_after_78 rfl ?_
      refine lv_lmul hx hb dX5_after_79 ?_
      refine lv_ladd hx hb dX5_after_80 ?_
      exact rq_l C0 () (Option.some.inj hf) hP hD hS dX5_after_81
    · have hf := iff_ hf hc3
      by_cases hc4 : (Te_kind x1.toNatClampNeg) = (2 : Int32)
      · have hf := ift hf hc4
        refine lv_tableIn (off := 58) (tgt := 82) hx hb dX5_after_24 (by rw [hc4]; decide) (by rw [hc4]; decide) (by rw [hc4]; decide) (by decide) ?_
        refine lv_lload_n hx hb dX5_after_82 rfl (lv_at hl 4 rfl) ?_
        refine lv_lload hx hb dX5_after_83 (lv_at hl 1 rfl) ?_
        refine lv_lconst (v := (0 : Int64)) hx hb dX5_after_85 (by decide) ?_
        refine lv_iload hx hb dX5_after_86 (lv_at hl 6 rfl) ?_
        refine lv_i2l (v := x5.toInt64) hx hb dX5_after_88 rfl ?_
        refine lv_lload hx hb dX5_after_89 (lv_at hl 0 rfl) ?_
        refine lv_lsub hx hb dX5_after_91 ?_
        refine va_mmax_long hx hb (by rw [hml]; exact hl.1.symm) hown (hts _ m_X5_after_m27) (hts _ m_X5_after_s27) (hts _ m_X5_after_iMath) (hts _ m_X5_after_k27) (Nat.le_of_ble_eq_true rfl) (Nat.le_of_ble_eq_true rfl) (Nat.zero_le _) (Nat.zero_le _) dX5_after_92 ?_
        refine lv_lmul hx hb dX5_after_95 ?_
        refine lv_lsub hx hb dX5_after_96 ?_
        exact rq_l C0 () (Option.some.inj hf) hP hD hS dX5_after_97
      · have hf := iff_ hf hc4
        by_cases hc5 : (Te_kind x1.toNatClampNeg) = (3 : Int32)
        · have hf := ift hf hc5
          refine lv_tableIn (off := 74) (tgt := 98) hx hb dX5_after_24 (by rw [hc5]; decide) (by rw [hc5]; decide) (by rw [hc5]; decide) (by decide) ?_
          refine lv_lload_n hx hb dX5_after_98 rfl (lv_at hl 4 rfl) ?_
          refine lv_lload hx hb dX5_after_99 (lv_at hl 1 rfl) ?_
          refine lv_lconst (v := (0 : Int64)) hx hb dX5_after_101 (by decide) ?_
          refine lv_lload hx hb dX5_after_102 (lv_at hl 0 rfl) ?_
          refine lv_iload hx hb dX5_after_104 (lv_at hl 6 rfl) ?_
          refine lv_i2l (v := x5.toInt64) hx hb dX5_after_106 rfl ?_
          refine lv_lsub hx hb dX5_after_107 ?_
          refine va_mmax_long hx hb (by rw [hml]; exact hl.1.symm) hown (hts _ m_X5_after_m27) (hts _ m_X5_after_s27) (hts _ m_X5_after_iMath) (hts _ m_X5_after_k27) (Nat.le_of_ble_eq_true rfl) (Nat.le_of_ble_eq_true rfl) (Nat.zero_le _) (Nat.zero_le _) dX5_after_108 ?_
          refine lv_lmul hx hb dX5_after_111 ?_
          refine lv_ladd hx hb dX5_after_112 ?_
          exact rq_l C0 () (Option.some.inj hf) hP hD hS dX5_after_113
        · have hf := iff_ hf hc5
          by_cases hc6 : (Te_kind x1.toNatClampNeg) = (4 : Int32)
          · have hf := ift hf hc6
            refine lv_tableIn (off := 90) (tgt := 114) hx hb dX5_after_24 (by rw [hc6]; decide) (by rw [hc6]; decide) (by rw [hc6]; decide) (by decide) ?_
            refine lv_iload hx hb dX5_after_114 (lv_at hl 7 rfl) ?_
            refine lv_i2l (v := x6.toInt64) hx hb dX5_after_116 rfl ?_
            refine lv_lload hx hb dX5_after_117 (lv_at hl 0 rfl) ?_
            refine lv_iload hx hb dX5_after_119 (lv_at hl 5 rfl) ?_
            refine lv_i2l (v := x4.toInt64) hx hb dX5_after_121 rfl ?_
            refine lv_lmul hx hb dX5_after_122 ?_
            refine W.lcmp hx hb dX5_after_123 ?_
            refine lv_if_ge (tgt := 134) hx hb dX5_after_124 (by decide) (fun hc7 => ?_) (fun hc7 => ?_)
            · have hc7 := lc_ge.mp hc7
              have hf := ift hf hc7
              refine lv_lload_n hx hb dX5_after_134 rfl (lv_at hl 4 rfl) ?_
              exact rq_l C0 () (Option.some.inj hf) hP hD hS dX5_after_135
            · have hc7 : ¬ ((Te_mark x1.toNatClampNeg).toInt64 * x4.toInt64) ≤ x6.toInt64 := fun h9 => hc7 (lc_ge.mpr h9)
              have hf := iff_ hf hc7
              refine lv_lload_n hx hb dX5_after_127 rfl (lv_at hl 4 rfl) ?_
              refine lv_lload hx hb dX5_after_128 (lv_at hl 1 rfl) ?_
              refine lv_ladd hx hb dX5_after_130 ?_
              refine lv_goto (tgt := 135) hx hb dX5_after_131 (by decide) ?_
              exact rq_l C0 () (Option.some.inj hf) hP hD hS dX5_after_135
          · have hf := iff_ hf hc6
            by_cases hc8 : (Te_kind x1.toNatClampNeg) = (5 : Int32)
            · have hf := ift hf hc8
              refine lv_tableIn (off := 112) (tgt := 136) hx hb dX5_after_24 (by rw [hc8]; decide) (by rw [hc8]; decide) (by rw [hc8]; decide) (by decide) ?_
              refine lv_lload_n hx hb dX5_after_136 rfl (lv_at hl 4 rfl) ?_
              refine lv_lload hx hb dX5_after_137 (lv_at hl 1 rfl) ?_
              refine va_mmin_long hx hb (by rw [hml]; exact hl.1.symm) hown (hts _ m_X5_after_m33) (hts _ m_X5_after_s33) (hts _ m_X5_after_iMath) (hts _ m_X5_after_k33) (Nat.le_of_ble_eq_true rfl) (Nat.le_of_ble_eq_true rfl) (Nat.zero_le _) (Nat.zero_le _) dX5_after_139 ?_
              exact rq_l C0 () (Option.some.inj hf) hP hD hS dX5_after_142
            · have hf := iff_ hf hc8
              by_cases hc9 : (Te_kind x1.toNatClampNeg) = (6 : Int32)
              · have hf := ift hf hc9
                refine lv_tableIn (off := 119) (tgt := 143) hx hb dX5_after_24 (by rw [hc9]; decide) (by rw [hc9]; decide) (by rw [hc9]; decide) (by decide) ?_
                refine lv_lload_n hx hb dX5_after_143 rfl (lv_at hl 4 rfl) ?_
                refine lv_lload hx hb dX5_after_144 (lv_at hl 1 rfl) ?_
                refine va_mmax_long hx hb (by rw [hml]; exact hl.1.symm) hown (hts _ m_X5_after_m27) (hts _ m_X5_after_s27) (hts _ m_X5_after_iMath) (hts _ m_X5_after_k27) (Nat.le_of_ble_eq_true rfl) (Nat.le_of_ble_eq_true rfl) (Nat.zero_le _) (Nat.zero_le _) dX5_after_146 ?_
                exact rq_l C0 () (Option.some.inj hf) hP hD hS dX5_after_149
              · have hf := iff_ hf hc9
                refine lv_tableOut (tgt := 150) hx hb dX5_after_24 (by have n0 := lv_neT hc2 (a := 0) (by decide); have n1 := lv_neT hc3 (a := 1) (by decide); have n2 := lv_neT hc4 (a := 2) (by decide); have n3 := lv_neT hc5 (a := 3) (by decide); have n4 := lv_neT hc6 (a := 4) (by decide); have n5 := lv_neT hc8 (a := 5) (by decide); have n6 := lv_neT hc9 (a := 6) (by decide); omega) (by decide) ?_
                refine lv_lload_n hx hb dX5_after_150 rfl (lv_at hl 4 rfl) ?_
                exact rq_l C0 () (Option.some.inj hf) hP hD hS dX5_after_151

theorem i_X5_sum_X5 : ∀ w ∈ wsX50, w ∈ wsX5_sum := by decide +kernel
theorem m_X5_sum_f19 : Cond.fieldLink RX5 19 "SailCargo$Terms" "clauses" "I" ∈ wsX5_sum := by decide +kernel
set_option maxHeartbeats 4000000 in
set_option maxRecDepth 100000 in
theorem w_X5_sum_6 {p : Program} {l : Launch} {e : Env} {s : State} {m : MethodId} {args : Array Value} {below : List Frame} {meth : Method} {c : Code} {A : Nat → Prop} {D : va_G} {cy : Nat → ClassId} {qTe : Nat → Nat} {Te_kind Te_amount Te_mark : Nat → Int32} {Te_clauses : Int32} {X : Int64}  (C0 : CX cX5_sum 7 (some .long) RX5 wsX5_sum D cy p s m args meth c A)  : ∀ (n : Nat)  (x1 : Int32) (x2 : Int32) (x3 : Int32) (x4 : Int64) (x6 : Int32), g_X5_sum_6 Te_kind Te_amount Te_mark Te_clauses n x1 x2 x3 x4 x6 = some X → ∀ (H : Heap) (locs : List Loc) (ls : Array Slot), va_P D vwCl (wX5 cy qTe Te_kind Te_amount Te_mark Te_clauses) H → va_D A (wX5 cy qTe Te_kind Te_amount Te_mark Te_clauses) → va_S A s.heap H locs → lv_has ls 7 [(0, .ref (qTe 0)), (1, .int x1), (2, .int x2), (3, .int x3), (4, .long x4), (6, .int x6)] → W p l e ({ frames := 2, cells := 0, slots := 0, locals := 53 } : Room) s m args below meth c H locs 0 0 (MQ below (va_Ql (fun (r : Int64) (_ : Unit) => r = X) (fun u t => BW D cy A (wX5 cy qTe Te_kind Te_amount Te_mark Te_clauses) t) A) args s 0 0 A) (F0 m 6 ls []) := by
  obtain ⟨hx, hb, hr, hml, hown, hts, hK, hA, hN, hlocks⟩ := id C0
  intro n
  induction n with
  | zero => intro x1 x2 x3 x4 x6 hf; exact (no_some hf).elim
  | succ n hk6 =>
    intro x1 x2 x3 x4 x6 hf H locs ls hP hD hS hl
    have hf : f_X5_sum_6 Te_kind Te_amount Te_mark Te_clauses (fun x1 x2 x3 x4 x6 => g_X5_sum_6 Te_kind Te_amount Te_mark Te_clauses n x1 x2 x3 x4 x6) x1 x2 x3 x4 x6 = some X := hf
    unfold f_X5_sum_6 at hf
    refine lv_iload hx hb dX5_sum_6 (lv_at hl 5 rfl) ?_
    refine lv_aload_n hx hb dX5_sum_8 rfl (lv_at hl 0 rfl) ?_
    refine va_get (D := D) (ci := 5) (v := .int Te_clauses) (C := RX5) (T := TX5) (N := 4) hx hb hts i_X5_sum_X5 hown hK hP 0 rfl rfl 3 (by decide) (hts _ m_X5_sum_f19) (fun _ h9 => h9) rfl dX5_sum_9 ?_
    refine lv_icmp_ge (tgt := 34) hx hb dX5_sum_12 (by decide) (fun hc1 => ?_) (fun hc1 => ?_)
    · have hf := ift hf hc1
      refine lv_lload hx hb dX5_sum_34 (lv_at hl 4 rfl) ?_
      exact rq_l C0 () (Option.some.inj hf) hP hD hS dX5_sum_36
    · have hf := iff_ hf hc1
      refine lv_aload_n hx hb dX5_sum_15 rfl (lv_at hl 0 rfl) ?_
      refine lv_iload hx hb dX5_sum_16 (lv_at hl 5 rfl) ?_
      refine lv_lload hx hb dX5_sum_18 (lv_at hl 4 rfl) ?_
      refine lv_iload_n hx hb dX5_sum_20 rfl (lv_at hl 1 rfl) ?_
      refine lv_iload_n hx hb dX5_sum_21 rfl (lv_at hl 2 rfl) ?_
      refine lv_iload_n hx hb dX5_sum_22 rfl (lv_at hl 3 rfl) ?_
      obtain ⟨u2, eu2, hf⟩ := Option.bind_eq_some_iff.mp hf
      refine cq_l (wc' := fun (u : Unit) => (wX5 cy qTe Te_kind Te_amount Te_mark Te_clauses)) (ws' := fun (u : Unit) => (wX5 cy qTe Te_kind Te_amount Te_mark Te_clauses)) (wc := (wX5 cy qTe Te_kind Te_amount Te_mark Te_clauses)) (wr := ([] : va_W)) C0 hP hD hS [0, 1, 2, 3] [] [0, 1, 2, 3] rfl rfl (by decide) (by decide) (by decide) (fun _ => rfl) (va_runV (As := [.int x6, .long x4, .int x1, .int x2, .int x3]) (rest := []) ⟨hx, hb, hml, hown, hts⟩ (c_X5_after l D cy qTe Te_kind Te_amount Te_mark Te_clauses H.size x6 x4 x1 x2 x3 u2 eu2) (cwV 5 hts gX5_sum_X5_after rfl rfl rfl (by decide +kernel) ⟨Nat.le_of_ble_eq_true rfl, Nat.le_of_ble_eq_true rfl⟩) (pre_V (hP.sub (ws' := (wX5 cy qTe Te_kind Te_amount Te_mark Te_clauses)) [0, 1, 2, 3] rfl) hK (hD.sub (ws' := (wX5 cy qTe Te_kind Te_amount Te_mark Te_clauses)) [0, 1, 2, 3] (by decide) rfl) hN 5 0 rfl rfl) rfl rfl hl.1 rfl (lv_room (Nat.le_of_ble_eq_true rfl)) dX5_sum_23 ⟨Nat.zero_le _, Nat.zero_le _⟩) (fun r u H locs hw hP hD hS => ?_)
      have hw := hw.symm
      subst hw
      have hP : va_P D vwCl (wX5 cy qTe Te_kind Te_amount Te_mark Te_clauses) H := hP
      have hD : va_D A (wX5 cy qTe Te_kind Te_amount Te_mark Te_clauses) := hD
      refine lv_lstore (lv' := [(4, .long u2), (0, .ref (qTe 0)), (1, .int x1), (2, .int x2), (3, .int x3), (6, .int x6)]) hx hb dX5_sum_26 hl (by decide) rfl (fun ls hl => ?_)
      refine lv_iinc (v := (x6 + 1)) (lv' := [(6, .int (x6 + 1)), (4, .long u2), (0, .ref (qTe 0)), (1, .int x1), (2, .int x2), (3, .int x3)]) hx hb dX5_sum_28 hl (k := 5) rfl rfl (by decide) rfl (fun ls hl => ?_)
      refine lv_goto (tgt := 6) hx hb dX5_sum_31 (by decide) ?_
      exact hk6 x1 x2 x3 u2 (x6 + 1) hf H locs ls hP hD hS (lv_sub hl [2, 3, 4, 5, 1, 0] rfl)

set_option maxHeartbeats 4000000 in
set_option maxRecDepth 100000 in
theorem c_X5_sum (l : Launch) (D : va_G) (cy : Nat → ClassId) (qTe : Nat → Nat) (Te_kind : Nat → Int32) (Te_amount : Nat → Int32) (Te_mark : Nat → Int32) (Te_clauses : Int32) (sz : Nat) (x1 : Int32) (x2 : Int32) (x3 : Int32) (X : Int64) (hf : f_X5_sum Te_kind Te_amount Te_mark Te_clauses x1 x2 x3 = some X) : Met l yX5_sum wsX5_sum ({ frames := 2, cells := 0, slots := 0, locals := 53 } : Room) (va_Pc [.ref (qTe 0), .int x1, .int x2, .int x3] (PW D cy (wX5 cy qTe Te_kind Te_amount Te_mark Te_clauses) sz)) (va_Ql (fun (r : Int64) (_ : Unit) => r = X) (fun u t => BW D cy (va_A (wX5 cy qTe Te_kind Te_amount Te_mark Te_clauses) sz) (wX5 cy qTe Te_kind Te_amount Te_mark Te_clauses) t) (va_A (wX5 cy qTe Te_kind Te_amount Te_mark Te_clauses) sz)) 0 0 (va_A (wX5 cy qTe Te_kind Te_amount Te_mark Te_clauses) sz) := by
  refine met_enter (Qc := fun A => (va_Ql (fun (r : Int64) (_ : Unit) => r = X) (fun u t => BW D cy A (wX5 cy qTe Te_kind Te_amount Te_mark Te_clauses) t) A)) (lv0 := [(0, .ref (qTe 0)), (1, .int x1), (2, .int x2), (3, .int x3)]) (by decide) rfl (Nat.le_of_ble_eq_true rfl) rfl ?_
  intro p e s m below meth c A ls hnm C0 hP hD hS hl
  generalize hH : s.heap = H at hP ⊢
  generalize hLoc : ([] : List Loc) = locs at hS ⊢
  have hS : va_S A s.heap H locs := by rw [← hH]; exact hS
  have C0 : CX cX5_sum 7 (some .long) RX5 wsX5_sum D cy p s m _ meth c A := C0
  obtain ⟨hx, hb, hr, hml, hown, hts, hK, hA, hN, hlocks⟩ := id C0
  unfold f_X5_sum at hf
  refine lv_lconst (v := (0 : Int64)) hx hb dX5_sum_0 (by decide) ?_
  refine lv_lstore (lv' := [(4, .long (0 : Int64)), (0, .ref (qTe 0)), (1, .int x1), (2, .int x2), (3, .int x3)]) hx hb dX5_sum_1 hl (by decide) rfl (fun ls hl => ?_)
  refine lv_iconst (v := (0 : Int32)) hx hb dX5_sum_3 (by decide) ?_
  refine lv_istore (lv' := [(6, .int (0 : Int32)), (4, .long (0 : Int64)), (0, .ref (qTe 0)), (1, .int x1), (2, .int x2), (3, .int x3)]) hx hb dX5_sum_4 hl (by decide) rfl (fun ls hl => ?_)
  exact w_X5_sum_6 C0  FU x1 x2 x3 (0 : Int64) (0 : Int32) hf H locs ls hP hD hS (lv_sub hl [2, 3, 4, 5, 1, 0] rfl)

