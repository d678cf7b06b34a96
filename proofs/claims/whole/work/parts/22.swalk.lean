set_option maxHeartbeats 4000000 in
set_option maxRecDepth 100000 in
theorem c_X5_firstWord (l : Launch) (adK adV : Nat → Nat) (D : va_G) (cy : Nat → ClassId)   (sz : Nat) (x0 : Int32) (X : Nat) (hf : f_X5_firstWord x0 = some X) : Met l yX5_firstWord wsX5_firstWord ({ frames := 0, cells := 0, slots := 0, locals := 0 } : Room) (va_Pc [.int x0] (PWS adK adV D cy ([] : va_W) sz)) (va_Qr (fun (u : Nat) => u = X) (fun (u : Nat) (ra : Nat) (t : State) => ra = adK u) (va_A ([] : va_W) sz)) 0 0 (va_A ([] : va_W) sz) := by
  refine met_enterS (Qc := fun A => (va_Qr (fun (u : Nat) => u = X) (fun (u : Nat) (ra : Nat) (t : State) => ra = adK u) A)) (lv0 := [(0, .int x0)]) (by decide) rfl (Nat.le_of_ble_eq_true rfl) rfl ?_
  intro p e s m below meth c A ls hSW C0 hP hD hS hl
  generalize hH : s.heap = H at hP ⊢
  generalize hLoc : ([] : List Loc) = locs at hS ⊢
  have hS : va_S A s.heap H locs := by rw [← hH]; exact hS
  have C0 : CX cX5_firstWord 1 (some (.object "java/lang/String")) RX5 wsX5_firstWord D cy p s m _ meth c A := C0
  obtain ⟨hx, hb, hr, hml, hown, hts, hK, hA, hN, hlocks⟩ := id C0
  unfold f_X5_firstWord at hf
  refine lv_iload_n hx hb dX5_firstWord_0 rfl (lv_at hl 0 rfl) ?_
  by_cases hc1 : x0 = (0 : Int32)
  · have hf := ift hf hc1
    refine lv_tableIn (off := 43) (tgt := 44) hx hb dX5_firstWord_1 (by rw [hc1]; decide) (by rw [hc1]; decide) (by rw [hc1]; decide) (by decide) ?_
    refine va_ldcS hx hb hown (hSW.2.1 0 (RX5, 36, "pay") rfl) dX5_firstWord_44 ?_
    exact rq_r (adK := adK) C0 (0 : Nat) (Option.some.inj hf) hS dX5_firstWord_46
  · have hf := iff_ hf hc1
    by_cases hc2 : x0 = (1 : Int32)
    · have hf := ift hf hc2
      refine lv_tableIn (off := 46) (tgt := 47) hx hb dX5_firstWord_1 (by rw [hc2]; decide) (by rw [hc2]; decide) (by rw [hc2]; decide) (by decide) ?_
      refine va_ldcS hx hb hown (hSW.2.1 1 (RX5, 38, "per") rfl) dX5_firstWord_47 ?_
      exact rq_r (adK := adK) C0 (1 : Nat) (Option.some.inj hf) hS dX5_firstWord_49
    · have hf := iff_ hf hc2
      by_cases hc3 : x0 = (2 : Int32)
      · have hf := ift hf hc3
        refine lv_tableIn (off := 49) (tgt := 50) hx hb dX5_firstWord_1 (by rw [hc3]; decide) (by rw [hc3]; decide) (by rw [hc3]; decide) (by decide) ?_
        refine va_ldcS hx hb hown (hSW.2.1 2 (RX5, 40, "late") rfl) dX5_firstWord_50 ?_
        exact rq_r (adK := adK) C0 (2 : Nat) (Option.some.inj hf) hS dX5_firstWord_52
      · have hf := iff_ hf hc3
        by_cases hc4 : x0 = (3 : Int32)
        · have hf := ift hf hc4
          refine lv_tableIn (off := 52) (tgt := 53) hx hb dX5_firstWord_1 (by rw [hc4]; decide) (by rw [hc4]; decide) (by rw [hc4]; decide) (by decide) ?_
          refine va_ldcS hx hb hown (hSW.2.1 3 (RX5, 42, "early") rfl) dX5_firstWord_53 ?_
          exact rq_r (adK := adK) C0 (3 : Nat) (Option.some.inj hf) hS dX5_firstWord_55
        · have hf := iff_ hf hc4
          by_cases hc5 : x0 = (4 : Int32)
          · have hf := ift hf hc5
            refine lv_tableIn (off := 55) (tgt := 56) hx hb dX5_firstWord_1 (by rw [hc5]; decide) (by rw [hc5]; decide) (by rw [hc5]; decide) (by decide) ?_
            refine va_ldcS hx hb hown (hSW.2.1 4 (RX5, 44, "smoke") rfl) dX5_firstWord_56 ?_
            exact rq_r (adK := adK) C0 (4 : Nat) (Option.some.inj hf) hS dX5_firstWord_58
          · have hf := iff_ hf hc5
            by_cases hc6 : x0 = (5 : Int32)
            · have hf := ift hf hc6
              refine lv_tableIn (off := 58) (tgt := 59) hx hb dX5_firstWord_1 (by rw [hc6]; decide) (by rw [hc6]; decide) (by rw [hc6]; decide) (by decide) ?_
              refine va_ldcS hx hb hown (hSW.2.1 5 (RX5, 46, "most") rfl) dX5_firstWord_59 ?_
              exact rq_r (adK := adK) C0 (5 : Nat) (Option.some.inj hf) hS dX5_firstWord_61
            · have hf := iff_ hf hc6
              by_cases hc7 : x0 = (6 : Int32)
              · have hf := ift hf hc7
                refine lv_tableIn (off := 61) (tgt := 62) hx hb dX5_firstWord_1 (by rw [hc7]; decide) (by rw [hc7]; decide) (by rw [hc7]; decide) (by decide) ?_
                refine va_ldcS hx hb hown (hSW.2.1 6 (RX5, 48, "least") rfl) dX5_firstWord_62 ?_
                exact rq_r (adK := adK) C0 (6 : Nat) (Option.some.inj hf) hS dX5_firstWord_64
              · have hf := iff_ hf hc7
                refine lv_tableOut (tgt := 65) hx hb dX5_firstWord_1 (by have n0 := lv_neT hc1 (a := 0) (by decide); have n1 := lv_neT hc2 (a := 1) (by decide); have n2 := lv_neT hc3 (a := 2) (by decide); have n3 := lv_neT hc4 (a := 3) (by decide); have n4 := lv_neT hc5 (a := 4) (by decide); have n5 := lv_neT hc6 (a := 5) (by decide); have n6 := lv_neT hc7 (a := 6) (by decide); omega) (by decide) ?_
                refine va_ldcS hx hb hown (hSW.2.1 7 (RX5, 50, "") rfl) dX5_firstWord_65 ?_
                exact rq_r (adK := adK) C0 (7 : Nat) (Option.some.inj hf) hS dX5_firstWord_67

theorem i_X3_isHere_X3 : ∀ w ∈ wsX30, w ∈ wsX3_isHere := by decide +kernel
theorem m_X3_isHere_f9 : Cond.fieldLink RX3 9 "SailCargo$Reader" "tape" "LSailCargo$Tape;" ∈ wsX3_isHere := by decide +kernel
theorem i_X3_isHere_X4 : ∀ w ∈ wsX40, w ∈ wsX3_isHere := by decide +kernel
theorem m_X3_isHere_f35 : Cond.fieldLink RX3 35 "SailCargo$Reader" "tokenStart" "I" ∈ wsX3_isHere := by decide +kernel
theorem m_X3_isHere_f21 : Cond.fieldLink RX3 21 "SailCargo$Reader" "tokenEnd" "I" ∈ wsX3_isHere := by decide +kernel
set_option maxHeartbeats 4000000 in
set_option maxRecDepth 100000 in
theorem w_X3_isHere_20 {p : Program} {l : Launch} {e : Env} {s : State} {m : MethodId} {args : Array Value} {below : List Frame} {meth : Method} {c : Code} {A : Nat → Prop} {D : va_G} {cy : Nat → ClassId} {adK adV : Nat → Nat} {qRe qTa : Nat → Nat} {Re_tokenStart Re_tokenEnd : Int32} {Ta_bytes : Nat → Int32} {Ta_length : Int32} {X : Int32}  (C0 : CX cX3_isHere 3 (some .boolean) RX3 wsX3_isHere D cy p s m args meth c A) (hSW : SW adK adV A s s.heap)  : ∀ (n : Nat)  (x1 : Nat) (x2 : Int32), g_X3_isHere_20 Re_tokenStart Re_tokenEnd Ta_bytes n x1 x2 = some X → ∀ (H : Heap) (locs : List Loc) (ls : Array Slot), va_P D vwCl (wX3 cy qRe (qTa 0) Re_tokenStart Re_tokenEnd ++ (wX4 cy qTa Ta_bytes Ta_length)) H → va_D A (wX3 cy qRe (qTa 0) Re_tokenStart Re_tokenEnd ++ (wX4 cy qTa Ta_bytes Ta_length)) → va_S A s.heap H locs → lv_has ls 3 [(0, .ref (qRe 0)), (1, .ref (adK x1)), (2, .int x2)] → W p l e ({ frames := 4, cells := 0, slots := 0, locals := 85 } : Room) s m args below meth c H locs 0 0 (MQ below (va_Qi (fun (r : Int32) (_ : Unit) => r = X) (fun u t => BW D cy A (wX3 cy qRe (qTa 0) Re_tokenStart Re_tokenEnd ++ (wX4 cy qTa Ta_bytes Ta_length)) t) A) args s 0 0 A) (F0 m 20 ls []) := by
  obtain ⟨hx, hb, hr, hml, hown, hts, hK, hA, hN, hlocks⟩ := id C0
  intro n
  induction n with
  | zero => intro x1 x2 hf; exact (no_some hf).elim
  | succ n hk20 =>
    intro x1 x2 hf H locs ls hP hD hS hl
    have hf : f_X3_isHere_20 Re_tokenStart Re_tokenEnd Ta_bytes (fun x1 x2 => g_X3_isHere_20 Re_tokenStart Re_tokenEnd Ta_bytes n x1 x2) x1 x2 = some X := hf
    unfold f_X3_isHere_20 at hf
    refine lv_iload_n hx hb dX3_isHere_20 rfl (lv_at hl 2 rfl) ?_
    refine lv_aload_n hx hb dX3_isHere_21 rfl (lv_at hl 1 rfl) ?_
    obtain ⟨hz1, hf⟩ := ifn hf
    refine cq_i0 C0 hP hS (va_runV (As := []) (rest := [.int x2]) ⟨hx, hb, hml, hown, hts⟩ (c_J_length l D cy adK adV x1 _ hz1) (cwV 0 hts gX3_isHere_J0_length_8abf5 rfl rfl rfl (by decide +kernel) ⟨Nat.le_of_ble_eq_true rfl, Nat.le_of_ble_eq_true rfl⟩) (preS_J hSW hz1 hS (freeNil hS hA) hK hN) rfl rfl hl.1 rfl (lv_room (Nat.le_of_ble_eq_true rfl)) dX3_isHere_22 ⟨Nat.zero_le _, Nat.zero_le _⟩) (fun r H locs hw hP hS => ?_)
    subst hw
    refine lv_icmp_ge (tgt := 58) hx hb dX3_isHere_25 (by decide) (fun hc2 => ?_) (fun hc2 => ?_)
    · have hf := ift hf hc2
      refine lv_iconst (v := (1 : Int32)) hx hb dX3_isHere_58 (by decide) ?_
      exact rq_z C0 (by decide) () (Option.some.inj hf) hP hD hS dX3_isHere_59
    · have hf := iff_ hf hc2
      refine lv_aload_n hx hb dX3_isHere_28 rfl (lv_at hl 0 rfl) ?_
      refine va_get (D := D) (ci := 3) (v := .ref (qTa 0)) (C := RX3) (T := TX3) (N := 3) hx hb hts i_X3_isHere_X3 hown hK hP 0 rfl rfl 0 (by decide) (hts _ m_X3_isHere_f9) (fun _ h9 => h9) rfl dX3_isHere_29 ?_
      refine va_getN (D := D) (ci := 4) (v := .ref (qTa 1)) (C := RX4) (T := TX4) (N := 2) hx hb hts i_X3_isHere_X4 hown hK hP 1 rfl rfl 0 (by decide) (va_Nw.use rfl (hN _ nw_X3_72)) (fun _ h9 => h9) rfl dX3_isHere_32 ?_
      refine lv_aload_n hx hb dX3_isHere_35 rfl (lv_at hl 0 rfl) ?_
      refine va_get (D := D) (ci := 3) (v := .int Re_tokenStart) (C := RX3) (T := TX3) (N := 3) hx hb hts i_X3_isHere_X3 hown hK hP 0 rfl rfl 1 (by decide) (hts _ m_X3_isHere_f35) (fun _ h9 => h9) rfl dX3_isHere_36 ?_
      refine lv_iload_n hx hb dX3_isHere_39 rfl (lv_at hl 2 rfl) ?_
      refine lv_iadd hx hb dX3_isHere_40 ?_
      obtain ⟨hz3, hf⟩ := ifn hf
      refine va_iald hx hb hK hP 2 0 rfl rfl (inb_in hz3) dX3_isHere_41 ?_
      refine lv_aload_n hx hb dX3_isHere_42 rfl (lv_at hl 1 rfl) ?_
      refine lv_iload_n hx hb dX3_isHere_43 rfl (lv_at hl 2 rfl) ?_
      obtain ⟨hz4, hf⟩ := ifn hf
      refine cq_i0 C0 hP hS (va_runV (As := [.int x2]) (rest := [.int (Ta_bytes (Re_tokenStart + x2).toNatClampNeg)]) ⟨hx, hb, hml, hown, hts⟩ (c_J_charAt l D cy adK adV x1 _ hz1 x2 hz4 (inb_sL hz1 hz4).1 (inb_sL hz1 hz4).2) (cwV 1 hts gX3_isHere_J0_charAt_5068e rfl rfl rfl (by decide +kernel) ⟨Nat.le_of_ble_eq_true rfl, Nat.le_of_ble_eq_true rfl⟩) (preS_J hSW hz1 hS (freeNil hS hA) hK hN) rfl rfl hl.1 rfl (lv_room (Nat.le_of_ble_eq_true rfl)) dX3_isHere_44 ⟨Nat.zero_le _, Nat.zero_le _⟩) (fun r H locs hw hP hS => ?_)
      subst hw
      refine lv_icmp_eq (tgt := 52) hx hb dX3_isHere_47 (by decide) (fun hc5 => ?_) (fun hc5 => ?_)
      · have hf := ift hf hc5
        refine lv_iinc (v := (x2 + 1)) (lv' := [(2, .int (x2 + 1)), (0, .ref (qRe 0)), (1, .ref (adK x1))]) hx hb dX3_isHere_52 hl (k := 2) rfl rfl (by decide) rfl (fun ls hl => ?_)
        refine lv_goto (tgt := 20) hx hb dX3_isHere_55 (by decide) ?_
        exact hk20 x1 (x2 + 1) hf H locs ls hP hD hS (lv_sub hl [1, 2, 0] rfl)
      · have hf := iff_ hf hc5
        refine lv_iconst (v := (0 : Int32)) hx hb dX3_isHere_50 (by decide) ?_
        exact rq_z C0 (by decide) () (Option.some.inj hf) hP hD hS dX3_isHere_51

set_option maxHeartbeats 4000000 in
set_option maxRecDepth 100000 in
theorem c_X3_isHere (l : Launch) (adK adV : Nat → Nat) (D : va_G) (cy : Nat → ClassId) (qRe qTa : Nat → Nat) (Re_tokenStart : Int32) (Re_tokenEnd : Int32) (Ta_bytes : Nat → Int32) (Ta_length : Int32) (sz : Nat) (x1 : Nat) (X : Int32) (hf : f_X3_isHere Re_tokenStart Re_tokenEnd Ta_bytes x1 = some X) : Met l yX3_isHere wsX3_isHere ({ frames := 4, cells := 0, slots := 0, locals := 85 } : Room) (va_Pc [.ref (qRe 0), .ref (adK x1)] (PWS adK adV D cy (wX3 cy qRe (qTa 0) Re_tokenStart Re_tokenEnd ++ (wX4 cy qTa Ta_bytes Ta_length)) sz)) (va_Qi (fun (r : Int32) (_ : Unit) => r = X) (fun u t => BW D cy (va_A (wX3 cy qRe (qTa 0) Re_tokenStart Re_tokenEnd ++ (wX4 cy qTa Ta_bytes Ta_length)) sz) (wX3 cy qRe (qTa 0) Re_tokenStart Re_tokenEnd ++ (wX4 cy qTa Ta_bytes Ta_length)) t) (va_A (wX3 cy qRe (qTa 0) Re_tokenStart Re_tokenEnd ++ (wX4 cy qTa Ta_bytes Ta_length)) sz)) 0 0 (va_A (wX3 cy qRe (qTa 0) Re_tokenStart Re_tokenEnd ++ (wX4 cy qTa Ta_bytes Ta_length)) sz) := by
  refine met_enterS (Qc := fun A => (va_Qi (fun (r : Int32) (_ : Unit) => r = X) (fun u t => BW D cy A (wX3 cy qRe (qTa 0) Re_tokenStart Re_tokenEnd ++ (wX4 cy qTa Ta_bytes Ta_length)) t) A)) (lv0 := [(0, .ref (qRe 0)), (1, .ref (adK x1))]) (by decide) rfl (Nat.le_of_ble_eq_true rfl) rfl ?_
  intro p e s m below meth c A ls hSW C0 hP hD hS hl
  generalize hH : s.heap = H at hP ⊢
  generalize hLoc : ([] : List Loc) = locs at hS ⊢
  have hS : va_S A s.heap H locs := by rw [← hH]; exact hS
  have C0 : CX cX3_isHere 3 (some .boolean) RX3 wsX3_isHere D cy p s m _ meth c A := C0
  obtain ⟨hx, hb, hr, hml, hown, hts, hK, hA, hN, hlocks⟩ := id C0
  unfold f_X3_isHere at hf
  refine lv_aload_n hx hb dX3_isHere_0 rfl (lv_at hl 0 rfl) ?_
  refine va_get (D := D) (ci := 3) (v := .int Re_tokenEnd) (C := RX3) (T := TX3) (N := 3) hx hb hts i_X3_isHere_X3 hown hK hP 0 rfl rfl 2 (by decide) (hts _ m_X3_isHere_f21) (fun _ h9 => h9) rfl dX3_isHere_1 ?_
  refine lv_aload_n hx hb dX3_isHere_4 rfl (lv_at hl 0 rfl) ?_
  refine va_get (D := D) (ci := 3) (v := .int Re_tokenStart) (C := RX3) (T := TX3) (N := 3) hx hb hts i_X3_isHere_X3 hown hK hP 0 rfl rfl 1 (by decide) (hts _ m_X3_isHere_f35) (fun _ h9 => h9) rfl dX3_isHere_5 ?_
  refine lv_isub hx hb dX3_isHere_8 ?_
  refine lv_aload_n hx hb dX3_isHere_9 rfl (lv_at hl 1 rfl) ?_
  obtain ⟨hz6, hf⟩ := ifn hf
  refine cq_i0 C0 hP hS (va_runV (As := []) (rest := [.int (Re_tokenEnd - Re_tokenStart)]) ⟨hx, hb, hml, hown, hts⟩ (c_J_length l D cy adK adV x1 _ hz6) (cwV 0 hts gX3_isHere_J0_length_8abf5 rfl rfl rfl (by decide +kernel) ⟨Nat.le_of_ble_eq_true rfl, Nat.le_of_ble_eq_true rfl⟩) (preS_J hSW hz6 hS (freeNil hS hA) hK hN) rfl rfl hl.1 rfl (lv_room (Nat.le_of_ble_eq_true rfl)) dX3_isHere_10 ⟨Nat.zero_le _, Nat.zero_le _⟩) (fun r H locs hw hP hS => ?_)
  subst hw
  refine lv_icmp_eq (tgt := 18) hx hb dX3_isHere_13 (by decide) (fun hc7 => ?_) (fun hc7 => ?_)
  · have hf := ift hf hc7
    refine lv_iconst (v := (0 : Int32)) hx hb dX3_isHere_18 (by decide) ?_
    refine lv_istore_n (lv' := [(2, .int (0 : Int32)), (0, .ref (qRe 0)), (1, .ref (adK x1))]) hx hb dX3_isHere_19 rfl hl (by decide) rfl (fun ls hl => ?_)
    exact w_X3_isHere_20 C0 hSW  FU x1 (0 : Int32) hf H locs ls hP hD hS (lv_sub hl [1, 2, 0] rfl)
  · have hf := iff_ hf hc7
    refine lv_iconst (v := (0 : Int32)) hx hb dX3_isHere_16 (by decide) ?_
    exact rq_z C0 (by decide) () (Option.some.inj hf) hP hD hS dX3_isHere_17

set_option maxHeartbeats 4000000 in
set_option maxRecDepth 100000 in
theorem w_X3_kindHere_2 {p : Program} {l : Launch} {e : Env} {s : State} {m : MethodId} {args : Array Value} {below : List Frame} {meth : Method} {c : Code} {A : Nat → Prop} {D : va_G} {cy : Nat → ClassId} {adK adV : Nat → Nat} {qRe qTa : Nat → Nat} {Re_tokenStart Re_tokenEnd : Int32} {Ta_bytes : Nat → Int32} {Ta_length : Int32} {X : Int32}  (C0 : CX cX3_kindHere 2 (some .int) RX3 wsX3_kindHere D cy p s m args meth c A) (hSW : SW adK adV A s s.heap)  : ∀ (n : Nat)  (x1 : Int32), g_X3_kindHere_2 Re_tokenStart Re_tokenEnd Ta_bytes n x1 = some X → ∀ (H : Heap) (locs : List Loc) (ls : Array Slot), va_P D vwCl (wX3 cy qRe (qTa 0) Re_tokenStart Re_tokenEnd ++ (wX4 cy qTa Ta_bytes Ta_length)) H → va_D A (wX3 cy qRe (qTa 0) Re_tokenStart Re_tokenEnd ++ (wX4 cy qTa Ta_bytes Ta_length)) → va_S A s.heap H locs → lv_has ls 2 [(0, .ref (qRe 0)), (1, .int x1)] → W p l e ({ frames := 5, cells := 0, slots := 0, locals := 107 } : Room) s m args below meth c H locs 0 0 (MQ below (va_Qi (fun (r : Int32) (_ : Unit) => r = X) (fun u t => BW D cy A (wX3 cy qRe (qTa 0) Re_tokenStart Re_tokenEnd ++ (wX4 cy qTa Ta_bytes Ta_length)) t) A) args s 0 0 A) (F0 m 2 ls []) := by
  obtain ⟨hx, hb, hr, hml, hown, hts, hK, hA, hN, hlocks⟩ := id C0
  intro n
  induction n with
  | zero => intro x1 hf; exact (no_some hf).elim
  | succ n hk2 =>
    intro x1 hf H locs ls hP hD hS hl
    have hf : f_X3_kindHere_2 Re_tokenStart Re_tokenEnd Ta_bytes (fun x1 => g_X3_kindHere_2 Re_tokenStart Re_tokenEnd Ta_bytes n x1) x1 = some X := hf
    unfold f_X3_kindHere_2 at hf
    refine lv_iload_n hx hb dX3_kindHere_2 rfl (lv_at hl 1 rfl) ?_
    refine lv_bipush (v := (7 : Int32)) hx hb dX3_kindHere_3 (by decide) ?_
    refine lv_icmp_ge (tgt := 27) hx hb dX3_kindHere_5 (by decide) (fun hc1 => ?_) (fun hc1 => ?_)
    · have hf := ift hf hc1
      refine lv_iconst (v := (-1 : Int32)) hx hb dX3_kindHere_27 (by decide) ?_
      exact rq_i C0 () (Option.some.inj hf) hP hD hS dX3_kindHere_28
    · have hf := iff_ hf hc1
      refine lv_aload_n hx hb dX3_kindHere_8 rfl (lv_at hl 0 rfl) ?_
      refine lv_iload_n hx hb dX3_kindHere_9 rfl (lv_at hl 1 rfl) ?_
      obtain ⟨u2, eu2, hf⟩ := Option.bind_eq_some_iff.mp hf
      refine cq_r (adK := adK) C0 hP hD hS (va_runS (As := [.int x1]) (rest := [.ref (qRe 0)]) ⟨hx, hb, hml, hown, hts⟩ (c_X5_firstWord l adK adV D cy   H.size x1 u2 eu2) (va_cwS 1 hts gX3_kindHere_X5_firstWord rfl rfl rfl (by decide +kernel) ⟨Nat.le_of_ble_eq_true rfl, Nat.le_of_ble_eq_true rfl⟩) (preS_S hSW hS (va_free (wc := ([] : va_W)) hD hS hA [] rfl) (hP.sub (ws' := ([] : va_W)) [] rfl) hK (hD.sub (ws' := ([] : va_W)) [] (by decide) rfl) hN) rfl rfl hl.1 rfl (lv_room (Nat.le_of_ble_eq_true rfl)) dX3_kindHere_10 ⟨Nat.zero_le _, Nat.zero_le _⟩) (fun u H locs hw hP hS => ?_)
      have hw := hw.symm
      subst hw
      obtain ⟨u3, eu3, hf⟩ := Option.bind_eq_some_iff.mp hf
      refine cq_i (wc' := fun (u : Unit) => (wX3 cy qRe (qTa 0) Re_tokenStart Re_tokenEnd ++ (wX4 cy qTa Ta_bytes Ta_length))) (ws' := fun (u : Unit) => (wX3 cy qRe (qTa 0) Re_tokenStart Re_tokenEnd ++ (wX4 cy qTa Ta_bytes Ta_length))) (wc := (wX3 cy qRe (qTa 0) Re_tokenStart Re_tokenEnd ++ (wX4 cy qTa Ta_bytes Ta_length))) (wr := ([] : va_W)) C0 hP hD hS [0, 1, 2] [] [0, 1, 2] rfl rfl (by decide) (by decide) (by decide) (fun _ => rfl) (va_runV (As := [.ref (adK u2)]) (rest := []) ⟨hx, hb, hml, hown, hts⟩ (c_X3_isHere l adK adV D cy qRe qTa Re_tokenStart Re_tokenEnd Ta_bytes Ta_length H.size u2 u3 eu3) (cwV 1 hts gX3_kindHere_X3_isHere rfl rfl rfl (by decide +kernel) ⟨Nat.le_of_ble_eq_true rfl, Nat.le_of_ble_eq_true rfl⟩) (preS_V hSW hS (va_free (wc := (wX3 cy qRe (qTa 0) Re_tokenStart Re_tokenEnd ++ (wX4 cy qTa Ta_bytes Ta_length))) hD hS hA [0, 1, 2] rfl) (hP.sub (ws' := (wX3 cy qRe (qTa 0) Re_tokenStart Re_tokenEnd ++ (wX4 cy qTa Ta_bytes Ta_length))) [0, 1, 2] rfl) hK (hD.sub (ws' := (wX3 cy qRe (qTa 0) Re_tokenStart Re_tokenEnd ++ (wX4 cy qTa Ta_bytes Ta_length))) [0, 1, 2] (by decide) rfl) hN 3 0 rfl rfl) rfl rfl hl.1 rfl (lv_room (Nat.le_of_ble_eq_true rfl)) dX3_kindHere_13 ⟨Nat.zero_le _, Nat.zero_le _⟩) (fun r u H locs hw hP hD hS => ?_)
      have hw := hw.symm
      subst hw
      have hP : va_P D vwCl (wX3 cy qRe (qTa 0) Re_tokenStart Re_tokenEnd ++ (wX4 cy qTa Ta_bytes Ta_length)) H := hP
      have hD : va_D A (wX3 cy qRe (qTa 0) Re_tokenStart Re_tokenEnd ++ (wX4 cy qTa Ta_bytes Ta_length)) := hD
      refine lv_if_eq (tgt := 21) hx hb dX3_kindHere_16 (by decide) (fun hc4 => ?_) (fun hc4 => ?_)
      · have hf := ift hf hc4
        refine lv_iinc (v := (x1 + 1)) (lv' := [(1, .int (x1 + 1)), (0, .ref (qRe 0))]) hx hb dX3_kindHere_21 hl (k := 1) rfl rfl (by decide) rfl (fun ls hl => ?_)
        refine lv_goto (tgt := 2) hx hb dX3_kindHere_24 (by decide) ?_
        exact hk2 (x1 + 1) hf H locs ls hP hD hS (lv_sub hl [1, 0] rfl)
      · have hf := iff_ hf hc4
        refine lv_iload_n hx hb dX3_kindHere_19 rfl (lv_at hl 1 rfl) ?_
        exact rq_i C0 () (Option.some.inj hf) hP hD hS dX3_kindHere_20

set_option maxHeartbeats 4000000 in
set_option maxRecDepth 100000 in
theorem c_X3_kindHere (l : Launch) (adK adV : Nat → Nat) (D : va_G) (cy : Nat → ClassId) (qRe qTa : Nat → Nat) (Re_tokenStart : Int32) (Re_tokenEnd : Int32) (Ta_bytes : Nat → Int32) (Ta_length : Int32) (sz : Nat)  (X : Int32) (hf : f_X3_kindHere Re_tokenStart Re_tokenEnd Ta_bytes = some X) : Met l yX3_kindHere wsX3_kindHere ({ frames := 5, cells := 0, slots := 0, locals := 107 } : Room) (va_Pc [.ref (qRe 0)] (PWS adK adV D cy (wX3 cy qRe (qTa 0) Re_tokenStart Re_tokenEnd ++ (wX4 cy qTa Ta_bytes Ta_length)) sz)) (va_Qi (fun (r : Int32) (_ : Unit) => r = X) (fun u t => BW D cy (va_A (wX3 cy qRe (qTa 0) Re_tokenStart Re_tokenEnd ++ (wX4 cy qTa Ta_bytes Ta_length)) sz) (wX3 cy qRe (qTa 0) Re_tokenStart Re_tokenEnd ++ (wX4 cy qTa Ta_bytes Ta_length)) t) (va_A (wX3 cy qRe (qTa 0) Re_tokenStart Re_tokenEnd ++ (wX4 cy qTa Ta_bytes Ta_length)) sz)) 0 0 (va_A (wX3 cy qRe (qTa 0) Re_tokenStart Re_tokenEnd ++ (wX4 cy qTa Ta_bytes Ta_length)) sz) := by
  refine met_enterS (Qc := fun A => (va_Qi (fun (r : Int32) (_ : Unit) => r = X) (fun u t => BW D cy A (wX3 cy qRe (qTa 0) Re_tokenStart Re_tokenEnd ++ (wX4 cy qTa Ta_bytes Ta_length)) t) A)) (lv0 := [(0, .ref (qRe 0))]) (by decide) rfl (Nat.le_of_ble_eq_true rfl) rfl ?_
  intro p e s m below meth c A ls hSW C0 hP hD hS hl
  generalize hH : s.heap = H at hP ⊢
  generalize hLoc : ([] : List Loc) = locs at hS ⊢
  have hS : va_S A s.heap H locs := by rw [← hH]; exact hS
  have C0 : CX cX3_kindHere 2 (some .int) RX3 wsX3_kindHere D cy p s m _ meth c A := C0
  obtain ⟨hx, hb, hr, hml, hown, hts, hK, hA, hN, hlocks⟩ := id C0
  unfold f_X3_kindHere at hf
  refine lv_iconst (v := (0 : Int32)) hx hb dX3_kindHere_0 (by decide) ?_
  refine lv_istore_n (lv' := [(1, .int (0 : Int32)), (0, .ref (qRe 0))]) hx hb dX3_kindHere_1 rfl hl (by decide) rfl (fun ls hl => ?_)
  exact w_X3_kindHere_2 C0 hSW  FU (0 : Int32) hf H locs ls hP hD hS (lv_sub hl [1, 0] rfl)

set_option maxHeartbeats 4000000 in
set_option maxRecDepth 100000 in
theorem c_X3_passes (l : Launch) (adK adV : Nat → Nat) (D : va_G) (cy : Nat → ClassId) (qRe qTa : Nat → Nat) (Re_tokenStart : Int32) (Re_tokenEnd : Int32) (Ta_bytes : Nat → Int32) (Ta_length : Int32) (sz : Nat) (x1 : Nat) (X : Int32 × (Int32) × (Int32)) (hf : f_X3_passes Re_tokenStart Re_tokenEnd Ta_bytes Ta_length x1 = some X) : Met l yX3_passes wsX3_passes ({ frames := 5, cells := 0, slots := 0, locals := 107 } : Room) (va_Pc [.ref (qRe 0), .ref (adK x1)] (PWS adK adV D cy (wX3 cy qRe (qTa 0) Re_tokenStart Re_tokenEnd ++ (wX4 cy qTa Ta_bytes Ta_length)) sz)) (va_Qi (fun (r : Int32) (u : (Int32) × (Int32)) => r = X.1 ∧ u = X.2) (fun u t => BW D cy (va_A (wX3 cy qRe (qTa 0) Re_tokenStart Re_tokenEnd ++ (wX4 cy qTa Ta_bytes Ta_length)) sz) (wX3 cy qRe (qTa 0) u.1 u.2 ++ (wX4 cy qTa Ta_bytes Ta_length)) t) (va_A (wX3 cy qRe (qTa 0) Re_tokenStart Re_tokenEnd ++ (wX4 cy qTa Ta_bytes Ta_length)) sz)) 0 0 (va_A (wX3 cy qRe (qTa 0) Re_tokenStart Re_tokenEnd ++ (wX4 cy qTa Ta_bytes Ta_length)) sz) := by
  refine met_enterS (Qc := fun A => (va_Qi (fun (r : Int32) (u : (Int32) × (Int32)) => r = X.1 ∧ u = X.2) (fun u t => BW D cy A (wX3 cy qRe (qTa 0) u.1 u.2 ++ (wX4 cy qTa Ta_bytes Ta_length)) t) A)) (lv0 := [(0, .ref (qRe 0)), (1, .ref (adK x1))]) (by decide) rfl (Nat.le_of_ble_eq_true rfl) rfl ?_
  intro p e s m below meth c A ls hSW C0 hP hD hS hl
  generalize hH : s.heap = H at hP ⊢
  generalize hLoc : ([] : List Loc) = locs at hS ⊢
  have hS : va_S A s.heap H locs := by rw [← hH]; exact hS
  have C0 : CX cX3_passes 2 (some .boolean) RX3 wsX3_passes D cy p s m _ meth c A := C0
  obtain ⟨hx, hb, hr, hml, hown, hts, hK, hA, hN, hlocks⟩ := id C0
  unfold f_X3_passes at hf
  refine lv_aload_n hx hb dX3_passes_0 rfl (lv_at hl 0 rfl) ?_
  refine lv_aload_n hx hb dX3_passes_1 rfl (lv_at hl 1 rfl) ?_
  obtain ⟨u1, eu1, hf⟩ := Option.bind_eq_some_iff.mp hf
  refine cq_i (wc' := fun (u : Unit) => (wX3 cy qRe (qTa 0) Re_tokenStart Re_tokenEnd ++ (wX4 cy qTa Ta_bytes Ta_length))) (ws' := fun (u : Unit) => (wX3 cy qRe (qTa 0) Re_tokenStart Re_tokenEnd ++ (wX4 cy qTa Ta_bytes Ta_length))) (wc := (wX3 cy qRe (qTa 0) Re_tokenStart Re_tokenEnd ++ (wX4 cy qTa Ta_bytes Ta_length))) (wr := ([] : va_W)) C0 hP hD hS [0, 1, 2] [] [0, 1, 2] rfl rfl (by decide) (by decide) (by decide) (fun _ => rfl) (va_runV (As := [.ref (adK x1)]) (rest := []) ⟨hx, hb, hml, hown, hts⟩ (c_X3_isHere l adK adV D cy qRe qTa Re_tokenStart Re_tokenEnd Ta_bytes Ta_length H.size x1 u1 eu1) (cwV 1 hts gX3_passes_X3_isHere rfl rfl rfl (by decide +kernel) ⟨Nat.le_of_ble_eq_true rfl, Nat.le_of_ble_eq_true rfl⟩) (preS_V hSW hS (va_free (wc := (wX3 cy qRe (qTa 0) Re_tokenStart Re_tokenEnd ++ (wX4 cy qTa Ta_bytes Ta_length))) hD hS hA [0, 1, 2] rfl) (hP.sub (ws' := (wX3 cy qRe (qTa 0) Re_tokenStart Re_tokenEnd ++ (wX4 cy qTa Ta_bytes Ta_length))) [0, 1, 2] rfl) hK (hD.sub (ws' := (wX3 cy qRe (qTa 0) Re_tokenStart Re_tokenEnd ++ (wX4 cy qTa Ta_bytes Ta_length))) [0, 1, 2] (by decide) rfl) hN 3 0 rfl rfl) rfl rfl hl.1 rfl (lv_room (Nat.le_of_ble_eq_true rfl)) dX3_passes_2 ⟨Nat.zero_le _, Nat.zero_le _⟩) (fun r u H locs hw hP hD hS => ?_)
  have hw := hw.symm
  subst hw
  have hP : va_P D vwCl (wX3 cy qRe (qTa 0) Re_tokenStart Re_tokenEnd ++ (wX4 cy qTa Ta_bytes Ta_length)) H := hP
  have hD : va_D A (wX3 cy qRe (qTa 0) Re_tokenStart Re_tokenEnd ++ (wX4 cy qTa Ta_bytes Ta_length)) := hD
  refine lv_if_ne (tgt := 10) hx hb dX3_passes_5 (by decide) (fun hc2 => ?_) (fun hc2 => ?_)
  · have hf := iff_ hf hc2
    refine lv_aload_n hx hb dX3_passes_10 rfl (lv_at hl 0 rfl) ?_
    obtain ⟨u3, eu3, hf⟩ := Option.bind_eq_some_iff.mp hf
    refine cq_v (wc' := fun (u : (Int32) × (Int32)) => (wX3 cy qRe (qTa 0) u.1 u.2 ++ (wX4 cy qTa Ta_bytes Ta_length))) (ws' := fun (u : (Int32) × (Int32)) => (wX3 cy qRe (qTa 0) u.1 u.2 ++ (wX4 cy qTa Ta_bytes Ta_length))) (wc := (wX3 cy qRe (qTa 0) Re_tokenStart Re_tokenEnd ++ (wX4 cy qTa Ta_bytes Ta_length))) (wr := ([] : va_W)) C0 hP hD hS [0, 1, 2] [] [0, 1, 2] rfl rfl (by decide) (by decide) (by decide) (fun _ => rfl) (va_runV (As := []) (rest := []) ⟨hx, hb, hml, hown, hts⟩ (c_X3_advance l D cy qRe qTa Re_tokenStart Re_tokenEnd Ta_bytes Ta_length H.size  u3 eu3) (cwV 0 hts gX3_passes_X3_advance rfl rfl rfl (by decide +kernel) ⟨Nat.le_of_ble_eq_true rfl, Nat.le_of_ble_eq_true rfl⟩) (pre_V (hP.sub (ws' := (wX3 cy qRe (qTa 0) Re_tokenStart Re_tokenEnd ++ (wX4 cy qTa Ta_bytes Ta_length))) [0, 1, 2] rfl) hK (hD.sub (ws' := (wX3 cy qRe (qTa 0) Re_tokenStart Re_tokenEnd ++ (wX4 cy qTa Ta_bytes Ta_length))) [0, 1, 2] (by decide) rfl) hN 3 0 rfl rfl) rfl rfl hl.1 rfl (lv_room (Nat.le_of_ble_eq_true rfl)) dX3_passes_11 ⟨Nat.zero_le _, Nat.zero_le _⟩) (fun u H locs hw hP hD hS => ?_)
    have hw := hw.symm
    subst hw
    have hP : va_P D vwCl (wX3 cy qRe (qTa 0) u3.1 u3.2 ++ (wX4 cy qTa Ta_bytes Ta_length)) H := hP
    have hD : va_D A (wX3 cy qRe (qTa 0) u3.1 u3.2 ++ (wX4 cy qTa Ta_bytes Ta_length)) := hD
    refine lv_iconst (v := (1 : Int32)) hx hb dX3_passes_14 (by decide) ?_
    exact rq_z C0 (by decide) (u3.1, u3.2) (pr_2 hf) hP hD hS dX3_passes_15
  · have hf := ift hf hc2
    refine lv_iconst (v := (0 : Int32)) hx hb dX3_passes_8 (by decide) ?_
    exact rq_z C0 (by decide) (Re_tokenStart, Re_tokenEnd) (pr_2 hf) hP hD hS dX3_passes_9

set_option maxHeartbeats 4000000 in
set_option maxRecDepth 100000 in
theorem c_X5_wordBetween (l : Launch) (adK adV : Nat → Nat) (D : va_G) (cy : Nat → ClassId)   (sz : Nat) (x0 : Int32) (X : Nat) (hf : f_X5_wordBetween x0 = some X) : Met l yX5_wordBetween wsX5_wordBetween ({ frames := 0, cells := 0, slots := 0, locals := 0 } : Room) (va_Pc [.int x0] (PWS adK adV D cy ([] : va_W) sz)) (va_Qr (fun (u : Nat) => u = X) (fun (u : Nat) (ra : Nat) (t : State) => ra = adK u) (va_A ([] : va_W) sz)) 0 0 (va_A ([] : va_W) sz) := by
  refine met_enterS (Qc := fun A => (va_Qr (fun (u : Nat) => u = X) (fun (u : Nat) (ra : Nat) (t : State) => ra = adK u) A)) (lv0 := [(0, .int x0)]) (by decide) rfl (Nat.le_of_ble_eq_true rfl) rfl ?_
  intro p e s m below meth c A ls hSW C0 hP hD hS hl
  generalize hH : s.heap = H at hP ⊢
  generalize hLoc : ([] : List Loc) = locs at hS ⊢
  have hS : va_S A s.heap H locs := by rw [← hH]; exact hS
  have C0 : CX cX5_wordBetween 1 (some (.object "java/lang/String")) RX5 wsX5_wordBetween D cy p s m _ meth c A := C0
  obtain ⟨hx, hb, hr, hml, hown, hts, hK, hA, hN, hlocks⟩ := id C0
  unfold f_X5_wordBetween at hf
  refine lv_iload_n hx hb dX5_wordBetween_0 rfl (lv_at hl 0 rfl) ?_
  by_cases hc1 : x0 = (2 : Int32)
  · have hf := ift hf hc1
    refine lv_tableIn (off := 27) (tgt := 28) hx hb dX5_wordBetween_1 (by rw [hc1]; decide) (by rw [hc1]; decide) (by rw [hc1]; decide) (by decide) ?_
    refine va_ldcS hx hb hown (hSW.2.1 9 (RX5, 52, "behind") rfl) dX5_wordBetween_28 ?_
    exact rq_r (adK := adK) C0 (9 : Nat) (Option.some.inj hf) hS dX5_wordBetween_30
  · have hf := iff_ hf hc1
    by_cases hc2 : x0 = (3 : Int32)
    · have hf := ift hf hc2
      refine lv_tableIn (off := 30) (tgt := 31) hx hb dX5_wordBetween_1 (by rw [hc2]; decide) (by rw [hc2]; decide) (by rw [hc2]; decide) (by decide) ?_
      refine va_ldcS hx hb hown (hSW.2.1 10 (RX5, 54, "ahead") rfl) dX5_wordBetween_31 ?_
      exact rq_r (adK := adK) C0 (10 : Nat) (Option.some.inj hf) hS dX5_wordBetween_33
    · have hf := iff_ hf hc2
      by_cases hc3 : x0 = (4 : Int32)
      · have hf := ift hf hc3
        refine lv_tableIn (off := 33) (tgt := 34) hx hb dX5_wordBetween_1 (by rw [hc3]; decide) (by rw [hc3]; decide) (by rw [hc3]; decide) (by decide) ?_
        refine va_ldcS hx hb hown (hSW.2.1 11 (RX5, 56, "below") rfl) dX5_wordBetween_34 ?_
        exact rq_r (adK := adK) C0 (11 : Nat) (Option.some.inj hf) hS dX5_wordBetween_36
      · have hf := iff_ hf hc3
        refine lv_tableOut (tgt := 37) hx hb dX5_wordBetween_1 (by have n2 := lv_neT hc1 (a := 2) (by decide); have n3 := lv_neT hc2 (a := 3) (by decide); have n4 := lv_neT hc3 (a := 4) (by decide); omega) (by decide) ?_
        refine va_ldcS hx hb hown (hSW.2.1 7 (RX5, 50, "") rfl) dX5_wordBetween_37 ?_
        exact rq_r (adK := adK) C0 (7 : Nat) (Option.some.inj hf) hS dX5_wordBetween_39

set_option maxHeartbeats 4000000 in
set_option maxRecDepth 100000 in
theorem w_X3_readClause_94 {p : Program} {l : Launch} {e : Env} {s : State} {m : MethodId} {args : Array Value} {below : List Frame} {meth : Method} {c : Code} {A : Nat → Prop} {D : va_G} {cy : Nat → ClassId} {adK adV : Nat → Nat} {qRe qTa qTe : Nat → Nat} {Ta_bytes : Nat → Int32} {Ta_length : Int32} {X : Int32 × (Int32) × (Int32) × (Nat → Int32) × (Nat → Int32) × (Nat → Int32) × (Int32)}  (C0 : CX cX3_readClause 6 (some .boolean) RX3 wsX3_readClause D cy p s m args meth c A) (hSW : SW adK adV A s s.heap)  (Re_tokenStart : Int32) (Re_tokenEnd : Int32) (Te_kind : Nat → Int32) (Te_amount : Nat → Int32) (Te_mark : Nat → Int32) (Te_clauses : Int32) (x2 : Int32) (x3 : Int32) (x4 : Int32) (hf : f_X3_readClause_94 Ta_bytes Ta_length Re_tokenStart Re_tokenEnd Te_kind Te_amount Te_mark Te_clauses x2 x3 x4 = some X) : ∀ (H : Heap) (locs : List Loc) (ls : Array Slot), va_P D vwCl (wX3 cy qRe (qTa 0) Re_tokenStart Re_tokenEnd ++ (wX4 cy qTa Ta_bytes Ta_length ++ (wX5 cy qTe Te_kind Te_amount Te_mark Te_clauses))) H → va_D A (wX3 cy qRe (qTa 0) Re_tokenStart Re_tokenEnd ++ (wX4 cy qTa Ta_bytes Ta_length ++ (wX5 cy qTe Te_kind Te_amount Te_mark Te_clauses))) → va_S A s.heap H locs → lv_has ls 6 [(1, .ref (qTe 0)), (2, .int x2), (3, .int x3), (4, .int x4)] → W p l e ({ frames := 6, cells := 0, slots := 0, locals := 128 } : Room) s m args below meth c H locs 0 0 (MQ below (va_Qi (fun (r : Int32) (u : (Int32) × (Int32) × (Nat → Int32) × (Nat → Int32) × (Nat → Int32) × (Int32)) => r = X.1 ∧ u = X.2) (fun u t => BW D cy A (wX3 cy qRe (qTa 0) u.1 u.2.1 ++ (wX4 cy qTa Ta_bytes Ta_length ++ (wX5 cy qTe u.2.2.1 u.2.2.2.1 u.2.2.2.2.1 u.2.2.2.2.2))) t) A) args s 0 0 A) (F0 m 94 ls []) := by
  obtain ⟨hx, hb, hr, hml, hown, hts, hK, hA, hN, hlocks⟩ := id C0
  intro H locs ls hP hD hS hl
  unfold f_X3_readClause_94 at hf
  refine lv_aload_n hx hb dX3_readClause_94 rfl (lv_at hl 0 rfl) ?_
  refine lv_iload_n hx hb dX3_readClause_95 rfl (lv_at hl 1 rfl) ?_
  refine lv_iload_n hx hb dX3_readClause_96 rfl (lv_at hl 2 rfl) ?_
  refine lv_iload hx hb dX3_readClause_97 (lv_at hl 3 rfl) ?_
  obtain ⟨u1, eu1, hf⟩ := Option.bind_eq_some_iff.mp hf
  refine cq_v (wc' := fun (u : (Nat → Int32) × (Nat → Int32) × (Nat → Int32) × (Int32)) => (wX5 cy qTe u.1 u.2.1 u.2.2.1 u.2.2.2)) (ws' := fun (u : (Nat → Int32) × (Nat → Int32) × (Nat → Int32) × (Int32)) => (wX3 cy qRe (qTa 0) Re_tokenStart Re_tokenEnd ++ (wX4 cy qTa Ta_bytes Ta_length ++ (wX5 cy qTe u.1 u.2.1 u.2.2.1 u.2.2.2)))) (wc := (wX5 cy qTe Te_kind Te_amount Te_mark Te_clauses)) (wr := (wX3 cy qRe (qTa 0) Re_tokenStart Re_tokenEnd ++ (wX4 cy qTa Ta_bytes Ta_length))) C0 hP hD hS [3, 4, 5, 6] [0, 1, 2] [0, 1, 2, 3, 4, 5, 6] rfl rfl (by decide) (by decide) (by decide) (fun _ => rfl) (va_runV (As := [.int x2, .int x3, .int x4]) (rest := []) ⟨hx, hb, hml, hown, hts⟩ (c_X5_add l D cy qTe Te_kind Te_amount Te_mark Te_clauses H.size x2 x3 x4 u1 eu1) (cwV 3 hts gX3_readClause_X5_add rfl rfl rfl (by decide +kernel) ⟨Nat.le_of_ble_eq_true rfl, Nat.le_of_ble_eq_true rfl⟩) (pre_V (hP.sub (ws' := (wX5 cy qTe Te_kind Te_amount Te_mark Te_clauses)) [3, 4, 5, 6] rfl) hK (hD.sub (ws' := (wX5 cy qTe Te_kind Te_amount Te_mark Te_clauses)) [3, 4, 5, 6] (by decide) rfl) hN 5 0 rfl rfl) rfl rfl hl.1 rfl (lv_room (Nat.le_of_ble_eq_true rfl)) dX3_readClause_99 ⟨Nat.zero_le _, Nat.zero_le _⟩) (fun u H locs hw hP hD hS => ?_)
  have hw := hw.symm
  subst hw
  have hP : va_P D vwCl (wX3 cy qRe (qTa 0) Re_tokenStart Re_tokenEnd ++ (wX4 cy qTa Ta_bytes Ta_length ++ (wX5 cy qTe u1.1 u1.2.1 u1.2.2.1 u1.2.2.2))) H := hP
  have hD : va_D A (wX3 cy qRe (qTa 0) Re_tokenStart Re_tokenEnd ++ (wX4 cy qTa Ta_bytes Ta_length ++ (wX5 cy qTe u1.1 u1.2.1 u1.2.2.1 u1.2.2.2))) := hD
  refine lv_iconst (v := (1 : Int32)) hx hb dX3_readClause_102 (by decide) ?_
  exact rq_z C0 (by decide) (Re_tokenStart, Re_tokenEnd, u1.1, u1.2.1, u1.2.2.1, u1.2.2.2) (pr_2 hf) hP hD hS dX3_readClause_103

set_option maxHeartbeats 4000000 in
set_option maxRecDepth 100000 in
theorem w_X3_readClause_32 {p : Program} {l : Launch} {e : Env} {s : State} {m : MethodId} {args : Array Value} {below : List Frame} {meth : Method} {c : Code} {A : Nat → Prop} {D : va_G} {cy : Nat → ClassId} {adK adV : Nat → Nat} {qRe qTa qTe : Nat → Nat} {Ta_bytes : Nat → Int32} {Ta_length : Int32} {X : Int32 × (Int32) × (Int32) × (Nat → Int32) × (Nat → Int32) × (Nat → Int32) × (Int32)}  (C0 : CX cX3_readClause 6 (some .boolean) RX3 wsX3_readClause D cy p s m args meth c A) (hSW : SW adK adV A s s.heap)  (Re_tokenStart : Int32) (Re_tokenEnd : Int32) (Te_kind : Nat → Int32) (Te_amount : Nat → Int32) (Te_mark : Nat → Int32) (Te_clauses : Int32) (x2 : Int32) (hf : f_X3_readClause_32 Ta_bytes Ta_length Re_tokenStart Re_tokenEnd Te_kind Te_amount Te_mark Te_clauses x2 = some X) : ∀ (H : Heap) (locs : List Loc) (ls : Array Slot), va_P D vwCl (wX3 cy qRe (qTa 0) Re_tokenStart Re_tokenEnd ++ (wX4 cy qTa Ta_bytes Ta_length ++ (wX5 cy qTe Te_kind Te_amount Te_mark Te_clauses))) H → va_D A (wX3 cy qRe (qTa 0) Re_tokenStart Re_tokenEnd ++ (wX4 cy qTa Ta_bytes Ta_length ++ (wX5 cy qTe Te_kind Te_amount Te_mark Te_clauses))) → va_S A s.heap H locs → lv_has ls 6 [(0, .ref (qRe 0)), (1, .ref (qTe 0)), (2, .int x2)] → W p l e ({ frames := 6, cells := 0, slots := 0, locals := 128 } : Room) s m args below meth c H locs 0 0 (MQ below (va_Qi (fun (r : Int32) (u : (Int32) × (Int32) × (Nat → Int32) × (Nat → Int32) × (Nat → Int32) × (Int32)) => r = X.1 ∧ u = X.2) (fun u t => BW D cy A (wX3 cy qRe (qTa 0) u.1 u.2.1 ++ (wX4 cy qTa Ta_bytes Ta_length ++ (wX5 cy qTe u.2.2.1 u.2.2.2.1 u.2.2.2.2.1 u.2.2.2.2.2))) t) A) args s 0 0 A) (F0 m 32 ls []) := by
  obtain ⟨hx, hb, hr, hml, hown, hts, hK, hA, hN, hlocks⟩ := id C0
  intro H locs ls hP hD hS hl
  unfold f_X3_readClause_32 at hf
  refine lv_aload_n hx hb dX3_readClause_32 rfl (lv_at hl 0 rfl) ?_
  obtain ⟨u2, eu2, hf⟩ := Option.bind_eq_some_iff.mp hf
  refine cq_i (wc' := fun (u : Unit) => (wX3 cy qRe (qTa 0) Re_tokenStart Re_tokenEnd ++ (wX4 cy qTa Ta_bytes Ta_length))) (ws' := fun (u : Unit) => (wX3 cy qRe (qTa 0) Re_tokenStart Re_tokenEnd ++ (wX4 cy qTa Ta_bytes Ta_length ++ (wX5 cy qTe Te_kind Te_amount Te_mark Te_clauses)))) (wc := (wX3 cy qRe (qTa 0) Re_tokenStart Re_tokenEnd ++ (wX4 cy qTa Ta_bytes Ta_length))) (wr := (wX5 cy qTe Te_kind Te_amount Te_mark Te_clauses)) C0 hP hD hS [0, 1, 2] [3, 4, 5, 6] [4, 5, 6, 0, 1, 2, 3] rfl rfl (by decide) (by decide) (by decide) (fun _ => rfl) (va_runV (As := []) (rest := []) ⟨hx, hb, hml, hown, hts⟩ (c_X3_numberHere l D cy qRe qTa Re_tokenStart Re_tokenEnd Ta_bytes Ta_length H.size  u2 eu2) (cwV 0 hts gX3_readClause_X3_numberHere rfl rfl rfl (by decide +kernel) ⟨Nat.le_of_ble_eq_true rfl, Nat.le_of_ble_eq_true rfl⟩) (pre_V (hP.sub (ws' := (wX3 cy qRe (qTa 0) Re_tokenStart Re_tokenEnd ++ (wX4 cy qTa Ta_bytes Ta_length))) [0, 1, 2] rfl) hK (hD.sub (ws' := (wX3 cy qRe (qTa 0) Re_tokenStart Re_tokenEnd ++ (wX4 cy qTa Ta_bytes Ta_length))) [0, 1, 2] (by decide) rfl) hN 3 0 rfl rfl) rfl rfl hl.1 rfl (lv_room (Nat.le_of_ble_eq_true rfl)) dX3_readClause_33 ⟨Nat.zero_le _, Nat.zero_le _⟩) (fun r u H locs hw hP hD hS => ?_)
  have hw := hw.symm
  subst hw
  have hP : va_P D vwCl (wX3 cy qRe (qTa 0) Re_tokenStart Re_tokenEnd ++ (wX4 cy qTa Ta_bytes Ta_length ++ (wX5 cy qTe Te_kind Te_amount Te_mark Te_clauses))) H := hP
  have hD : va_D A (wX3 cy qRe (qTa 0) Re_tokenStart Re_tokenEnd ++ (wX4 cy qTa Ta_bytes Ta_length ++ (wX5 cy qTe Te_kind Te_amount Te_mark Te_clauses))) := hD
  refine lv_istore_n (lv' := [(3, .int u2), (0, .ref (qRe 0)), (1, .ref (qTe 0)), (2, .int x2)]) hx hb dX3_readClause_36 rfl hl (by decide) rfl (fun ls hl => ?_)
  refine lv_iload_n hx hb dX3_readClause_37 rfl (lv_at hl 0 rfl) ?_
  refine lv_iconst (v := (-1 : Int32)) hx hb dX3_readClause_38 (by decide) ?_
  refine lv_icmp_ne (tgt := 44) hx hb dX3_readClause_39 (by decide) (fun hc3 => ?_) (fun hc3 => ?_)
  · have hf := iff_ hf hc3
    refine lv_aload_n hx hb dX3_readClause_44 rfl (lv_at hl 1 rfl) ?_
    obtain ⟨u4, eu4, hf⟩ := Option.bind_eq_some_iff.mp hf
    refine cq_v (wc' := fun (u : (Int32) × (Int32)) => (wX3 cy qRe (qTa 0) u.1 u.2 ++ (wX4 cy qTa Ta_bytes Ta_length))) (ws' := fun (u : (Int32) × (Int32)) => (wX3 cy qRe (qTa 0) u.1 u.2 ++ (wX4 cy qTa Ta_bytes Ta_length ++ (wX5 cy qTe Te_kind Te_amount Te_mark Te_clauses)))) (wc := (wX3 cy qRe (qTa 0) Re_tokenStart Re_tokenEnd ++ (wX4 cy qTa Ta_bytes Ta_length))) (wr := (wX5 cy qTe Te_kind Te_amount Te_mark Te_clauses)) C0 hP hD hS [0, 1, 2] [3, 4, 5, 6] [4, 5, 6, 0, 1, 2, 3] rfl rfl (by decide) (by decide) (by decide) (fun _ => rfl) (va_runV (As := []) (rest := []) ⟨hx, hb, hml, hown, hts⟩ (c_X3_advance l D cy qRe qTa Re_tokenStart Re_tokenEnd Ta_bytes Ta_length H.size  u4 eu4) (cwV 0 hts gX3_readClause_X3_advance rfl rfl rfl (by decide +kernel) ⟨Nat.le_of_ble_eq_true rfl, Nat.le_of_ble_eq_true rfl⟩) (pre_V (hP.sub (ws' := (wX3 cy qRe (qTa 0) Re_tokenStart Re_tokenEnd ++ (wX4 cy qTa Ta_bytes Ta_length))) [0, 1, 2] rfl) hK (hD.sub (ws' := (wX3 cy qRe (qTa 0) Re_tokenStart Re_tokenEnd ++ (wX4 cy qTa Ta_bytes Ta_length))) [0, 1, 2] (by decide) rfl) hN 3 0 rfl rfl) rfl rfl hl.1 rfl (lv_room (Nat.le_of_ble_eq_true rfl)) dX3_readClause_45 ⟨Nat.zero_le _, Nat.zero_le _⟩) (fun u H locs hw hP hD hS => ?_)
    have hw := hw.symm
    subst hw
    have hP : va_P D vwCl (wX3 cy qRe (qTa 0) u4.1 u4.2 ++ (wX4 cy qTa Ta_bytes Ta_length ++ (wX5 cy qTe Te_kind Te_amount Te_mark Te_clauses))) H := hP
    have hD : va_D A (wX3 cy qRe (qTa 0) u4.1 u4.2 ++ (wX4 cy qTa Ta_bytes Ta_length ++ (wX5 cy qTe Te_kind Te_amount Te_mark Te_clauses))) := hD
    refine lv_iconst (v := (0 : Int32)) hx hb dX3_readClause_48 (by decide) ?_
    refine lv_istore (lv' := [(4, .int (0 : Int32)), (3, .int u2), (0, .ref (qRe 0)), (1, .ref (qTe 0)), (2, .int x2)]) hx hb dX3_readClause_49 hl (by decide) rfl (fun ls hl => ?_)
    refine lv_iload_n hx hb dX3_readClause_51 rfl (lv_at hl 4 rfl) ?_
    obtain ⟨u5, eu5, hf⟩ := Option.bind_eq_some_iff.mp hf
    refine cq_r (adK := adK) C0 hP hD hS (va_runS (As := [.int x2]) (rest := []) ⟨hx, hb, hml, hown, hts⟩ (c_X5_wordBetween l adK adV D cy   H.size x2 u5 eu5) (va_cwS 1 hts gX3_readClause_X5_wordBetween rfl rfl rfl (by decide +kernel) ⟨Nat.le_of_ble_eq_true rfl, Nat.le_of_ble_eq_true rfl⟩) (preS_S hSW hS (va_free (wc := ([] : va_W)) hD hS hA [] rfl) (hP.sub (ws' := ([] : va_W)) [] rfl) hK (hD.sub (ws' := ([] : va_W)) [] (by decide) rfl) hN) rfl rfl hl.1 rfl (lv_room (Nat.le_of_ble_eq_true rfl)) dX3_readClause_52 ⟨Nat.zero_le _, Nat.zero_le _⟩) (fun u H locs hw hP hS => ?_)
    have hw := hw.symm
    subst hw
    refine lv_astore (lv' := [(5, .ref (adK u5)), (4, .int (0 : Int32)), (3, .int u2), (0, .ref (qRe 0)), (1, .ref (qTe 0)), (2, .int x2)]) hx hb dX3_readClause_55 hl (by decide) rfl (fun ls hl => ?_)
    refine lv_aload hx hb dX3_readClause_57 (lv_at hl 0 rfl) ?_
    obtain ⟨hz6, hf⟩ := ifn hf
    refine cq_i0 C0 hP hS (va_runV (As := []) (rest := []) ⟨hx, hb, hml, hown, hts⟩ (c_J_isEmpty l D cy adK adV u5 _ hz6) (cwV 0 hts gX3_readClause_J0_isEmpty_aae02 rfl rfl rfl (by decide +kernel) ⟨Nat.le_of_ble_eq_true rfl, Nat.le_of_ble_eq_true rfl⟩) (preS_J hSW hz6 hS (freeNil hS hA) hK hN) rfl rfl hl.1 rfl (lv_room (Nat.le_of_ble_eq_true rfl)) dX3_readClause_59 ⟨Nat.zero_le _, Nat.zero_le _⟩) (fun r H locs hw hP hS => ?_)
    subst hw
    refine lv_if_ne (tgt := 94) hx hb dX3_readClause_62 (by decide) (fun hc7 => ?_) (fun hc7 => ?_)
    · have hf := iff_ hf hc7
      exact w_X3_readClause_94 C0 hSW  u4.1 u4.2 Te_kind Te_amount Te_mark Te_clauses x2 u2 (0 : Int32) hf H locs ls hP hD hS (lv_sub hl [4, 5, 2, 1] rfl)
    · have hf := ift hf hc7
      refine lv_aload_n hx hb dX3_readClause_65 rfl (lv_at hl 3 rfl) ?_
      refine lv_aload hx hb dX3_readClause_66 (lv_at hl 0 rfl) ?_
      obtain ⟨u8, eu8, hf⟩ := Option.bind_eq_some_iff.mp hf
      refine cq_i (wc' := fun (u : (Int32) × (Int32)) => (wX3 cy qRe (qTa 0) u.1 u.2 ++ (wX4 cy qTa Ta_bytes Ta_length))) (ws' := fun (u : (Int32) × (Int32)) => (wX3 cy qRe (qTa 0) u.1 u.2 ++ (wX4 cy qTa Ta_bytes Ta_length ++ (wX5 cy qTe Te_kind Te_amount Te_mark Te_clauses)))) (wc := (wX3 cy qRe (qTa 0) u4.1 u4.2 ++ (wX4 cy qTa Ta_bytes Ta_length))) (wr := (wX5 cy qTe Te_kind Te_amount Te_mark Te_clauses)) C0 hP hD hS [0, 1, 2] [3, 4, 5, 6] [4, 5, 6, 0, 1, 2, 3] rfl rfl (by decide) (by decide) (by decide) (fun _ => rfl) (va_runV (As := [.ref (adK u5)]) (rest := []) ⟨hx, hb, hml, hown, hts⟩ (c_X3_passes l adK adV D cy qRe qTa u4.1 u4.2 Ta_bytes Ta_length H.size u5 u8 eu8) (cwV 1 hts gX3_readClause_X3_passes rfl rfl rfl (by decide +kernel) ⟨Nat.le_of_ble_eq_true rfl, Nat.le_of_ble_eq_true rfl⟩) (preS_V hSW hS (va_free (wc := (wX3 cy qRe (qTa 0) u4.1 u4.2 ++ (wX4 cy qTa Ta_bytes Ta_length))) hD hS hA [0, 1, 2] rfl) (hP.sub (ws' := (wX3 cy qRe (qTa 0) u4.1 u4.2 ++ (wX4 cy qTa Ta_bytes Ta_length))) [0, 1, 2] rfl) hK (hD.sub (ws' := (wX3 cy qRe (qTa 0) u4.1 u4.2 ++ (wX4 cy qTa Ta_bytes Ta_length))) [0, 1, 2] (by decide) rfl) hN 3 0 rfl rfl) rfl rfl hl.1 rfl (lv_room (Nat.le_of_ble_eq_true rfl)) dX3_readClause_68 ⟨Nat.zero_le _, Nat.zero_le _⟩) (fun r u H locs hw hP hD hS => ?_)
      obtain ⟨rfl, rfl⟩ := hw
      have hP : va_P D vwCl (wX3 cy qRe (qTa 0) u8.2.1 u8.2.2 ++ (wX4 cy qTa Ta_bytes Ta_length ++ (wX5 cy qTe Te_kind Te_amount Te_mark Te_clauses))) H := hP
      have hD : va_D A (wX3 cy qRe (qTa 0) u8.2.1 u8.2.2 ++ (wX4 cy qTa Ta_bytes Ta_length ++ (wX5 cy qTe Te_kind Te_amount Te_mark Te_clauses))) := hD
      refine lv_if_ne (tgt := 76) hx hb dX3_readClause_71 (by decide) (fun hc9 => ?_) (fun hc9 => ?_)
      · have hf := iff_ hf hc9
        refine lv_aload_n hx hb dX3_readClause_76 rfl (lv_at hl 3 rfl) ?_
        obtain ⟨u10, eu10, hf⟩ := Option.bind_eq_some_iff.mp hf
        refine cq_i (wc' := fun (u : Unit) => (wX3 cy qRe (qTa 0) u8.2.1 u8.2.2 ++ (wX4 cy qTa Ta_bytes Ta_length))) (ws' := fun (u : Unit) => (wX3 cy qRe (qTa 0) u8.2.1 u8.2.2 ++ (wX4 cy qTa Ta_bytes Ta_length ++ (wX5 cy qTe Te_kind Te_amount Te_mark Te_clauses)))) (wc := (wX3 cy qRe (qTa 0) u8.2.1 u8.2.2 ++ (wX4 cy qTa Ta_bytes Ta_length))) (wr := (wX5 cy qTe Te_kind Te_amount Te_mark Te_clauses)) C0 hP hD hS [0, 1, 2] [3, 4, 5, 6] [4, 5, 6, 0, 1, 2, 3] rfl rfl (by decide) (by decide) (by decide) (fun _ => rfl) (va_runV (As := []) (rest := []) ⟨hx, hb, hml, hown, hts⟩ (c_X3_numberHere l D cy qRe qTa u8.2.1 u8.2.2 Ta_bytes Ta_length H.size  u10 eu10) (cwV 0 hts gX3_readClause_X3_numberHere rfl rfl rfl (by decide +kernel) ⟨Nat.le_of_ble_eq_true rfl, Nat.le_of_ble_eq_true rfl⟩) (pre_V (hP.sub (ws' := (wX3 cy qRe (qTa 0) u8.2.1 u8.2.2 ++ (wX4 cy qTa Ta_bytes Ta_length))) [0, 1, 2] rfl) hK (hD.sub (ws' := (wX3 cy qRe (qTa 0) u8.2.1 u8.2.2 ++ (wX4 cy qTa Ta_bytes Ta_length))) [0, 1, 2] (by decide) rfl) hN 3 0 rfl rfl) rfl rfl hl.1 rfl (lv_room (Nat.le_of_ble_eq_true rfl)) dX3_readClause_77 ⟨Nat.zero_le _, Nat.zero_le _⟩) (fun r u H locs hw hP hD hS => ?_)
        have hw := hw.symm
        subst hw
        have hP : va_P D vwCl (wX3 cy qRe (qTa 0) u8.2.1 u8.2.2 ++ (wX4 cy qTa Ta_bytes Ta_length ++ (wX5 cy qTe Te_kind Te_amount Te_mark Te_clauses))) H := hP
        have hD : va_D A (wX3 cy qRe (qTa 0) u8.2.1 u8.2.2 ++ (wX4 cy qTa Ta_bytes Ta_length ++ (wX5 cy qTe Te_kind Te_amount Te_mark Te_clauses))) := hD
        refine lv_istore (lv' := [(4, .int u10), (5, .ref (adK u5)), (3, .int u2), (0, .ref (qRe 0)), (1, .ref (qTe 0)), (2, .int x2)]) hx hb dX3_readClause_80 hl (by decide) rfl (fun ls hl => ?_)
        refine lv_iload hx hb dX3_readClause_82 (lv_at hl 0 rfl) ?_
        refine lv_iconst (v := (-1 : Int32)) hx hb dX3_readClause_84 (by decide) ?_
        refine lv_icmp_ne (tgt := 90) hx hb dX3_readClause_85 (by decide) (fun hc11 => ?_) (fun hc11 => ?_)
        · have hf := iff_ hf hc11
          refine lv_aload_n hx hb dX3_readClause_90 rfl (lv_at hl 3 rfl) ?_
          obtain ⟨u12, eu12, hf⟩ := Option.bind_eq_some_iff.mp hf
          refine cq_v (wc' := fun (u : (Int32) × (Int32)) => (wX3 cy qRe (qTa 0) u.1 u.2 ++ (wX4 cy qTa Ta_bytes Ta_length))) (ws' := fun (u : (Int32) × (Int32)) => (wX3 cy qRe (qTa 0) u.1 u.2 ++ (wX4 cy qTa Ta_bytes Ta_length ++ (wX5 cy qTe Te_kind Te_amount Te_mark Te_clauses)))) (wc := (wX3 cy qRe (qTa 0) u8.2.1 u8.2.2 ++ (wX4 cy qTa Ta_bytes Ta_length))) (wr := (wX5 cy qTe Te_kind Te_amount Te_mark Te_clauses)) C0 hP hD hS [0, 1, 2] [3, 4, 5, 6] [4, 5, 6, 0, 1, 2, 3] rfl rfl (by decide) (by decide) (by decide) (fun _ => rfl) (va_runV (As := []) (rest := []) ⟨hx, hb, hml, hown, hts⟩ (c_X3_advance l D cy qRe qTa u8.2.1 u8.2.2 Ta_bytes Ta_length H.size  u12 eu12) (cwV 0 hts gX3_readClause_X3_advance rfl rfl rfl (by decide +kernel) ⟨Nat.le_of_ble_eq_true rfl, Nat.le_of_ble_eq_true rfl⟩) (pre_V (hP.sub (ws' := (wX3 cy qRe (qTa 0) u8.2.1 u8.2.2 ++ (wX4 cy qTa Ta_bytes Ta_length))) [0, 1, 2] rfl) hK (hD.sub (ws' := (wX3 cy qRe (qTa 0) u8.2.1 u8.2.2 ++ (wX4 cy qTa Ta_bytes Ta_length))) [0, 1, 2] (by decide) rfl) hN 3 0 rfl rfl) rfl rfl hl.1 rfl (lv_room (Nat.le_of_ble_eq_true rfl)) dX3_readClause_91 ⟨Nat.zero_le _, Nat.zero_le _⟩) (fun u H locs hw hP hD hS => ?_)
          have hw := hw.symm
          subst hw
          have hP : va_P D vwCl (wX3 cy qRe (qTa 0) u12.1 u12.2 ++ (wX4 cy qTa Ta_bytes Ta_length ++ (wX5 cy qTe Te_kind Te_amount Te_mark Te_clauses))) H := hP
          have hD : va_D A (wX3 cy qRe (qTa 0) u12.1 u12.2 ++ (wX4 cy qTa Ta_bytes Ta_length ++ (wX5 cy qTe Te_kind Te_amount Te_mark Te_clauses))) := hD
          exact w_X3_readClause_94 C0 hSW  u12.1 u12.2 Te_kind Te_amount Te_mark Te_clauses x2 u2 u10 hf H locs ls hP hD hS (lv_sub hl [4, 5, 2, 0] rfl)
        · have hf := ift hf hc11
          refine lv_iconst (v := (0 : Int32)) hx hb dX3_readClause_88 (by decide) ?_
          exact rq_z C0 (by decide) (u8.2.1, u8.2.2, Te_kind, Te_amount, Te_mark, Te_clauses) (pr_2 hf) hP hD hS dX3_readClause_89
      · have hf := ift hf hc9
        refine lv_iconst (v := (0 : Int32)) hx hb dX3_readClause_74 (by decide) ?_
        exact rq_z C0 (by decide) (u8.2.1, u8.2.2, Te_kind, Te_amount, Te_mark, Te_clauses) (pr_2 hf) hP hD hS dX3_readClause_75
  · have hf := ift hf hc3
    refine lv_iconst (v := (0 : Int32)) hx hb dX3_readClause_42 (by decide) ?_
    exact rq_z C0 (by decide) (Re_tokenStart, Re_tokenEnd, Te_kind, Te_amount, Te_mark, Te_clauses) (pr_2 hf) hP hD hS dX3_readClause_43

set_option maxHeartbeats 4000000 in
set_option maxRecDepth 100000 in
theorem c_X3_readClause (l : Launch) (adK adV : Nat → Nat) (D : va_G) (cy : Nat → ClassId) (qRe qTa qTe : Nat → Nat) (Re_tokenStart : Int32) (Re_tokenEnd : Int32) (Ta_bytes : Nat → Int32) (Ta_length : Int32) (Te_kind : Nat → Int32) (Te_amount : Nat → Int32) (Te_mark : Nat → Int32) (Te_clauses : Int32) (sz : Nat)  (X : Int32 × (Int32) × (Int32) × (Nat → Int32) × (Nat → Int32) × (Nat → Int32) × (Int32)) (hf : f_X3_readClause Re_tokenStart Re_tokenEnd Ta_bytes Ta_length Te_kind Te_amount Te_mark Te_clauses = some X) : Met l yX3_readClause wsX3_readClause ({ frames := 6, cells := 0, slots := 0, locals := 128 } : Room) (va_Pc [.ref (qRe 0), .ref (qTe 0)] (PWS adK adV D cy (wX3 cy qRe (qTa 0) Re_tokenStart Re_tokenEnd ++ (wX4 cy qTa Ta_bytes Ta_length ++ (wX5 cy qTe Te_kind Te_amount Te_mark Te_clauses))) sz)) (va_Qi (fun (r : Int32) (u : (Int32) × (Int32) × (Nat → Int32) × (Nat → Int32) × (Nat → Int32) × (Int32)) => r = X.1 ∧ u = X.2) (fun u t => BW D cy (va_A (wX3 cy qRe (qTa 0) Re_tokenStart Re_tokenEnd ++ (wX4 cy qTa Ta_bytes Ta_length ++ (wX5 cy qTe Te_kind Te_amount Te_mark Te_clauses))) sz) (wX3 cy qRe (qTa 0) u.1 u.2.1 ++ (wX4 cy qTa Ta_bytes Ta_length ++ (wX5 cy qTe u.2.2.1 u.2.2.2.1 u.2.2.2.2.1 u.2.2.2.2.2))) t) (va_A (wX3 cy qRe (qTa 0) Re_tokenStart Re_tokenEnd ++ (wX4 cy qTa Ta_bytes Ta_length ++ (wX5 cy qTe Te_kind Te_amount Te_mark Te_clauses))) sz)) 0 0 (va_A (wX3 cy qRe (qTa 0) Re_tokenStart Re_tokenEnd ++ (wX4 cy qTa Ta_bytes Ta_length ++ (wX5 cy qTe Te_kind Te_amount Te_mark Te_clauses))) sz) := by
  refine met_enterS (Qc := fun A => (va_Qi (fun (r : Int32) (u : (Int32) × (Int32) × (Nat → Int32) × (Nat → Int32) × (Nat → Int32) × (Int32)) => r = X.1 ∧ u = X.2) (fun u t => BW D cy A (wX3 cy qRe (qTa 0) u.1 u.2.1 ++ (wX4 cy qTa Ta_bytes Ta_length ++ (wX5 cy qTe u.2.2.1 u.2.2.2.1 u.2.2.2.2.1 u.2.2.2.2.2))) t) A)) (lv0 := [(0, .ref (qRe 0)), (1, .ref (qTe 0))]) (by decide) rfl (Nat.le_of_ble_eq_true rfl) rfl ?_
  intro p e s m below meth c A ls hSW C0 hP hD hS hl
  generalize hH : s.heap = H at hP ⊢
  generalize hLoc : ([] : List Loc) = locs at hS ⊢
  have hS : va_S A s.heap H locs := by rw [← hH]; exact hS
  have C0 : CX cX3_readClause 6 (some .boolean) RX3 wsX3_readClause D cy p s m _ meth c A := C0
  obtain ⟨hx, hb, hr, hml, hown, hts, hK, hA, hN, hlocks⟩ := id C0
  unfold f_X3_readClause at hf
  refine lv_aload_n hx hb dX3_readClause_0 rfl (lv_at hl 0 rfl) ?_
  obtain ⟨u13, eu13, hf⟩ := Option.bind_eq_some_iff.mp hf
  refine cq_i (wc' := fun (u : Unit) => (wX3 cy qRe (qTa 0) Re_tokenStart Re_tokenEnd ++ (wX4 cy qTa Ta_bytes Ta_length))) (ws' := fun (u : Unit) => (wX3 cy qRe (qTa 0) Re_tokenStart Re_tokenEnd ++ (wX4 cy qTa Ta_bytes Ta_length ++ (wX5 cy qTe Te_kind Te_amount Te_mark Te_clauses)))) (wc := (wX3 cy qRe (qTa 0) Re_tokenStart Re_tokenEnd ++ (wX4 cy qTa Ta_bytes Ta_length))) (wr := (wX5 cy qTe Te_kind Te_amount Te_mark Te_clauses)) C0 hP hD hS [0, 1, 2] [3, 4, 5, 6] [4, 5, 6, 0, 1, 2, 3] rfl rfl (by decide) (by decide) (by decide) (fun _ => rfl) (va_runV (As := []) (rest := []) ⟨hx, hb, hml, hown, hts⟩ (c_X3_kindHere l adK adV D cy qRe qTa Re_tokenStart Re_tokenEnd Ta_bytes Ta_length H.size  u13 eu13) (cwV 0 hts gX3_readClause_X3_kindHere rfl rfl rfl (by decide +kernel) ⟨Nat.le_of_ble_eq_true rfl, Nat.le_of_ble_eq_true rfl⟩) (preS_V hSW hS (va_free (wc := (wX3 cy qRe (qTa 0) Re_tokenStart Re_tokenEnd ++ (wX4 cy qTa Ta_bytes Ta_length))) hD hS hA [0, 1, 2] rfl) (hP.sub (ws' := (wX3 cy qRe (qTa 0) Re_tokenStart Re_tokenEnd ++ (wX4 cy qTa Ta_bytes Ta_length))) [0, 1, 2] rfl) hK (hD.sub (ws' := (wX3 cy qRe (qTa 0) Re_tokenStart Re_tokenEnd ++ (wX4 cy qTa Ta_bytes Ta_length))) [0, 1, 2] (by decide) rfl) hN 3 0 rfl rfl) rfl rfl hl.1 rfl (lv_room (Nat.le_of_ble_eq_true rfl)) dX3_readClause_1 ⟨Nat.zero_le _, Nat.zero_le _⟩) (fun r u H locs hw hP hD hS => ?_)
  have hw := hw.symm
  subst hw
  have hP : va_P D vwCl (wX3 cy qRe (qTa 0) Re_tokenStart Re_tokenEnd ++ (wX4 cy qTa Ta_bytes Ta_length ++ (wX5 cy qTe Te_kind Te_amount Te_mark Te_clauses))) H := hP
  have hD : va_D A (wX3 cy qRe (qTa 0) Re_tokenStart Re_tokenEnd ++ (wX4 cy qTa Ta_bytes Ta_length ++ (wX5 cy qTe Te_kind Te_amount Te_mark Te_clauses))) := hD
  refine lv_istore_n (lv' := [(2, .int u13), (0, .ref (qRe 0)), (1, .ref (qTe 0))]) hx hb dX3_readClause_4 rfl hl (by decide) rfl (fun ls hl => ?_)
  refine lv_iload_n hx hb dX3_readClause_5 rfl (lv_at hl 0 rfl) ?_
  refine lv_iconst (v := (-1 : Int32)) hx hb dX3_readClause_6 (by decide) ?_
  refine lv_icmp_ne (tgt := 12) hx hb dX3_readClause_7 (by decide) (fun hc14 => ?_) (fun hc14 => ?_)
  · have hf := iff_ hf hc14
    refine lv_aload_n hx hb dX3_readClause_12 rfl (lv_at hl 1 rfl) ?_
    obtain ⟨u15, eu15, hf⟩ := Option.bind_eq_some_iff.mp hf
    refine cq_v (wc' := fun (u : (Int32) × (Int32)) => (wX3 cy qRe (qTa 0) u.1 u.2 ++ (wX4 cy qTa Ta_bytes Ta_length))) (ws' := fun (u : (Int32) × (Int32)) => (wX3 cy qRe (qTa 0) u.1 u.2 ++ (wX4 cy qTa Ta_bytes Ta_length ++ (wX5 cy qTe Te_kind Te_amount Te_mark Te_clauses)))) (wc := (wX3 cy qRe (qTa 0) Re_tokenStart Re_tokenEnd ++ (wX4 cy qTa Ta_bytes Ta_length))) (wr := (wX5 cy qTe Te_kind Te_amount Te_mark Te_clauses)) C0 hP hD hS [0, 1, 2] [3, 4, 5, 6] [4, 5, 6, 0, 1, 2, 3] rfl rfl (by decide) (by decide) (by decide) (fun _ => rfl) (va_runV (As := []) (rest := []) ⟨hx, hb, hml, hown, hts⟩ (c_X3_advance l D cy qRe qTa Re_tokenStart Re_tokenEnd Ta_bytes Ta_length H.size  u15 eu15) (cwV 0 hts gX3_readClause_X3_advance rfl rfl rfl (by decide +kernel) ⟨Nat.le_of_ble_eq_true rfl, Nat.le_of_ble_eq_true rfl⟩) (pre_V (hP.sub (ws' := (wX3 cy qRe (qTa 0) Re_tokenStart Re_tokenEnd ++ (wX4 cy qTa Ta_bytes Ta_length))) [0, 1, 2] rfl) hK (hD.sub (ws' := (wX3 cy qRe (qTa 0) Re_tokenStart Re_tokenEnd ++ (wX4 cy qTa Ta_bytes Ta_length))) [0, 1, 2] (by decide) rfl) hN 3 0 rfl rfl) rfl rfl hl.1 rfl (lv_room (Nat.le_of_ble_eq_true rfl)) dX3_readClause_13 ⟨Nat.zero_le _, Nat.zero_le _⟩) (fun u H locs hw hP hD hS => ?_)
    have hw := hw.symm
    subst hw
    have hP : va_P D vwCl (wX3 cy qRe (qTa 0) u15.1 u15.2 ++ (wX4 cy qTa Ta_bytes Ta_length ++ (wX5 cy qTe Te_kind Te_amount Te_mark Te_clauses))) H := hP
    have hD : va_D A (wX3 cy qRe (qTa 0) u15.1 u15.2 ++ (wX4 cy qTa Ta_bytes Ta_length ++ (wX5 cy qTe Te_kind Te_amount Te_mark Te_clauses))) := hD
    refine lv_iload_n hx hb dX3_readClause_16 rfl (lv_at hl 0 rfl) ?_
    refine lv_iconst (v := (1 : Int32)) hx hb dX3_readClause_17 (by decide) ?_
    refine lv_icmp_ne (tgt := 32) hx hb dX3_readClause_18 (by decide) (fun hc16 => ?_) (fun hc16 => ?_)
    · have hf := iff_ hf hc16
      exact w_X3_readClause_32 C0 hSW  u15.1 u15.2 Te_kind Te_amount Te_mark Te_clauses u13 hf H locs ls hP hD hS (lv_sub hl [1, 2, 0] rfl)
    · have hf := ift hf hc16
      refine lv_aload_n hx hb dX3_readClause_21 rfl (lv_at hl 1 rfl) ?_
      refine va_ldcS hx hb hown (hSW.2.1 8 (RX3, 48, "ton") rfl) dX3_readClause_22 ?_
      obtain ⟨u17, eu17, hf⟩ := Option.bind_eq_some_iff.mp hf
      refine cq_i (wc' := fun (u : (Int32) × (Int32)) => (wX3 cy qRe (qTa 0) u.1 u.2 ++ (wX4 cy qTa Ta_bytes Ta_length))) (ws' := fun (u : (Int32) × (Int32)) => (wX3 cy qRe (qTa 0) u.1 u.2 ++ (wX4 cy qTa Ta_bytes Ta_length ++ (wX5 cy qTe Te_kind Te_amount Te_mark Te_clauses)))) (wc := (wX3 cy qRe (qTa 0) u15.1 u15.2 ++ (wX4 cy qTa Ta_bytes Ta_length))) (wr := (wX5 cy qTe Te_kind Te_amount Te_mark Te_clauses)) C0 hP hD hS [0, 1, 2] [3, 4, 5, 6] [4, 5, 6, 0, 1, 2, 3] rfl rfl (by decide) (by decide) (by decide) (fun _ => rfl) (va_runV (As := [.ref (adK (8 : Nat))]) (rest := []) ⟨hx, hb, hml, hown, hts⟩ (c_X3_passes l adK adV D cy qRe qTa u15.1 u15.2 Ta_bytes Ta_length H.size (8 : Nat) u17 eu17) (cwV 1 hts gX3_readClause_X3_passes rfl rfl rfl (by decide +kernel) ⟨Nat.le_of_ble_eq_true rfl, Nat.le_of_ble_eq_true rfl⟩) (preS_V hSW hS (va_free (wc := (wX3 cy qRe (qTa 0) u15.1 u15.2 ++ (wX4 cy qTa Ta_bytes Ta_length))) hD hS hA [0, 1, 2] rfl) (hP.sub (ws' := (wX3 cy qRe (qTa 0) u15.1 u15.2 ++ (wX4 cy qTa Ta_bytes Ta_length))) [0, 1, 2] rfl) hK (hD.sub (ws' := (wX3 cy qRe (qTa 0) u15.1 u15.2 ++ (wX4 cy qTa Ta_bytes Ta_length))) [0, 1, 2] (by decide) rfl) hN 3 0 rfl rfl) rfl rfl hl.1 rfl (lv_room (Nat.le_of_ble_eq_true rfl)) dX3_readClause_24 ⟨Nat.zero_le _, Nat.zero_le _⟩) (fun r u H locs hw hP hD hS => ?_)
      obtain ⟨rfl, rfl⟩ := hw
      have hP : va_P D vwCl (wX3 cy qRe (qTa 0) u17.2.1 u17.2.2 ++ (wX4 cy qTa Ta_bytes Ta_length ++ (wX5 cy qTe Te_kind Te_amount Te_mark Te_clauses))) H := hP
      have hD : va_D A (wX3 cy qRe (qTa 0) u17.2.1 u17.2.2 ++ (wX4 cy qTa Ta_bytes Ta_length ++ (wX5 cy qTe Te_kind Te_amount Te_mark Te_clauses))) := hD
      refine lv_if_ne (tgt := 32) hx hb dX3_readClause_27 (by decide) (fun hc18 => ?_) (fun hc18 => ?_)
      · have hf := iff_ hf hc18
        exact w_X3_readClause_32 C0 hSW  u17.2.1 u17.2.2 Te_kind Te_amount Te_mark Te_clauses u13 hf H locs ls hP hD hS (lv_sub hl [1, 2, 0] rfl)
      · have hf := ift hf hc18
        refine lv_iconst (v := (0 : Int32)) hx hb dX3_readClause_30 (by decide) ?_
        exact rq_z C0 (by decide) (u17.2.1, u17.2.2, Te_kind, Te_amount, Te_mark, Te_clauses) (pr_2 hf) hP hD hS dX3_readClause_31
  · have hf := ift hf hc14
    refine lv_iconst (v := (0 : Int32)) hx hb dX3_readClause_10 (by decide) ?_
    exact rq_z C0 (by decide) (Re_tokenStart, Re_tokenEnd, Te_kind, Te_amount, Te_mark, Te_clauses) (pr_2 hf) hP hD hS dX3_readClause_11

theorem i_X3_read_X3 : ∀ w ∈ wsX30, w ∈ wsX3_read := by decide +kernel
theorem m_X3_read_f35 : Cond.fieldLink RX3 35 "SailCargo$Reader" "tokenStart" "I" ∈ wsX3_read := by decide +kernel
theorem i_X3_read_X5 : ∀ w ∈ wsX50, w ∈ wsX3_read := by decide +kernel
theorem m_X3_read_f21 : Cond.fieldLink RX3 21 "SailCargo$Reader" "tokenEnd" "I" ∈ wsX3_read := by decide +kernel
set_option maxHeartbeats 4000000 in
set_option maxRecDepth 100000 in
theorem w_X3_read_25 {p : Program} {l : Launch} {e : Env} {s : State} {m : MethodId} {args : Array Value} {below : List Frame} {meth : Method} {c : Code} {A : Nat → Prop} {D : va_G} {cy : Nat → ClassId} {adK adV : Nat → Nat} {qRe qTa qTe : Nat → Nat} {Ta_bytes : Nat → Int32} {Ta_length : Int32} {X : Int32 × (Int32) × (Int32) × (Nat → Int32) × (Nat → Int32) × (Nat → Int32) × (Int32)}  (C0 : CX cX3_read 3 (some .int) RX3 wsX3_read D cy p s m args meth c A) (hSW : SW adK adV A s s.heap)  : ∀ (n : Nat) (Re_tokenStart : Int32) (Re_tokenEnd : Int32) (Te_kind : Nat → Int32) (Te_amount : Nat → Int32) (Te_mark : Nat → Int32) (Te_clauses : Int32) (x2 : Int32), g_X3_read_25 Ta_bytes Ta_length n Re_tokenStart Re_tokenEnd Te_kind Te_amount Te_mark Te_clauses x2 = some X → ∀ (H : Heap) (locs : List Loc) (ls : Array Slot), va_P D vwCl (wX3 cy qRe (qTa 0) Re_tokenStart Re_tokenEnd ++ (wX4 cy qTa Ta_bytes Ta_length ++ (wX5 cy qTe Te_kind Te_amount Te_mark Te_clauses))) H → va_D A (wX3 cy qRe (qTa 0) Re_tokenStart Re_tokenEnd ++ (wX4 cy qTa Ta_bytes Ta_length ++ (wX5 cy qTe Te_kind Te_amount Te_mark Te_clauses))) → va_S A s.heap H locs → lv_has ls 3 [(0, .ref (qRe 0)), (1, .ref (qTe 0)), (2, .int x2)] → W p l e ({ frames := 7, cells := 0, slots := 0, locals := 153 } : Room) s m args below meth c H locs 0 0 (MQ below (va_Qi (fun (r : Int32) (u : (Int32) × (Int32) × (Nat → Int32) × (Nat → Int32) × (Nat → Int32) × (Int32)) => r = X.1 ∧ u = X.2) (fun u t => BW D cy A (wX3 cy qRe (qTa 0) u.1 u.2.1 ++ (wX4 cy qTa Ta_bytes Ta_length ++ (wX5 cy qTe u.2.2.1 u.2.2.2.1 u.2.2.2.2.1 u.2.2.2.2.2))) t) A) args s 0 0 A) (F0 m 25 ls []) := by
  obtain ⟨hx, hb, hr, hml, hown, hts, hK, hA, hN, hlocks⟩ := id C0
  intro n
  induction n with
  | zero => intro Re_tokenStart Re_tokenEnd Te_kind Te_amount Te_mark Te_clauses x2 hf; exact (no_some hf).elim
  | succ n hk25 =>
    intro Re_tokenStart Re_tokenEnd Te_kind Te_amount Te_mark Te_clauses x2 hf H locs ls hP hD hS hl
    have hf : f_X3_read_25 Ta_bytes Ta_length (fun Re_tokenStart Re_tokenEnd Te_kind Te_amount Te_mark Te_clauses x2 => g_X3_read_25 Ta_bytes Ta_length n Re_tokenStart Re_tokenEnd Te_kind Te_amount Te_mark Te_clauses x2) Re_tokenStart Re_tokenEnd Te_kind Te_amount Te_mark Te_clauses x2 = some X := hf
    unfold f_X3_read_25 at hf
    refine lv_iload_n hx hb dX3_read_25 rfl (lv_at hl 2 rfl) ?_
    refine lv_bipush (v := (20 : Int32)) hx hb dX3_read_26 (by decide) ?_
    refine lv_icmp_ge (tgt := 73) hx hb dX3_read_28 (by decide) (fun hc1 => ?_) (fun hc1 => ?_)
    · have hf := ift hf hc1
      refine lv_aload_n hx hb dX3_read_73 rfl (lv_at hl 0 rfl) ?_
      refine va_get (D := D) (ci := 3) (v := .int Re_tokenStart) (C := RX3) (T := TX3) (N := 3) hx hb hts i_X3_read_X3 hown hK hP 0 rfl rfl 1 (by decide) (hts _ m_X3_read_f35) (fun _ h9 => h9) rfl dX3_read_74 ?_
      exact rq_i C0 (Re_tokenStart, Re_tokenEnd, Te_kind, Te_amount, Te_mark, Te_clauses) (pr_2 hf) hP hD hS dX3_read_77
    · have hf := iff_ hf hc1
      refine lv_aload_n hx hb dX3_read_31 rfl (lv_at hl 0 rfl) ?_
      refine lv_aload_n hx hb dX3_read_32 rfl (lv_at hl 1 rfl) ?_
      obtain ⟨u2, eu2, hf⟩ := Option.bind_eq_some_iff.mp hf
      refine cq_i (wc' := fun (u : (Int32) × (Int32) × (Nat → Int32) × (Nat → Int32) × (Nat → Int32) × (Int32)) => (wX3 cy qRe (qTa 0) u.1 u.2.1 ++ (wX4 cy qTa Ta_bytes Ta_length ++ (wX5 cy qTe u.2.2.1 u.2.2.2.1 u.2.2.2.2.1 u.2.2.2.2.2)))) (ws' := fun (u : (Int32) × (Int32) × (Nat → Int32) × (Nat → Int32) × (Nat → Int32) × (Int32)) => (wX3 cy qRe (qTa 0) u.1 u.2.1 ++ (wX4 cy qTa Ta_bytes Ta_length ++ (wX5 cy qTe u.2.2.1 u.2.2.2.1 u.2.2.2.2.1 u.2.2.2.2.2)))) (wc := (wX3 cy qRe (qTa 0) Re_tokenStart Re_tokenEnd ++ (wX4 cy qTa Ta_bytes Ta_length ++ (wX5 cy qTe Te_kind Te_amount Te_mark Te_clauses)))) (wr := ([] : va_W)) C0 hP hD hS [0, 1, 2, 3, 4, 5, 6] [] [0, 1, 2, 3, 4, 5, 6] rfl rfl (by decide) (by decide) (by decide) (fun _ => rfl) (va_runV (As := [.ref (qTe 0)]) (rest := []) ⟨hx, hb, hml, hown, hts⟩ (c_X3_readClause l adK adV D cy qRe qTa qTe Re_tokenStart Re_tokenEnd Ta_bytes Ta_length Te_kind Te_amount Te_mark Te_clauses H.size  u2 eu2) (cwV 1 hts gX3_read_X3_readClause rfl rfl rfl (by decide +kernel) ⟨Nat.le_of_ble_eq_true rfl, Nat.le_of_ble_eq_true rfl⟩) (preS_V hSW hS (va_free (wc := (wX3 cy qRe (qTa 0) Re_tokenStart Re_tokenEnd ++ (wX4 cy qTa Ta_bytes Ta_length ++ (wX5 cy qTe Te_kind Te_amount Te_mark Te_clauses)))) hD hS hA [0, 1, 2, 3, 4, 5, 6] rfl) (hP.sub (ws' := (wX3 cy qRe (qTa 0) Re_tokenStart Re_tokenEnd ++ (wX4 cy qTa Ta_bytes Ta_length ++ (wX5 cy qTe Te_kind Te_amount Te_mark Te_clauses)))) [0, 1, 2, 3, 4, 5, 6] rfl) hK (hD.sub (ws' := (wX3 cy qRe (qTa 0) Re_tokenStart Re_tokenEnd ++ (wX4 cy qTa Ta_bytes Ta_length ++ (wX5 cy qTe Te_kind Te_amount Te_mark Te_clauses)))) [0, 1, 2, 3, 4, 5, 6] (by decide) rfl) hN 3 0 rfl rfl) rfl rfl hl.1 rfl (lv_room (Nat.le_of_ble_eq_true rfl)) dX3_read_33 ⟨Nat.zero_le _, Nat.zero_le _⟩) (fun r u H locs hw hP hD hS => ?_)
      obtain ⟨rfl, rfl⟩ := hw
      have hP : va_P D vwCl (wX3 cy qRe (qTa 0) u2.2.1 u2.2.2.1 ++ (wX4 cy qTa Ta_bytes Ta_length ++ (wX5 cy qTe u2.2.2.2.1 u2.2.2.2.2.1 u2.2.2.2.2.2.1 u2.2.2.2.2.2.2))) H := hP
      have hD : va_D A (wX3 cy qRe (qTa 0) u2.2.1 u2.2.2.1 ++ (wX4 cy qTa Ta_bytes Ta_length ++ (wX5 cy qTe u2.2.2.2.1 u2.2.2.2.2.1 u2.2.2.2.2.2.1 u2.2.2.2.2.2.2))) := hD
      refine lv_if_ne (tgt := 44) hx hb dX3_read_36 (by decide) (fun hc3 => ?_) (fun hc3 => ?_)
      · have hf := iff_ hf hc3
        refine lv_aload_n hx hb dX3_read_44 rfl (lv_at hl 0 rfl) ?_
        obtain ⟨u4, eu4, hf⟩ := Option.bind_eq_some_iff.mp hf
        refine cq_i (wc' := fun (u : Unit) => (wX3 cy qRe (qTa 0) u2.2.1 u2.2.2.1 ++ (wX4 cy qTa Ta_bytes Ta_length))) (ws' := fun (u : Unit) => (wX3 cy qRe (qTa 0) u2.2.1 u2.2.2.1 ++ (wX4 cy qTa Ta_bytes Ta_length ++ (wX5 cy qTe u2.2.2.2.1 u2.2.2.2.2.1 u2.2.2.2.2.2.1 u2.2.2.2.2.2.2)))) (wc := (wX3 cy qRe (qTa 0) u2.2.1 u2.2.2.1 ++ (wX4 cy qTa Ta_bytes Ta_length))) (wr := (wX5 cy qTe u2.2.2.2.1 u2.2.2.2.2.1 u2.2.2.2.2.2.1 u2.2.2.2.2.2.2)) C0 hP hD hS [0, 1, 2] [3, 4, 5, 6] [4, 5, 6, 0, 1, 2, 3] rfl rfl (by decide) (by decide) (by decide) (fun _ => rfl) (va_runV (As := []) (rest := []) ⟨hx, hb, hml, hown, hts⟩ (c_X3_isAtEnd l D cy qRe qTa u2.2.1 u2.2.2.1 Ta_bytes Ta_length H.size  u4 eu4) (cwV 0 hts gX3_read_X3_isAtEnd rfl rfl rfl (by decide +kernel) ⟨Nat.le_of_ble_eq_true rfl, Nat.le_of_ble_eq_true rfl⟩) (pre_V (hP.sub (ws' := (wX3 cy qRe (qTa 0) u2.2.1 u2.2.2.1 ++ (wX4 cy qTa Ta_bytes Ta_length))) [0, 1, 2] rfl) hK (hD.sub (ws' := (wX3 cy qRe (qTa 0) u2.2.1 u2.2.2.1 ++ (wX4 cy qTa Ta_bytes Ta_length))) [0, 1, 2] (by decide) rfl) hN 3 0 rfl rfl) rfl rfl hl.1 rfl (lv_room (Nat.le_of_ble_eq_true rfl)) dX3_read_45 ⟨Nat.zero_le _, Nat.zero_le _⟩) (fun r u H locs hw hP hD hS => ?_)
        have hw := hw.symm
        subst hw
        have hP : va_P D vwCl (wX3 cy qRe (qTa 0) u2.2.1 u2.2.2.1 ++ (wX4 cy qTa Ta_bytes Ta_length ++ (wX5 cy qTe u2.2.2.2.1 u2.2.2.2.2.1 u2.2.2.2.2.2.1 u2.2.2.2.2.2.2))) H := hP
        have hD : va_D A (wX3 cy qRe (qTa 0) u2.2.1 u2.2.2.1 ++ (wX4 cy qTa Ta_bytes Ta_length ++ (wX5 cy qTe u2.2.2.2.1 u2.2.2.2.2.1 u2.2.2.2.2.2.1 u2.2.2.2.2.2.2))) := hD
        refine lv_if_eq (tgt := 53) hx hb dX3_read_48 (by decide) (fun hc5 => ?_) (fun hc5 => ?_)
        · have hf := ift hf hc5
          refine lv_aload_n hx hb dX3_read_53 rfl (lv_at hl 0 rfl) ?_
          refine va_ldcS hx hb hown (hSW.2.1 12 (RX3, 38, ";") rfl) dX3_read_54 ?_
          obtain ⟨u6, eu6, hf⟩ := Option.bind_eq_some_iff.mp hf
          refine cq_i (wc' := fun (u : (Int32) × (Int32)) => (wX3 cy qRe (qTa 0) u.1 u.2 ++ (wX4 cy qTa Ta_bytes Ta_length))) (ws' := fun (u : (Int32) × (Int32)) => (wX3 cy qRe (qTa 0) u.1 u.2 ++ (wX4 cy qTa Ta_bytes Ta_length ++ (wX5 cy qTe u2.2.2.2.1 u2.2.2.2.2.1 u2.2.2.2.2.2.1 u2.2.2.2.2.2.2)))) (wc := (wX3 cy qRe (qTa 0) u2.2.1 u2.2.2.1 ++ (wX4 cy qTa Ta_bytes Ta_length))) (wr := (wX5 cy qTe u2.2.2.2.1 u2.2.2.2.2.1 u2.2.2.2.2.2.1 u2.2.2.2.2.2.2)) C0 hP hD hS [0, 1, 2] [3, 4, 5, 6] [4, 5, 6, 0, 1, 2, 3] rfl rfl (by decide) (by decide) (by decide) (fun _ => rfl) (va_runV (As := [.ref (adK (12 : Nat))]) (rest := []) ⟨hx, hb, hml, hown, hts⟩ (c_X3_passes l adK adV D cy qRe qTa u2.2.1 u2.2.2.1 Ta_bytes Ta_length H.size (12 : Nat) u6 eu6) (cwV 1 hts gX3_read_X3_passes rfl rfl rfl (by decide +kernel) ⟨Nat.le_of_ble_eq_true rfl, Nat.le_of_ble_eq_true rfl⟩) (preS_V hSW hS (va_free (wc := (wX3 cy qRe (qTa 0) u2.2.1 u2.2.2.1 ++ (wX4 cy qTa Ta_bytes Ta_length))) hD hS hA [0, 1, 2] rfl) (hP.sub (ws' := (wX3 cy qRe (qTa 0) u2.2.1 u2.2.2.1 ++ (wX4 cy qTa Ta_bytes Ta_length))) [0, 1, 2] rfl) hK (hD.sub (ws' := (wX3 cy qRe (qTa 0) u2.2.1 u2.2.2.1 ++ (wX4 cy qTa Ta_bytes Ta_length))) [0, 1, 2] (by decide) rfl) hN 3 0 rfl rfl) rfl rfl hl.1 rfl (lv_room (Nat.le_of_ble_eq_true rfl)) dX3_read_56 ⟨Nat.zero_le _, Nat.zero_le _⟩) (fun r u H locs hw hP hD hS => ?_)
          obtain ⟨rfl, rfl⟩ := hw
          have hP : va_P D vwCl (wX3 cy qRe (qTa 0) u6.2.1 u6.2.2 ++ (wX4 cy qTa Ta_bytes Ta_length ++ (wX5 cy qTe u2.2.2.2.1 u2.2.2.2.2.1 u2.2.2.2.2.2.1 u2.2.2.2.2.2.2))) H := hP
          have hD : va_D A (wX3 cy qRe (qTa 0) u6.2.1 u6.2.2 ++ (wX4 cy qTa Ta_bytes Ta_length ++ (wX5 cy qTe u2.2.2.2.1 u2.2.2.2.2.1 u2.2.2.2.2.2.1 u2.2.2.2.2.2.2))) := hD
          refine lv_if_ne (tgt := 67) hx hb dX3_read_59 (by decide) (fun hc7 => ?_) (fun hc7 => ?_)
          · have hf := iff_ hf hc7
            refine lv_iinc (v := (x2 + 1)) (lv' := [(2, .int (x2 + 1)), (0, .ref (qRe 0)), (1, .ref (qTe 0))]) hx hb dX3_read_67 hl (k := 2) rfl rfl (by decide) rfl (fun ls hl => ?_)
            refine lv_goto (tgt := 25) hx hb dX3_read_70 (by decide) ?_
            exact hk25 u6.2.1 u6.2.2 u2.2.2.2.1 u2.2.2.2.2.1 u2.2.2.2.2.2.1 u2.2.2.2.2.2.2 (x2 + 1) hf H locs ls hP hD hS (lv_sub hl [1, 2, 0] rfl)
          · have hf := ift hf hc7
            refine lv_aload_n hx hb dX3_read_62 rfl (lv_at hl 0 rfl) ?_
            refine va_get (D := D) (ci := 3) (v := .int u6.2.1) (C := RX3) (T := TX3) (N := 3) hx hb hts i_X3_read_X3 hown hK hP 0 rfl rfl 1 (by decide) (hts _ m_X3_read_f35) (fun _ h9 => h9) rfl dX3_read_63 ?_
            exact rq_i C0 (u6.2.1, u6.2.2, u2.2.2.2.1, u2.2.2.2.2.1, u2.2.2.2.2.2.1, u2.2.2.2.2.2.2) (pr_2 hf) hP hD hS dX3_read_66
        · have hf := iff_ hf hc5
          refine lv_iconst (v := (-1 : Int32)) hx hb dX3_read_51 (by decide) ?_
          exact rq_i C0 (u2.2.1, u2.2.2.1, u2.2.2.2.1, u2.2.2.2.2.1, u2.2.2.2.2.2.1, u2.2.2.2.2.2.2) (pr_2 hf) hP hD hS dX3_read_52
      · have hf := ift hf hc3
        refine lv_aload_n hx hb dX3_read_39 rfl (lv_at hl 0 rfl) ?_
        refine va_get (D := D) (ci := 3) (v := .int u2.2.1) (C := RX3) (T := TX3) (N := 3) hx hb hts i_X3_read_X3 hown hK hP 0 rfl rfl 1 (by decide) (hts _ m_X3_read_f35) (fun _ h9 => h9) rfl dX3_read_40 ?_
        exact rq_i C0 (u2.2.1, u2.2.2.1, u2.2.2.2.1, u2.2.2.2.2.1, u2.2.2.2.2.2.1, u2.2.2.2.2.2.2) (pr_2 hf) hP hD hS dX3_read_43

set_option maxHeartbeats 4000000 in
set_option maxRecDepth 100000 in
theorem c_X3_read (l : Launch) (adK adV : Nat → Nat) (D : va_G) (cy : Nat → ClassId) (qRe qTa qTe : Nat → Nat) (Re_tokenStart : Int32) (Re_tokenEnd : Int32) (Ta_bytes : Nat → Int32) (Ta_length : Int32) (Te_kind : Nat → Int32) (Te_amount : Nat → Int32) (Te_mark : Nat → Int32) (Te_clauses : Int32) (sz : Nat)  (X : Int32 × (Int32) × (Int32) × (Nat → Int32) × (Nat → Int32) × (Nat → Int32) × (Int32)) (hf : f_X3_read Re_tokenStart Re_tokenEnd Ta_bytes Ta_length Te_kind Te_amount Te_mark Te_clauses = some X) : Met l yX3_read wsX3_read ({ frames := 7, cells := 0, slots := 0, locals := 153 } : Room) (va_Pc [.ref (qRe 0), .ref (qTe 0)] (PWS adK adV D cy (wX3 cy qRe (qTa 0) Re_tokenStart Re_tokenEnd ++ (wX4 cy qTa Ta_bytes Ta_length ++ (wX5 cy qTe Te_kind Te_amount Te_mark Te_clauses))) sz)) (va_Qi (fun (r : Int32) (u : (Int32) × (Int32) × (Nat → Int32) × (Nat → Int32) × (Nat → Int32) × (Int32)) => r = X.1 ∧ u = X.2) (fun u t => BW D cy (va_A (wX3 cy qRe (qTa 0) Re_tokenStart Re_tokenEnd ++ (wX4 cy qTa Ta_bytes Ta_length ++ (wX5 cy qTe Te_kind Te_amount Te_mark Te_clauses))) sz) (wX3 cy qRe (qTa 0) u.1 u.2.1 ++ (wX4 cy qTa Ta_bytes Ta_length ++ (wX5 cy qTe u.2.2.1 u.2.2.2.1 u.2.2.2.2.1 u.2.2.2.2.2))) t) (va_A (wX3 cy qRe (qTa 0) Re_tokenStart Re_tokenEnd ++ (wX4 cy qTa Ta_bytes Ta_length ++ (wX5 cy qTe Te_kind Te_amount Te_mark Te_clauses))) sz)) 0 0 (va_A (wX3 cy qRe (qTa 0) Re_tokenStart Re_tokenEnd ++ (wX4 cy qTa Ta_bytes Ta_length ++ (wX5 cy qTe Te_kind Te_amount Te_mark Te_clauses))) sz) := by
  refine met_enterS (Qc := fun A => (va_Qi (fun (r : Int32) (u : (Int32) × (Int32) × (Nat → Int32) × (Nat → Int32) × (Nat → Int32) × (Int32)) => r = X.1 ∧ u = X.2) (fun u t => BW D cy A (wX3 cy qRe (qTa 0) u.1 u.2.1 ++ (wX4 cy qTa Ta_bytes Ta_length ++ (wX5 cy qTe u.2.2.1 u.2.2.2.1 u.2.2.2.2.1 u.2.2.2.2.2))) t) A)) (lv0 := [(0, .ref (qRe 0)), (1, .ref (qTe 0))]) (by decide) rfl (Nat.le_of_ble_eq_true rfl) rfl ?_
  intro p e s m below meth c A ls hSW C0 hP hD hS hl
  generalize hH : s.heap = H at hP ⊢
  generalize hLoc : ([] : List Loc) = locs at hS ⊢
  have hS : va_S A s.heap H locs := by rw [← hH]; exact hS
  have C0 : CX cX3_read 3 (some .int) RX3 wsX3_read D cy p s m _ meth c A := C0
  obtain ⟨hx, hb, hr, hml, hown, hts, hK, hA, hN, hlocks⟩ := id C0
  unfold f_X3_read at hf
  refine lv_aload_n hx hb dX3_read_0 rfl (lv_at hl 1 rfl) ?_
  refine lv_iconst (v := (0 : Int32)) hx hb dX3_read_1 (by decide) ?_
  refine va_putN (D := D) (ci := 5) (v := .int (0 : Int32)) (ty := .int) (C := RX5) (T := TX5) (N := 4) hx hb hts i_X3_read_X5 tyX5 tyX5_ok nmX5 hown hK hP hD hS 3 rfl rfl 3 (by decide) (va_Nw.use rfl (hN _ nw_X3_15)) (fun _ h9 => h9) rfl (by decide +kernel) rfl rfl (Nat.le_of_ble_eq_true rfl) dX3_read_2 (fun H locs hP hD hS => ?_)
  have hP : va_P D vwCl (wX3 cy qRe (qTa 0) Re_tokenStart Re_tokenEnd ++ (wX4 cy qTa Ta_bytes Ta_length ++ (wX5 cy qTe Te_kind Te_amount Te_mark (0 : Int32)))) H := hP
  have hD : va_D A (wX3 cy qRe (qTa 0) Re_tokenStart Re_tokenEnd ++ (wX4 cy qTa Ta_bytes Ta_length ++ (wX5 cy qTe Te_kind Te_amount Te_mark (0 : Int32)))) := hD
  refine lv_aload_n hx hb dX3_read_5 rfl (lv_at hl 0 rfl) ?_
  refine lv_iconst (v := (0 : Int32)) hx hb dX3_read_6 (by decide) ?_
  refine va_put (D := D) (ci := 3) (v := .int (0 : Int32)) (ty := .int) (C := RX3) (T := TX3) (N := 3) hx hb hts i_X3_read_X3 tyX3 tyX3_ok nmX3 hown hK hP hD hS 0 rfl rfl 2 (by decide) (hts _ m_X3_read_f21) (fun _ h9 => h9) rfl (by decide +kernel) rfl rfl (Nat.le_of_ble_eq_true rfl) dX3_read_7 (fun H locs hP hD hS => ?_)
  have hP : va_P D vwCl (wX3 cy qRe (qTa 0) Re_tokenStart (0 : Int32) ++ (wX4 cy qTa Ta_bytes Ta_length ++ (wX5 cy qTe Te_kind Te_amount Te_mark (0 : Int32)))) H := hP
  have hD : va_D A (wX3 cy qRe (qTa 0) Re_tokenStart (0 : Int32) ++ (wX4 cy qTa Ta_bytes Ta_length ++ (wX5 cy qTe Te_kind Te_amount Te_mark (0 : Int32)))) := hD
  refine lv_aload_n hx hb dX3_read_10 rfl (lv_at hl 0 rfl) ?_
  obtain ⟨u8, eu8, hf⟩ := Option.bind_eq_some_iff.mp hf
  refine cq_v (wc' := fun (u : (Int32) × (Int32)) => (wX3 cy qRe (qTa 0) u.1 u.2 ++ (wX4 cy qTa Ta_bytes Ta_length))) (ws' := fun (u : (Int32) × (Int32)) => (wX3 cy qRe (qTa 0) u.1 u.2 ++ (wX4 cy qTa Ta_bytes Ta_length ++ (wX5 cy qTe Te_kind Te_amount Te_mark (0 : Int32))))) (wc := (wX3 cy qRe (qTa 0) Re_tokenStart (0 : Int32) ++ (wX4 cy qTa Ta_bytes Ta_length))) (wr := (wX5 cy qTe Te_kind Te_amount Te_mark (0 : Int32))) C0 hP hD hS [0, 1, 2] [3, 4, 5, 6] [4, 5, 6, 0, 1, 2, 3] rfl rfl (by decide) (by decide) (by decide) (fun _ => rfl) (va_runV (As := []) (rest := []) ⟨hx, hb, hml, hown, hts⟩ (c_X3_advance l D cy qRe qTa Re_tokenStart (0 : Int32) Ta_bytes Ta_length H.size  u8 eu8) (cwV 0 hts gX3_read_X3_advance rfl rfl rfl (by decide +kernel) ⟨Nat.le_of_ble_eq_true rfl, Nat.le_of_ble_eq_true rfl⟩) (pre_V (hP.sub (ws' := (wX3 cy qRe (qTa 0) Re_tokenStart (0 : Int32) ++ (wX4 cy qTa Ta_bytes Ta_length))) [0, 1, 2] rfl) hK (hD.sub (ws' := (wX3 cy qRe (qTa 0) Re_tokenStart (0 : Int32) ++ (wX4 cy qTa Ta_bytes Ta_length))) [0, 1, 2] (by decide) rfl) hN 3 0 rfl rfl) rfl rfl hl.1 rfl (lv_room (Nat.le_of_ble_eq_true rfl)) dX3_read_11 ⟨Nat.zero_le _, Nat.zero_le _⟩) (fun u H locs hw hP hD hS => ?_)
  have hw := hw.symm
  subst hw
  have hP : va_P D vwCl (wX3 cy qRe (qTa 0) u8.1 u8.2 ++ (wX4 cy qTa Ta_bytes Ta_length ++ (wX5 cy qTe Te_kind Te_amount Te_mark (0 : Int32)))) H := hP
  have hD : va_D A (wX3 cy qRe (qTa 0) u8.1 u8.2 ++ (wX4 cy qTa Ta_bytes Ta_length ++ (wX5 cy qTe Te_kind Te_amount Te_mark (0 : Int32)))) := hD
  refine lv_aload_n hx hb dX3_read_14 rfl (lv_at hl 0 rfl) ?_
  obtain ⟨u9, eu9, hf⟩ := Option.bind_eq_some_iff.mp hf
  refine cq_i (wc' := fun (u : Unit) => (wX3 cy qRe (qTa 0) u8.1 u8.2 ++ (wX4 cy qTa Ta_bytes Ta_length))) (ws' := fun (u : Unit) => (wX3 cy qRe (qTa 0) u8.1 u8.2 ++ (wX4 cy qTa Ta_bytes Ta_length ++ (wX5 cy qTe Te_kind Te_amount Te_mark (0 : Int32))))) (wc := (wX3 cy qRe (qTa 0) u8.1 u8.2 ++ (wX4 cy qTa Ta_bytes Ta_length))) (wr := (wX5 cy qTe Te_kind Te_amount Te_mark (0 : Int32))) C0 hP hD hS [0, 1, 2] [3, 4, 5, 6] [4, 5, 6, 0, 1, 2, 3] rfl rfl (by decide) (by decide) (by decide) (fun _ => rfl) (va_runV (As := []) (rest := []) ⟨hx, hb, hml, hown, hts⟩ (c_X3_isAtEnd l D cy qRe qTa u8.1 u8.2 Ta_bytes Ta_length H.size  u9 eu9) (cwV 0 hts gX3_read_X3_isAtEnd rfl rfl rfl (by decide +kernel) ⟨Nat.le_of_ble_eq_true rfl, Nat.le_of_ble_eq_true rfl⟩) (pre_V (hP.sub (ws' := (wX3 cy qRe (qTa 0) u8.1 u8.2 ++ (wX4 cy qTa Ta_bytes Ta_length))) [0, 1, 2] rfl) hK (hD.sub (ws' := (wX3 cy qRe (qTa 0) u8.1 u8.2 ++ (wX4 cy qTa Ta_bytes Ta_length))) [0, 1, 2] (by decide) rfl) hN 3 0 rfl rfl) rfl rfl hl.1 rfl (lv_room (Nat.le_of_ble_eq_true rfl)) dX3_read_15 ⟨Nat.zero_le _, Nat.zero_le _⟩) (fun r u H locs hw hP hD hS => ?_)
  have hw := hw.symm
  subst hw
  have hP : va_P D vwCl (wX3 cy qRe (qTa 0) u8.1 u8.2 ++ (wX4 cy qTa Ta_bytes Ta_length ++ (wX5 cy qTe Te_kind Te_amount Te_mark (0 : Int32)))) H := hP
  have hD : va_D A (wX3 cy qRe (qTa 0) u8.1 u8.2 ++ (wX4 cy qTa Ta_bytes Ta_length ++ (wX5 cy qTe Te_kind Te_amount Te_mark (0 : Int32)))) := hD
  refine lv_if_eq (tgt := 23) hx hb dX3_read_18 (by decide) (fun hc10 => ?_) (fun hc10 => ?_)
  · have hf := ift hf hc10
    refine lv_iconst (v := (0 : Int32)) hx hb dX3_read_23 (by decide) ?_
    refine lv_istore_n (lv' := [(2, .int (0 : Int32)), (0, .ref (qRe 0)), (1, .ref (qTe 0))]) hx hb dX3_read_24 rfl hl (by decide) rfl (fun ls hl => ?_)
    exact w_X3_read_25 C0 hSW  FU u8.1 u8.2 Te_kind Te_amount Te_mark (0 : Int32) (0 : Int32) hf H locs ls hP hD hS (lv_sub hl [1, 2, 0] rfl)
  · have hf := iff_ hf hc10
    refine lv_iconst (v := (-1 : Int32)) hx hb dX3_read_21 (by decide) ?_
    exact rq_i C0 (u8.1, u8.2, Te_kind, Te_amount, Te_mark, (0 : Int32)) (pr_2 hf) hP hD hS dX3_read_22

theorem i_X8_contract_X8 : ∀ w ∈ wsX80, w ∈ wsX8_contract := by decide +kernel
theorem m_X8_contract_f49 : Cond.fieldLink RX8 49 "SailCargo" "reader" "LSailCargo$Reader;" ∈ wsX8_contract := by decide +kernel
theorem m_X8_contract_f69 : Cond.fieldLink RX8 69 "SailCargo" "draft" "LSailCargo$Terms;" ∈ wsX8_contract := by decide +kernel
theorem m_X8_contract_f72 : Cond.fieldLink RX8 72 "SailCargo" "faultPlace" "I" ∈ wsX8_contract := by decide +kernel
theorem m_X8_contract_f40 : Cond.fieldLink RX8 40 "SailCargo" "tape" "LSailCargo$Tape;" ∈ wsX8_contract := by decide +kernel
theorem i_X8_contract_X4 : ∀ w ∈ wsX40, w ∈ wsX8_contract := by decide +kernel
theorem m_X8_contract_f65 : Cond.fieldLink RX8 65 "SailCargo" "agreed" "LSailCargo$Terms;" ∈ wsX8_contract := by decide +kernel
theorem i_X8_contract_X5 : ∀ w ∈ wsX50, w ∈ wsX8_contract := by decide +kernel
set_option maxHeartbeats 4000000 in
set_option maxRecDepth 100000 in
theorem c_X8_contract (l : Launch) (adK adV : Nat → Nat) (D : va_G) (cy : Nat → ClassId) (qSC qRe qTa qAg qDr qWe qPa qHo qHb qVo : Nat → Nat) (SC_faultPlace : Int32) (SC_refusedBy : Int32) (Re_tokenStart : Int32) (Re_tokenEnd : Int32) (Ta_bytes : Nat → Int32) (Ta_length : Int32) (Ag_kind : Nat → Int32) (Ag_amount : Nat → Int32) (Ag_mark : Nat → Int32) (Ag_clauses : Int32) (Dr_kind : Nat → Int32) (Dr_amount : Nat → Int32) (Dr_mark : Nat → Int32) (Dr_clauses : Int32) (sz : Nat)  (X : Int32 × (Int32) × (Int32) × (Int32) × (Int32) × (Int32) × (Nat → Int32) × (Nat → Int32) × (Nat → Int32) × (Int32) × (Nat → Int32) × (Nat → Int32) × (Nat → Int32) × (Int32)) (hf : f_X8_contract SC_faultPlace SC_refusedBy Re_tokenStart Re_tokenEnd Ta_bytes Ta_length Ag_kind Ag_amount Ag_mark Ag_clauses Dr_kind Dr_amount Dr_mark Dr_clauses = some X) : Met l yX8_contract wsX8_contract ({ frames := 8, cells := 0, slots := 0, locals := 175 } : Room) (va_Pc [.ref (qSC 0)] (PWS adK adV D cy (wX8 cy qSC (qWe 0) (qPa 0) (qHo 0) (qHb 0) (qTa 0) (qRe 0) (qVo 0) (qAg 0) (qDr 0) SC_faultPlace SC_refusedBy ++ (wX3 cy qRe (qTa 0) Re_tokenStart Re_tokenEnd ++ (wX4 cy qTa Ta_bytes Ta_length ++ (wX5 cy qAg Ag_kind Ag_amount Ag_mark Ag_clauses ++ (wX5 cy qDr Dr_kind Dr_amount Dr_mark Dr_clauses))))) sz)) (va_Qi (fun (r : Int32) (u : ((Int32) × (Int32) × (Int32) × (Int32) × (Int32) × (Nat → Int32) × (Nat → Int32) × (Nat → Int32) × (Int32) × (Nat → Int32) × (Nat → Int32) × (Nat → Int32) × (Int32)) × (Nat → Nat) × (Nat → Nat)) => r = X.1 ∧ u.1 = X.2) (fun u t => BW D cy (va_A (wX8 cy qSC (qWe 0) (qPa 0) (qHo 0) (qHb 0) (qTa 0) (qRe 0) (qVo 0) (qAg 0) (qDr 0) SC_faultPlace SC_refusedBy ++ (wX3 cy qRe (qTa 0) Re_tokenStart Re_tokenEnd ++ (wX4 cy qTa Ta_bytes Ta_length ++ (wX5 cy qAg Ag_kind Ag_amount Ag_mark Ag_clauses ++ (wX5 cy qDr Dr_kind Dr_amount Dr_mark Dr_clauses))))) sz) (wX8 cy qSC (qWe 0) (qPa 0) (qHo 0) (qHb 0) (qTa 0) (qRe 0) (qVo 0) (u.2.1 0) (u.2.2 0) u.1.1 u.1.2.1 ++ (wX3 cy qRe (qTa 0) u.1.2.2.1 u.1.2.2.2.1 ++ (wX4 cy qTa Ta_bytes u.1.2.2.2.2.1 ++ (wX5 cy u.2.1 u.1.2.2.2.2.2.1 u.1.2.2.2.2.2.2.1 u.1.2.2.2.2.2.2.2.1 u.1.2.2.2.2.2.2.2.2.1 ++ (wX5 cy u.2.2 u.1.2.2.2.2.2.2.2.2.2.1 u.1.2.2.2.2.2.2.2.2.2.2.1 u.1.2.2.2.2.2.2.2.2.2.2.2.1 u.1.2.2.2.2.2.2.2.2.2.2.2.2))))) t) (va_A (wX8 cy qSC (qWe 0) (qPa 0) (qHo 0) (qHb 0) (qTa 0) (qRe 0) (qVo 0) (qAg 0) (qDr 0) SC_faultPlace SC_refusedBy ++ (wX3 cy qRe (qTa 0) Re_tokenStart Re_tokenEnd ++ (wX4 cy qTa Ta_bytes Ta_length ++ (wX5 cy qAg Ag_kind Ag_amount Ag_mark Ag_clauses ++ (wX5 cy qDr Dr_kind Dr_amount Dr_mark Dr_clauses))))) sz)) 0 0 (va_A (wX8 cy qSC (qWe 0) (qPa 0) (qHo 0) (qHb 0) (qTa 0) (qRe 0) (qVo 0) (qAg 0) (qDr 0) SC_faultPlace SC_refusedBy ++ (wX3 cy qRe (qTa 0) Re_tokenStart Re_tokenEnd ++ (wX4 cy qTa Ta_bytes Ta_length ++ (wX5 cy qAg Ag_kind Ag_amount Ag_mark Ag_clauses ++ (wX5 cy qDr Dr_kind Dr_amount Dr_mark Dr_clauses))))) sz) := by
  refine met_enterS (Qc := fun A => (va_Qi (fun (r : Int32) (u : ((Int32) × (Int32) × (Int32) × (Int32) × (Int32) × (Nat → Int32) × (Nat → Int32) × (Nat → Int32) × (Int32) × (Nat → Int32) × (Nat → Int32) × (Nat → Int32) × (Int32)) × (Nat → Nat) × (Nat → Nat)) => r = X.1 ∧ u.1 = X.2) (fun u t => BW D cy A (wX8 cy qSC (qWe 0) (qPa 0) (qHo 0) (qHb 0) (qTa 0) (qRe 0) (qVo 0) (u.2.1 0) (u.2.2 0) u.1.1 u.1.2.1 ++ (wX3 cy qRe (qTa 0) u.1.2.2.1 u.1.2.2.2.1 ++ (wX4 cy qTa Ta_bytes u.1.2.2.2.2.1 ++ (wX5 cy u.2.1 u.1.2.2.2.2.2.1 u.1.2.2.2.2.2.2.1 u.1.2.2.2.2.2.2.2.1 u.1.2.2.2.2.2.2.2.2.1 ++ (wX5 cy u.2.2 u.1.2.2.2.2.2.2.2.2.2.1 u.1.2.2.2.2.2.2.2.2.2.2.1 u.1.2.2.2.2.2.2.2.2.2.2.2.1 u.1.2.2.2.2.2.2.2.2.2.2.2.2))))) t) A)) (lv0 := [(0, .ref (qSC 0))]) (by decide) rfl (Nat.le_of_ble_eq_true rfl) rfl ?_
  intro p e s m below meth c A ls hSW C0 hP hD hS hl
  generalize hH : s.heap = H at hP ⊢
  generalize hLoc : ([] : List Loc) = locs at hS ⊢
  have hS : va_S A s.heap H locs := by rw [← hH]; exact hS
  have C0 : CX cX8_contract 2 (some .int) RX8 wsX8_contract D cy p s m _ meth c A := C0
  obtain ⟨hx, hb, hr, hml, hown, hts, hK, hA, hN, hlocks⟩ := id C0
  unfold f_X8_contract at hf
  refine lv_aload_n hx hb dX8_contract_0 rfl (lv_at hl 0 rfl) ?_
  refine lv_aload_n hx hb dX8_contract_1 rfl (lv_at hl 0 rfl) ?_
  refine va_get (D := D) (ci := 8) (v := .ref (qRe 0)) (C := RX8) (T := TX8) (N := 11) hx hb hts i_X8_contract_X8 hown hK hP 0 rfl rfl 5 (by decide) (hts _ m_X8_contract_f49) (fun _ h9 => h9) rfl dX8_contract_2 ?_
  refine lv_aload_n hx hb dX8_contract_5 rfl (lv_at hl 0 rfl) ?_
  refine va_get (D := D) (ci := 8) (v := .ref (qDr 0)) (C := RX8) (T := TX8) (N := 11) hx hb hts i_X8_contract_X8 hown hK hP 0 rfl rfl 8 (by decide) (hts _ m_X8_contract_f69) (fun _ h9 => h9) rfl dX8_contract_6 ?_
  obtain ⟨u1, eu1, hf⟩ := Option.bind_eq_some_iff.mp hf
  refine cq_i (wc' := fun (u : (Int32) × (Int32) × (Nat → Int32) × (Nat → Int32) × (Nat → Int32) × (Int32)) => (wX3 cy qRe (qTa 0) u.1 u.2.1 ++ (wX4 cy qTa Ta_bytes Ta_length ++ (wX5 cy qDr u.2.2.1 u.2.2.2.1 u.2.2.2.2.1 u.2.2.2.2.2)))) (ws' := fun (u : (Int32) × (Int32) × (Nat → Int32) × (Nat → Int32) × (Nat → Int32) × (Int32)) => (wX8 cy qSC (qWe 0) (qPa 0) (qHo 0) (qHb 0) (qTa 0) (qRe 0) (qVo 0) (qAg 0) (qDr 0) SC_faultPlace SC_refusedBy ++ (wX3 cy qRe (qTa 0) u.1 u.2.1 ++ (wX4 cy qTa Ta_bytes Ta_length ++ (wX5 cy qAg Ag_kind Ag_amount Ag_mark Ag_clauses ++ (wX5 cy qDr u.2.2.1 u.2.2.2.1 u.2.2.2.2.1 u.2.2.2.2.2)))))) (wc := (wX3 cy qRe (qTa 0) Re_tokenStart Re_tokenEnd ++ (wX4 cy qTa Ta_bytes Ta_length ++ (wX5 cy qDr Dr_kind Dr_amount Dr_mark Dr_clauses)))) (wr := (wX8 cy qSC (qWe 0) (qPa 0) (qHo 0) (qHb 0) (qTa 0) (qRe 0) (qVo 0) (qAg 0) (qDr 0) SC_faultPlace SC_refusedBy ++ (wX5 cy qAg Ag_kind Ag_amount Ag_mark Ag_clauses))) C0 hP hD hS [1, 2, 3, 8, 9, 10, 11] [0, 4, 5, 6, 7] [0, 5, 6, 7, 1, 2, 3, 4, 8, 9, 10, 11] rfl rfl (by decide) (by decide) (by decide) (fun _ => rfl) (va_runV (As := [.ref (qDr 0)]) (rest := [.ref (qSC 0)]) ⟨hx, hb, hml, hown, hts⟩ (c_X3_read l adK adV D cy qRe qTa qDr Re_tokenStart Re_tokenEnd Ta_bytes Ta_length Dr_kind Dr_amount Dr_mark Dr_clauses H.size  u1 eu1) (cwV 1 hts gX8_contract_X3_read rfl rfl rfl (by decide +kernel) ⟨Nat.le_of_ble_eq_true rfl, Nat.le_of_ble_eq_true rfl⟩) (preS_V hSW hS (va_free (wc := (wX3 cy qRe (qTa 0) Re_tokenStart Re_tokenEnd ++ (wX4 cy qTa Ta_bytes Ta_length ++ (wX5 cy qDr Dr_kind Dr_amount Dr_mark Dr_clauses)))) hD hS hA [1, 2, 3, 8, 9, 10, 11] rfl) (hP.sub (ws' := (wX3 cy qRe (qTa 0) Re_tokenStart Re_tokenEnd ++ (wX4 cy qTa Ta_bytes Ta_length ++ (wX5 cy qDr Dr_kind Dr_amount Dr_mark Dr_clauses)))) [1, 2, 3, 8, 9, 10, 11] rfl) hK (hD.sub (ws' := (wX3 cy qRe (qTa 0) Re_tokenStart Re_tokenEnd ++ (wX4 cy qTa Ta_bytes Ta_length ++ (wX5 cy qDr Dr_kind Dr_amount Dr_mark Dr_clauses)))) [1, 2, 3, 8, 9, 10, 11] (by decide) rfl) hN 3 0 rfl rfl) rfl rfl hl.1 rfl (lv_room (Nat.le_of_ble_eq_true rfl)) dX8_contract_9 ⟨Nat.zero_le _, Nat.zero_le _⟩) (fun r u H locs hw hP hD hS => ?_)
  obtain ⟨rfl, rfl⟩ := hw
  have hP : va_P D vwCl (wX8 cy qSC (qWe 0) (qPa 0) (qHo 0) (qHb 0) (qTa 0) (qRe 0) (qVo 0) (qAg 0) (qDr 0) SC_faultPlace SC_refusedBy ++ (wX3 cy qRe (qTa 0) u1.2.1 u1.2.2.1 ++ (wX4 cy qTa Ta_bytes Ta_length ++ (wX5 cy qAg Ag_kind Ag_amount Ag_mark Ag_clauses ++ (wX5 cy qDr u1.2.2.2.1 u1.2.2.2.2.1 u1.2.2.2.2.2.1 u1.2.2.2.2.2.2))))) H := hP
  have hD : va_D A (wX8 cy qSC (qWe 0) (qPa 0) (qHo 0) (qHb 0) (qTa 0) (qRe 0) (qVo 0) (qAg 0) (qDr 0) SC_faultPlace SC_refusedBy ++ (wX3 cy qRe (qTa 0) u1.2.1 u1.2.2.1 ++ (wX4 cy qTa Ta_bytes Ta_length ++ (wX5 cy qAg Ag_kind Ag_amount Ag_mark Ag_clauses ++ (wX5 cy qDr u1.2.2.2.1 u1.2.2.2.2.1 u1.2.2.2.2.2.1 u1.2.2.2.2.2.2))))) := hD
  refine va_put (D := D) (ci := 8) (v := .int u1.1) (ty := .int) (C := RX8) (T := TX8) (N := 11) hx hb hts i_X8_contract_X8 tyX8 tyX8_ok nmX8 hown hK hP hD hS 0 rfl rfl 9 (by decide) (hts _ m_X8_contract_f72) (fun _ h9 => h9) rfl (by decide +kernel) rfl rfl (Nat.le_of_ble_eq_true rfl) dX8_contract_12 (fun H locs hP hD hS => ?_)
  have hP : va_P D vwCl (wX8 cy qSC (qWe 0) (qPa 0) (qHo 0) (qHb 0) (qTa 0) (qRe 0) (qVo 0) (qAg 0) (qDr 0) u1.1 SC_refusedBy ++ (wX3 cy qRe (qTa 0) u1.2.1 u1.2.2.1 ++ (wX4 cy qTa Ta_bytes Ta_length ++ (wX5 cy qAg Ag_kind Ag_amount Ag_mark Ag_clauses ++ (wX5 cy qDr u1.2.2.2.1 u1.2.2.2.2.1 u1.2.2.2.2.2.1 u1.2.2.2.2.2.2))))) H := hP
  have hD : va_D A (wX8 cy qSC (qWe 0) (qPa 0) (qHo 0) (qHb 0) (qTa 0) (qRe 0) (qVo 0) (qAg 0) (qDr 0) u1.1 SC_refusedBy ++ (wX3 cy qRe (qTa 0) u1.2.1 u1.2.2.1 ++ (wX4 cy qTa Ta_bytes Ta_length ++ (wX5 cy qAg Ag_kind Ag_amount Ag_mark Ag_clauses ++ (wX5 cy qDr u1.2.2.2.1 u1.2.2.2.2.1 u1.2.2.2.2.2.1 u1.2.2.2.2.2.2))))) := hD
  refine lv_aload_n hx hb dX8_contract_15 rfl (lv_at hl 0 rfl) ?_
  refine va_get (D := D) (ci := 8) (v := .ref (qTa 0)) (C := RX8) (T := TX8) (N := 11) hx hb hts i_X8_contract_X8 hown hK hP 0 rfl rfl 4 (by decide) (hts _ m_X8_contract_f40) (fun _ h9 => h9) rfl dX8_contract_16 ?_
  refine lv_iconst (v := (0 : Int32)) hx hb dX8_contract_19 (by decide) ?_
  refine va_putN (D := D) (ci := 4) (v := .int (0 : Int32)) (ty := .int) (C := RX4) (T := TX4) (N := 2) hx hb hts i_X8_contract_X4 tyX4 tyX4_ok nmX4 hown hK hP hD hS 2 rfl rfl 1 (by decide) (va_Nw.use rfl (hN _ nw_X8_173)) (fun _ h9 => h9) rfl (by decide +kernel) rfl rfl (Nat.le_of_ble_eq_true rfl) dX8_contract_20 (fun H locs hP hD hS => ?_)
  have hP : va_P D vwCl (wX8 cy qSC (qWe 0) (qPa 0) (qHo 0) (qHb 0) (qTa 0) (qRe 0) (qVo 0) (qAg 0) (qDr 0) u1.1 SC_refusedBy ++ (wX3 cy qRe (qTa 0) u1.2.1 u1.2.2.1 ++ (wX4 cy qTa Ta_bytes (0 : Int32) ++ (wX5 cy qAg Ag_kind Ag_amount Ag_mark Ag_clauses ++ (wX5 cy qDr u1.2.2.2.1 u1.2.2.2.2.1 u1.2.2.2.2.2.1 u1.2.2.2.2.2.2))))) H := hP
  have hD : va_D A (wX8 cy qSC (qWe 0) (qPa 0) (qHo 0) (qHb 0) (qTa 0) (qRe 0) (qVo 0) (qAg 0) (qDr 0) u1.1 SC_refusedBy ++ (wX3 cy qRe (qTa 0) u1.2.1 u1.2.2.1 ++ (wX4 cy qTa Ta_bytes (0 : Int32) ++ (wX5 cy qAg Ag_kind Ag_amount Ag_mark Ag_clauses ++ (wX5 cy qDr u1.2.2.2.1 u1.2.2.2.2.1 u1.2.2.2.2.2.1 u1.2.2.2.2.2.2))))) := hD
  refine lv_aload_n hx hb dX8_contract_23 rfl (lv_at hl 0 rfl) ?_
  refine va_get (D := D) (ci := 8) (v := .int u1.1) (C := RX8) (T := TX8) (N := 11) hx hb hts i_X8_contract_X8 hown hK hP 0 rfl rfl 9 (by decide) (hts _ m_X8_contract_f72) (fun _ h9 => h9) rfl dX8_contract_24 ?_
  refine lv_iconst (v := (-1 : Int32)) hx hb dX8_contract_27 (by decide) ?_
  refine lv_icmp_eq (tgt := 38) hx hb dX8_contract_28 (by decide) (fun hc2 => ?_) (fun hc2 => ?_)
  · have hf := ift hf hc2
    refine lv_aload_n hx hb dX8_contract_38 rfl (lv_at hl 0 rfl) ?_
    refine va_get (D := D) (ci := 8) (v := .ref (qAg 0)) (C := RX8) (T := TX8) (N := 11) hx hb hts i_X8_contract_X8 hown hK hP 0 rfl rfl 7 (by decide) (hts _ m_X8_contract_f65) (fun _ h9 => h9) rfl dX8_contract_39 ?_
    refine lv_astore_n (lv' := [(1, .ref (qAg 0)), (0, .ref (qSC 0))]) hx hb dX8_contract_42 rfl hl (by decide) rfl (fun ls hl => ?_)
    refine lv_aload_n hx hb dX8_contract_43 rfl (lv_at hl 1 rfl) ?_
    refine lv_aload_n hx hb dX8_contract_44 rfl (lv_at hl 1 rfl) ?_
    refine va_get (D := D) (ci := 8) (v := .ref (qDr 0)) (C := RX8) (T := TX8) (N := 11) hx hb hts i_X8_contract_X8 hown hK hP 0 rfl rfl 8 (by decide) (hts _ m_X8_contract_f69) (fun _ h9 => h9) rfl dX8_contract_45 ?_
    refine va_put (D := D) (ci := 8) (v := .ref (qDr 0)) (ty := .object "SailCargo$Terms") (C := RX8) (T := TX8) (N := 11) hx hb hts i_X8_contract_X8 tyX8 tyX8_ok nmX8 hown hK hP hD hS 0 rfl rfl 7 (by decide) (hts _ m_X8_contract_f65) (fun _ h9 => h9) rfl (by decide +kernel) rfl rfl (Nat.le_of_ble_eq_true rfl) dX8_contract_48 (fun H locs hP hD hS => ?_)
    have hP : va_P D vwCl (wX8 cy qSC (qWe 0) (qPa 0) (qHo 0) (qHb 0) (qTa 0) (qRe 0) (qVo 0) (qDr 0) (qDr 0) u1.1 SC_refusedBy ++ (wX3 cy qRe (qTa 0) u1.2.1 u1.2.2.1 ++ (wX4 cy qTa Ta_bytes (0 : Int32) ++ (wX5 cy qAg Ag_kind Ag_amount Ag_mark Ag_clauses ++ (wX5 cy qDr u1.2.2.2.1 u1.2.2.2.2.1 u1.2.2.2.2.2.1 u1.2.2.2.2.2.2))))) H := hP
    have hD : va_D A (wX8 cy qSC (qWe 0) (qPa 0) (qHo 0) (qHb 0) (qTa 0) (qRe 0) (qVo 0) (qDr 0) (qDr 0) u1.1 SC_refusedBy ++ (wX3 cy qRe (qTa 0) u1.2.1 u1.2.2.1 ++ (wX4 cy qTa Ta_bytes (0 : Int32) ++ (wX5 cy qAg Ag_kind Ag_amount Ag_mark Ag_clauses ++ (wX5 cy qDr u1.2.2.2.1 u1.2.2.2.2.1 u1.2.2.2.2.2.1 u1.2.2.2.2.2.2))))) := hD
    refine lv_aload_n hx hb dX8_contract_51 rfl (lv_at hl 1 rfl) ?_
    refine lv_aload_n hx hb dX8_contract_52 rfl (lv_at hl 0 rfl) ?_
    refine va_put (D := D) (ci := 8) (v := .ref (qAg 0)) (ty := .object "SailCargo$Terms") (C := RX8) (T := TX8) (N := 11) hx hb hts i_X8_contract_X8 tyX8 tyX8_ok nmX8 hown hK hP hD hS 0 rfl rfl 8 (by decide) (hts _ m_X8_contract_f69) (fun _ h9 => h9) rfl (by decide +kernel) rfl rfl (Nat.le_of_ble_eq_true rfl) dX8_contract_53 (fun H locs hP hD hS => ?_)
    have hP : va_P D vwCl (wX8 cy qSC (qWe 0) (qPa 0) (qHo 0) (qHb 0) (qTa 0) (qRe 0) (qVo 0) (qDr 0) (qAg 0) u1.1 SC_refusedBy ++ (wX3 cy qRe (qTa 0) u1.2.1 u1.2.2.1 ++ (wX4 cy qTa Ta_bytes (0 : Int32) ++ (wX5 cy qAg Ag_kind Ag_amount Ag_mark Ag_clauses ++ (wX5 cy qDr u1.2.2.2.1 u1.2.2.2.2.1 u1.2.2.2.2.2.1 u1.2.2.2.2.2.2))))) H := hP
    have hD : va_D A (wX8 cy qSC (qWe 0) (qPa 0) (qHo 0) (qHb 0) (qTa 0) (qRe 0) (qVo 0) (qDr 0) (qAg 0) u1.1 SC_refusedBy ++ (wX3 cy qRe (qTa 0) u1.2.1 u1.2.2.1 ++ (wX4 cy qTa Ta_bytes (0 : Int32) ++ (wX5 cy qAg Ag_kind Ag_amount Ag_mark Ag_clauses ++ (wX5 cy qDr u1.2.2.2.1 u1.2.2.2.2.1 u1.2.2.2.2.2.1 u1.2.2.2.2.2.2))))) := hD
    refine lv_aload_n hx hb dX8_contract_56 rfl (lv_at hl 1 rfl) ?_
    refine lv_aload_n hx hb dX8_contract_57 rfl (lv_at hl 1 rfl) ?_
    refine va_get (D := D) (ci := 8) (v := .ref (qDr 0)) (C := RX8) (T := TX8) (N := 11) hx hb hts i_X8_contract_X8 hown hK hP 0 rfl rfl 7 (by decide) (hts _ m_X8_contract_f65) (fun _ h9 => h9) rfl dX8_contract_58 ?_
    refine va_getN (D := D) (ci := 5) (v := .int u1.2.2.2.2.2.2) (C := RX5) (T := TX5) (N := 4) hx hb hts i_X8_contract_X5 hown hK hP 8 rfl rfl 3 (by decide) (va_Nw.use rfl (hN _ nw_X8_180)) (fun _ h9 => h9) rfl dX8_contract_61 ?_
    obtain ⟨u3, eu3, hf⟩ := Option.bind_eq_some_iff.mp hf
    refine cq_i (wc' := fun (u : (Int32)) => (wX8 cy qSC (qWe 0) (qPa 0) (qHo 0) (qHb 0) (qTa 0) (qRe 0) (qVo 0) (qDr 0) (qAg 0) u1.1 u)) (ws' := fun (u : (Int32)) => (wX8 cy qSC (qWe 0) (qPa 0) (qHo 0) (qHb 0) (qTa 0) (qRe 0) (qVo 0) (qDr 0) (qAg 0) u1.1 u ++ (wX3 cy qRe (qTa 0) u1.2.1 u1.2.2.1 ++ (wX4 cy qTa Ta_bytes (0 : Int32) ++ (wX5 cy qAg Ag_kind Ag_amount Ag_mark Ag_clauses ++ (wX5 cy qDr u1.2.2.2.1 u1.2.2.2.2.1 u1.2.2.2.2.2.1 u1.2.2.2.2.2.2)))))) (wc := (wX8 cy qSC (qWe 0) (qPa 0) (qHo 0) (qHb 0) (qTa 0) (qRe 0) (qVo 0) (qDr 0) (qAg 0) u1.1 SC_refusedBy)) (wr := (wX3 cy qRe (qTa 0) u1.2.1 u1.2.2.1 ++ (wX4 cy qTa Ta_bytes (0 : Int32) ++ (wX5 cy qAg Ag_kind Ag_amount Ag_mark Ag_clauses ++ (wX5 cy qDr u1.2.2.2.1 u1.2.2.2.2.1 u1.2.2.2.2.2.1 u1.2.2.2.2.2.2))))) C0 hP hD hS [0] [1, 2, 3, 4, 5, 6, 7, 8, 9, 10, 11] [11, 0, 1, 2, 3, 4, 5, 6, 7, 8, 9, 10] rfl rfl (by decide) (by decide) (by decide) (fun _ => rfl) (va_runV (As := [.int u1.2.2.2.2.2.2]) (rest := []) ⟨hx, hb, hml, hown, hts⟩ (c_X8_answered l D cy qSC qWe qPa qHo qHb qTa qRe qVo qDr qAg u1.1 SC_refusedBy H.size u1.2.2.2.2.2.2 u3 eu3) (cwV 1 hts gX8_contract_X8_answered rfl rfl rfl (by decide +kernel) ⟨Nat.le_of_ble_eq_true rfl, Nat.le_of_ble_eq_true rfl⟩) (pre_V (hP.sub (ws' := (wX8 cy qSC (qWe 0) (qPa 0) (qHo 0) (qHb 0) (qTa 0) (qRe 0) (qVo 0) (qDr 0) (qAg 0) u1.1 SC_refusedBy)) [0] rfl) hK (hD.sub (ws' := (wX8 cy qSC (qWe 0) (qPa 0) (qHo 0) (qHb 0) (qTa 0) (qRe 0) (qVo 0) (qDr 0) (qAg 0) u1.1 SC_refusedBy)) [0] (by decide) rfl) hN 8 0 rfl rfl) rfl rfl hl.1 rfl (lv_room (Nat.le_of_ble_eq_true rfl)) dX8_contract_64 ⟨Nat.zero_le _, Nat.zero_le _⟩) (fun r u H locs hw hP hD hS => ?_)
    obtain ⟨rfl, rfl⟩ := hw
    have hP : va_P D vwCl (wX8 cy qSC (qWe 0) (qPa 0) (qHo 0) (qHb 0) (qTa 0) (qRe 0) (qVo 0) (qDr 0) (qAg 0) u1.1 u3.2 ++ (wX3 cy qRe (qTa 0) u1.2.1 u1.2.2.1 ++ (wX4 cy qTa Ta_bytes (0 : Int32) ++ (wX5 cy qAg Ag_kind Ag_amount Ag_mark Ag_clauses ++ (wX5 cy qDr u1.2.2.2.1 u1.2.2.2.2.1 u1.2.2.2.2.2.1 u1.2.2.2.2.2.2))))) H := hP
    have hD : va_D A (wX8 cy qSC (qWe 0) (qPa 0) (qHo 0) (qHb 0) (qTa 0) (qRe 0) (qVo 0) (qDr 0) (qAg 0) u1.1 u3.2 ++ (wX3 cy qRe (qTa 0) u1.2.1 u1.2.2.1 ++ (wX4 cy qTa Ta_bytes (0 : Int32) ++ (wX5 cy qAg Ag_kind Ag_amount Ag_mark Ag_clauses ++ (wX5 cy qDr u1.2.2.2.1 u1.2.2.2.2.1 u1.2.2.2.2.2.1 u1.2.2.2.2.2.2))))) := hD
    have hP := hP.sub (ws' := (wX8 cy qSC (qWe 0) (qPa 0) (qHo 0) (qHb 0) (qTa 0) (qRe 0) (qVo 0) (qDr 0) (qAg 0) u1.1 u3.2 ++ (wX3 cy qRe (qTa 0) u1.2.1 u1.2.2.1 ++ (wX4 cy qTa Ta_bytes (0 : Int32) ++ (wX5 cy qDr u1.2.2.2.1 u1.2.2.2.2.1 u1.2.2.2.2.2.1 u1.2.2.2.2.2.2 ++ (wX5 cy qAg Ag_kind Ag_amount Ag_mark Ag_clauses)))))) [0, 1, 2, 3, 8, 9, 10, 11, 4, 5, 6, 7] rfl
    have hD := hD.sub (ws' := (wX8 cy qSC (qWe 0) (qPa 0) (qHo 0) (qHb 0) (qTa 0) (qRe 0) (qVo 0) (qDr 0) (qAg 0) u1.1 u3.2 ++ (wX3 cy qRe (qTa 0) u1.2.1 u1.2.2.1 ++ (wX4 cy qTa Ta_bytes (0 : Int32) ++ (wX5 cy qDr u1.2.2.2.1 u1.2.2.2.2.1 u1.2.2.2.2.2.1 u1.2.2.2.2.2.2 ++ (wX5 cy qAg Ag_kind Ag_amount Ag_mark Ag_clauses)))))) [0, 1, 2, 3, 8, 9, 10, 11, 4, 5, 6, 7] (by decide) rfl
    exact rq_i C0 ((u1.1, u3.2, u1.2.1, u1.2.2.1, (0 : Int32), u1.2.2.2.1, u1.2.2.2.2.1, u1.2.2.2.2.2.1, u1.2.2.2.2.2.2, Ag_kind, Ag_amount, Ag_mark, Ag_clauses), (qDr, qAg)) (pr_2 hf) hP hD hS dX8_contract_67
  · have hf := iff_ hf hc2
    refine lv_aload_n hx hb dX8_contract_31 rfl (lv_at hl 0 rfl) ?_
    refine lv_bipush (v := (-6 : Int32)) hx hb dX8_contract_32 (by decide) ?_
    obtain ⟨u4, eu4, hf⟩ := Option.bind_eq_some_iff.mp hf
    refine cq_i (wc' := fun (u : (Int32)) => (wX8 cy qSC (qWe 0) (qPa 0) (qHo 0) (qHb 0) (qTa 0) (qRe 0) (qVo 0) (qAg 0) (qDr 0) u1.1 u)) (ws' := fun (u : (Int32)) => (wX8 cy qSC (qWe 0) (qPa 0) (qHo 0) (qHb 0) (qTa 0) (qRe 0) (qVo 0) (qAg 0) (qDr 0) u1.1 u ++ (wX3 cy qRe (qTa 0) u1.2.1 u1.2.2.1 ++ (wX4 cy qTa Ta_bytes (0 : Int32) ++ (wX5 cy qAg Ag_kind Ag_amount Ag_mark Ag_clauses ++ (wX5 cy qDr u1.2.2.2.1 u1.2.2.2.2.1 u1.2.2.2.2.2.1 u1.2.2.2.2.2.2)))))) (wc := (wX8 cy qSC (qWe 0) (qPa 0) (qHo 0) (qHb 0) (qTa 0) (qRe 0) (qVo 0) (qAg 0) (qDr 0) u1.1 SC_refusedBy)) (wr := (wX3 cy qRe (qTa 0) u1.2.1 u1.2.2.1 ++ (wX4 cy qTa Ta_bytes (0 : Int32) ++ (wX5 cy qAg Ag_kind Ag_amount Ag_mark Ag_clauses ++ (wX5 cy qDr u1.2.2.2.1 u1.2.2.2.2.1 u1.2.2.2.2.2.1 u1.2.2.2.2.2.2))))) C0 hP hD hS [0] [1, 2, 3, 4, 5, 6, 7, 8, 9, 10, 11] [11, 0, 1, 2, 3, 4, 5, 6, 7, 8, 9, 10] rfl rfl (by decide) (by decide) (by decide) (fun _ => rfl) (va_runV (As := [.int (-6 : Int32)]) (rest := []) ⟨hx, hb, hml, hown, hts⟩ (c_X8_answered l D cy qSC qWe qPa qHo qHb qTa qRe qVo qAg qDr u1.1 SC_refusedBy H.size (-6 : Int32) u4 eu4) (cwV 1 hts gX8_contract_X8_answered rfl rfl rfl (by decide +kernel) ⟨Nat.le_of_ble_eq_true rfl, Nat.le_of_ble_eq_true rfl⟩) (pre_V (hP.sub (ws' := (wX8 cy qSC (qWe 0) (qPa 0) (qHo 0) (qHb 0) (qTa 0) (qRe 0) (qVo 0) (qAg 0) (qDr 0) u1.1 SC_refusedBy)) [0] rfl) hK (hD.sub (ws' := (wX8 cy qSC (qWe 0) (qPa 0) (qHo 0) (qHb 0) (qTa 0) (qRe 0) (qVo 0) (qAg 0) (qDr 0) u1.1 SC_refusedBy)) [0] (by decide) rfl) hN 8 0 rfl rfl) rfl rfl hl.1 rfl (lv_room (Nat.le_of_ble_eq_true rfl)) dX8_contract_34 ⟨Nat.zero_le _, Nat.zero_le _⟩) (fun r u H locs hw hP hD hS => ?_)
    obtain ⟨rfl, rfl⟩ := hw
    have hP : va_P D vwCl (wX8 cy qSC (qWe 0) (qPa 0) (qHo 0) (qHb 0) (qTa 0) (qRe 0) (qVo 0) (qAg 0) (qDr 0) u1.1 u4.2 ++ (wX3 cy qRe (qTa 0) u1.2.1 u1.2.2.1 ++ (wX4 cy qTa Ta_bytes (0 : Int32) ++ (wX5 cy qAg Ag_kind Ag_amount Ag_mark Ag_clauses ++ (wX5 cy qDr u1.2.2.2.1 u1.2.2.2.2.1 u1.2.2.2.2.2.1 u1.2.2.2.2.2.2))))) H := hP
    have hD : va_D A (wX8 cy qSC (qWe 0) (qPa 0) (qHo 0) (qHb 0) (qTa 0) (qRe 0) (qVo 0) (qAg 0) (qDr 0) u1.1 u4.2 ++ (wX3 cy qRe (qTa 0) u1.2.1 u1.2.2.1 ++ (wX4 cy qTa Ta_bytes (0 : Int32) ++ (wX5 cy qAg Ag_kind Ag_amount Ag_mark Ag_clauses ++ (wX5 cy qDr u1.2.2.2.1 u1.2.2.2.2.1 u1.2.2.2.2.2.1 u1.2.2.2.2.2.2))))) := hD
    exact rq_i C0 ((u1.1, u4.2, u1.2.1, u1.2.2.1, (0 : Int32), Ag_kind, Ag_amount, Ag_mark, Ag_clauses, u1.2.2.2.1, u1.2.2.2.2.1, u1.2.2.2.2.2.1, u1.2.2.2.2.2.2), (qAg, qDr)) (pr_2 hf) hP hD hS dX8_contract_37

