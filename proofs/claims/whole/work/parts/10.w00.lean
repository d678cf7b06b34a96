set_option maxHeartbeats 4000000 in
set_option maxRecDepth 100000 in
theorem c_X8_isWithin (l : Launch) (D : va_G) (cy : Nat → ClassId)   (sz : Nat) (x0 : Int32) (x1 : Int32) (x2 : Int32) (X : Int32) (hf : f_X8_isWithin x0 x1 x2 = some X) : Met l yX8_isWithin wsX8_isWithin ({ frames := 0, cells := 0, slots := 0, locals := 0 } : Room) (va_Pc [.int x0, .int x1, .int x2] (PW D cy ([] : va_W) sz)) (va_Qi (fun (r : Int32) (_ : Unit) => r = X) (fun u t => BW D cy (va_A ([] : va_W) sz) ([] : va_W) t) (va_A ([] : va_W) sz)) 0 0 (va_A ([] : va_W) sz) := by
  refine met_enter (Qc := fun A => (va_Qi (fun (r : Int32) (_ : Unit) => r = X) (fun u t => BW D cy A ([] : va_W) t) A)) (lv0 := [(0, .int x0), (1, .int x1), (2, .int x2)]) (by decide) rfl (Nat.le_of_ble_eq_true rfl) rfl ?_
  intro p e s m below meth c A ls hnm C0 hP hD hS hl
  generalize hH : s.heap = H at hP ⊢
  generalize hLoc : ([] : List Loc) = locs at hS ⊢
  have hS : va_S A s.heap H locs := by rw [← hH]; exact hS
  have C0 : CX cX8_isWithin 3 (some .boolean) RX8 wsX8_isWithin D cy p s m _ meth c A := C0
  obtain ⟨hx, hb, hr, hml, hown, hts, hK, hA, hN, hlocks⟩ := id C0
  unfold f_X8_isWithin at hf
  refine lv_iload_n hx hb dX8_isWithin_0 rfl (lv_at hl 1 rfl) ?_
  refine lv_iload_n hx hb dX8_isWithin_1 rfl (lv_at hl 0 rfl) ?_
  refine lv_icmp_gt (tgt := 14) hx hb dX8_isWithin_2 (by decide) (fun hc1 => ?_) (fun hc1 => ?_)
  · have hf := ift hf hc1
    refine lv_iconst (v := (0 : Int32)) hx hb dX8_isWithin_14 (by decide) ?_
    exact rq_z C0 (by decide) () (Option.some.inj hf) hP hD hS dX8_isWithin_15
  · have hf := iff_ hf hc1
    refine lv_iload_n hx hb dX8_isWithin_5 rfl (lv_at hl 0 rfl) ?_
    refine lv_iload_n hx hb dX8_isWithin_6 rfl (lv_at hl 2 rfl) ?_
    refine lv_icmp_gt (tgt := 14) hx hb dX8_isWithin_7 (by decide) (fun hc2 => ?_) (fun hc2 => ?_)
    · have hf := ift hf hc2
      refine lv_iconst (v := (0 : Int32)) hx hb dX8_isWithin_14 (by decide) ?_
      exact rq_z C0 (by decide) () (Option.some.inj hf) hP hD hS dX8_isWithin_15
    · have hf := iff_ hf hc2
      refine lv_iconst (v := (1 : Int32)) hx hb dX8_isWithin_10 (by decide) ?_
      refine lv_goto (tgt := 15) hx hb dX8_isWithin_11 (by decide) ?_
      exact rq_z C0 (by decide) () (Option.some.inj hf) hP hD hS dX8_isWithin_15

theorem m_X0_isPort_s_X8_isWithin : Cond.static yX8_isWithin ∈ wsX0_isPort := by decide +kernel
theorem m_X0_isPort_i_X8 : Cond.initialized RX8 ∈ wsX0_isPort := by decide +kernel
set_option maxHeartbeats 4000000 in
set_option maxRecDepth 100000 in
theorem c_X0_isPort (l : Launch) (D : va_G) (cy : Nat → ClassId)   (sz : Nat) (x0 : Int32) (X : Int32) (hf : f_X0_isPort x0 = some X) : Met l yX0_isPort wsX0_isPort ({ frames := 1, cells := 0, slots := 0, locals := 22 } : Room) (va_Pc [.int x0] (PW D cy ([] : va_W) sz)) (va_Qi (fun (r : Int32) (_ : Unit) => r = X) (fun u t => BW D cy (va_A ([] : va_W) sz) ([] : va_W) t) (va_A ([] : va_W) sz)) 0 0 (va_A ([] : va_W) sz) := by
  refine met_enter (Qc := fun A => (va_Qi (fun (r : Int32) (_ : Unit) => r = X) (fun u t => BW D cy A ([] : va_W) t) A)) (lv0 := [(0, .int x0)]) (by decide) rfl (Nat.le_of_ble_eq_true rfl) rfl ?_
  intro p e s m below meth c A ls hnm C0 hP hD hS hl
  generalize hH : s.heap = H at hP ⊢
  generalize hLoc : ([] : List Loc) = locs at hS ⊢
  have hS : va_S A s.heap H locs := by rw [← hH]; exact hS
  have C0 : CX cX0_isPort 1 (some .boolean) RX0 wsX0_isPort D cy p s m _ meth c A := C0
  obtain ⟨hx, hb, hr, hml, hown, hts, hK, hA, hN, hlocks⟩ := id C0
  unfold f_X0_isPort at hf
  refine lv_iload_n hx hb dX0_isPort_0 rfl (lv_at hl 0 rfl) ?_
  refine lv_iconst (v := (0 : Int32)) hx hb dX0_isPort_1 (by decide) ?_
  refine lv_iconst (v := (5 : Int32)) hx hb dX0_isPort_2 (by decide) ?_
  obtain ⟨u1, eu1, hf⟩ := Option.bind_eq_some_iff.mp hf
  refine cq_i (wc' := fun (u : Unit) => ([] : va_W)) (ws' := fun (u : Unit) => ([] : va_W)) (wc := ([] : va_W)) (wr := ([] : va_W)) C0 hP hD hS [] [] [] rfl rfl (by decide) (by decide) (by decide) (fun _ => rfl) (va_runSN (As := [.int x0, .int (0 : Int32), .int (5 : Int32)]) (rest := []) ⟨hx, hb, hml, hown, hts⟩ (c_X8_isWithin l D cy   H.size x0 (0 : Int32) (5 : Int32) u1 eu1) ⟨va_cnB 3 hts gX0_isPort_X8_isWithin_n31 rfl rfl rfl (hN _ nw_X0_31) (hts _ m_X0_isPort_i_X8) (by decide +kernel) ⟨Nat.le_of_ble_eq_true rfl, Nat.le_of_ble_eq_true rfl⟩, hts _ m_X0_isPort_s_X8_isWithin, trivial⟩ (pre_S (hP.sub (ws' := ([] : va_W)) [] rfl) hK (hD.sub (ws' := ([] : va_W)) [] (by decide) rfl) hN) rfl rfl hl.1 rfl (lv_room (Nat.le_of_ble_eq_true rfl)) dX0_isPort_3 ⟨Nat.zero_le _, Nat.zero_le _⟩) (fun r u H locs hw hP hD hS => ?_)
  have hw := hw.symm
  subst hw
  have hP : va_P D vwCl ([] : va_W) H := hP
  have hD : va_D A ([] : va_W) := hD
  obtain ⟨hz2, hf⟩ := ifn hf
  exact rq_z C0 (isb_nar hz2) () (Option.some.inj hf) hP hD hS dX0_isPort_6

theorem i_X0_setBerths_X0 : ∀ w ∈ wsX00, w ∈ wsX0_setBerths := by decide +kernel
theorem m_X0_setBerths_f39 : Cond.fieldLink RX0 39 "SailCargo$Harbour" "told" "I" ∈ wsX0_setBerths := by decide +kernel
theorem m_X0_setBerths_f11 : Cond.fieldLink RX0 11 "SailCargo$Harbour" "berthsOf" "[I" ∈ wsX0_setBerths := by decide +kernel
theorem m_X0_setBerths_f27 : Cond.fieldLink RX0 27 "SailCargo$Harbour" "isGivenUp" "[Z" ∈ wsX0_setBerths := by decide +kernel
theorem m_X0_setBerths_f15 : Cond.fieldLink RX0 15 "SailCargo$Harbour" "port" "[I" ∈ wsX0_setBerths := by decide +kernel
theorem m_X0_setBerths_f18 : Cond.fieldLink RX0 18 "SailCargo$Harbour" "berth" "[I" ∈ wsX0_setBerths := by decide +kernel
theorem m_X0_setBerths_s_X8_isWithin : Cond.static yX8_isWithin ∈ wsX0_setBerths := by decide +kernel
theorem m_X0_setBerths_i_X8 : Cond.initialized RX8 ∈ wsX0_setBerths := by decide +kernel
set_option maxHeartbeats 4000000 in
set_option maxRecDepth 100000 in
theorem w_X0_setBerths_63 {p : Program} {l : Launch} {e : Env} {s : State} {m : MethodId} {args : Array Value} {below : List Frame} {meth : Method} {c : Code} {A : Nat → Prop} {D : va_G} {cy : Nat → ClassId} {qHb : Nat → Nat} {Hb_port Hb_berth Hb_first Hb_last Hb_isGivenUp : Nat → Int32} {Hb_told Hb_held : Int32} {X : Int32 × (Nat → Int32)} {kh23 : (Nat → Int32) → Int32 → Int32 → Int32 → Option (Int32 × (Nat → Int32))} (C0 : CX cX0_setBerths 4 (some .int) RX0 wsX0_setBerths D cy p s m args meth c A) (hk23 : ∀ (Hb_berthsOf : Nat → Int32) (x1 : Int32) (x2 : Int32) (x3 : Int32), kh23 Hb_berthsOf x1 x2 x3 = some X → ∀ (H : Heap) (locs : List Loc) (ls : Array Slot), va_P D vwCl (wX0 cy qHb Hb_berthsOf Hb_port Hb_berth Hb_first Hb_last Hb_isGivenUp Hb_told Hb_held) H → va_D A (wX0 cy qHb Hb_berthsOf Hb_port Hb_berth Hb_first Hb_last Hb_isGivenUp Hb_told Hb_held) → va_S A s.heap H locs → lv_has ls 4 [(0, .ref (qHb 0)), (1, .int x1), (2, .int x2), (3, .int x3)] → W p l e ({ frames := 2, cells := 0, slots := 0, locals := 42 } : Room) s m args below meth c H locs 0 0 (MQ below (va_Qi (fun (r : Int32) (u : (Nat → Int32)) => r = X.1 ∧ u = X.2) (fun u t => BW D cy A (wX0 cy qHb u Hb_port Hb_berth Hb_first Hb_last Hb_isGivenUp Hb_told Hb_held) t) A) args s 0 0 A) (F0 m 23 ls [])) (Hb_berthsOf : Nat → Int32) (x1 : Int32) (x2 : Int32) (x3 : Int32) (hf : f_X0_setBerths_63 Hb_port Hb_berth Hb_isGivenUp Hb_told kh23 Hb_berthsOf x1 x2 x3 = some X) : ∀ (H : Heap) (locs : List Loc) (ls : Array Slot), va_P D vwCl (wX0 cy qHb Hb_berthsOf Hb_port Hb_berth Hb_first Hb_last Hb_isGivenUp Hb_told Hb_held) H → va_D A (wX0 cy qHb Hb_berthsOf Hb_port Hb_berth Hb_first Hb_last Hb_isGivenUp Hb_told Hb_held) → va_S A s.heap H locs → lv_has ls 4 [(0, .ref (qHb 0)), (1, .int x1), (2, .int x2), (3, .int x3)] → W p l e ({ frames := 2, cells := 0, slots := 0, locals := 42 } : Room) s m args below meth c H locs 0 0 (MQ below (va_Qi (fun (r : Int32) (u : (Nat → Int32)) => r = X.1 ∧ u = X.2) (fun u t => BW D cy A (wX0 cy qHb u Hb_port Hb_berth Hb_first Hb_last Hb_isGivenUp Hb_told Hb_held) t) A) args s 0 0 A) (F0 m 63 ls []) := by
  obtain ⟨hx, hb, hr, hml, hown, hts, hK, hA, hN, hlocks⟩ := id C0
  intro H locs ls hP hD hS hl
  unfold f_X0_setBerths_63 at hf
  refine lv_iinc (v := (x3 + 1)) (lv' := [(3, .int (x3 + 1)), (0, .ref (qHb 0)), (1, .int x1), (2, .int x2)]) hx hb dX0_setBerths_63 hl (k := 3) rfl rfl (by decide) rfl (fun ls hl => ?_)
  refine lv_goto (tgt := 23) hx hb dX0_setBerths_66 (by decide) ?_
  exact hk23 Hb_berthsOf x1 x2 (x3 + 1) hf H locs ls hP hD hS (lv_sub hl [1, 2, 3, 0] rfl)

set_option maxHeartbeats 4000000 in
set_option maxRecDepth 100000 in
theorem w_X0_setBerths_23 {p : Program} {l : Launch} {e : Env} {s : State} {m : MethodId} {args : Array Value} {below : List Frame} {meth : Method} {c : Code} {A : Nat → Prop} {D : va_G} {cy : Nat → ClassId} {qHb : Nat → Nat} {Hb_port Hb_berth Hb_first Hb_last Hb_isGivenUp : Nat → Int32} {Hb_told Hb_held : Int32} {X : Int32 × (Nat → Int32)}  (C0 : CX cX0_setBerths 4 (some .int) RX0 wsX0_setBerths D cy p s m args meth c A)  : ∀ (n : Nat) (Hb_berthsOf : Nat → Int32) (x1 : Int32) (x2 : Int32) (x3 : Int32), g_X0_setBerths_23 Hb_port Hb_berth Hb_isGivenUp Hb_told n Hb_berthsOf x1 x2 x3 = some X → ∀ (H : Heap) (locs : List Loc) (ls : Array Slot), va_P D vwCl (wX0 cy qHb Hb_berthsOf Hb_port Hb_berth Hb_first Hb_last Hb_isGivenUp Hb_told Hb_held) H → va_D A (wX0 cy qHb Hb_berthsOf Hb_port Hb_berth Hb_first Hb_last Hb_isGivenUp Hb_told Hb_held) → va_S A s.heap H locs → lv_has ls 4 [(0, .ref (qHb 0)), (1, .int x1), (2, .int x2), (3, .int x3)] → W p l e ({ frames := 2, cells := 0, slots := 0, locals := 42 } : Room) s m args below meth c H locs 0 0 (MQ below (va_Qi (fun (r : Int32) (u : (Nat → Int32)) => r = X.1 ∧ u = X.2) (fun u t => BW D cy A (wX0 cy qHb u Hb_port Hb_berth Hb_first Hb_last Hb_isGivenUp Hb_told Hb_held) t) A) args s 0 0 A) (F0 m 23 ls []) := by
  obtain ⟨hx, hb, hr, hml, hown, hts, hK, hA, hN, hlocks⟩ := id C0
  intro n
  induction n with
  | zero => intro Hb_berthsOf x1 x2 x3 hf; exact (no_some hf).elim
  | succ n hk23 =>
    intro Hb_berthsOf x1 x2 x3 hf H locs ls hP hD hS hl
    have hf : f_X0_setBerths_23 Hb_port Hb_berth Hb_isGivenUp Hb_told (fun Hb_berthsOf x1 x2 x3 => g_X0_setBerths_23 Hb_port Hb_berth Hb_isGivenUp Hb_told n Hb_berthsOf x1 x2 x3) Hb_berthsOf x1 x2 x3 = some X := hf
    unfold f_X0_setBerths_23 at hf
    refine lv_iload_n hx hb dX0_setBerths_23 rfl (lv_at hl 3 rfl) ?_
    refine lv_aload_n hx hb dX0_setBerths_24 rfl (lv_at hl 0 rfl) ?_
    refine va_get (D := D) (ci := 0) (v := .int Hb_told) (C := RX0) (T := TX0) (N := 8) hx hb hts i_X0_setBerths_X0 hown hK hP 0 rfl rfl 6 (by decide) (hts _ m_X0_setBerths_f39) (fun _ h9 => h9) rfl dX0_setBerths_25 ?_
    refine lv_icmp_ge (tgt := 69) hx hb dX0_setBerths_28 (by decide) (fun hc1 => ?_) (fun hc1 => ?_)
    · have hf := ift hf hc1
      refine lv_aload_n hx hb dX0_setBerths_69 rfl (lv_at hl 0 rfl) ?_
      refine va_get (D := D) (ci := 0) (v := .ref (qHb 1)) (C := RX0) (T := TX0) (N := 8) hx hb hts i_X0_setBerths_X0 hown hK hP 0 rfl rfl 0 (by decide) (hts _ m_X0_setBerths_f11) (fun _ h9 => h9) rfl dX0_setBerths_70 ?_
      refine lv_iload_n hx hb dX0_setBerths_73 rfl (lv_at hl 1 rfl) ?_
      obtain ⟨hz2, hf⟩ := ifn hf
      refine va_iald hx hb hK hP 1 0 rfl rfl (inb_in hz2) dX0_setBerths_74 ?_
      refine lv_istore_n (lv' := [(3, .int (Hb_berthsOf x1.toNatClampNeg)), (0, .ref (qHb 0)), (1, .int x1), (2, .int x2)]) hx hb dX0_setBerths_75 rfl hl (by decide) rfl (fun ls hl => ?_)
      refine lv_aload_n hx hb dX0_setBerths_76 rfl (lv_at hl 1 rfl) ?_
      refine va_get (D := D) (ci := 0) (v := .ref (qHb 1)) (C := RX0) (T := TX0) (N := 8) hx hb hts i_X0_setBerths_X0 hown hK hP 0 rfl rfl 0 (by decide) (hts _ m_X0_setBerths_f11) (fun _ h9 => h9) rfl dX0_setBerths_77 ?_
      refine lv_iload_n hx hb dX0_setBerths_80 rfl (lv_at hl 2 rfl) ?_
      refine lv_iload_n hx hb dX0_setBerths_81 rfl (lv_at hl 3 rfl) ?_
      refine va_iast hx hb hK hP hD hS 1 0 rfl rfl (inb_in hz2) dX0_setBerths_82 (fun H locs hP hD hS => ?_)
      have hP : va_P D vwCl (wX0 cy qHb (upd Hb_berthsOf x1.toNatClampNeg x2) Hb_port Hb_berth Hb_first Hb_last Hb_isGivenUp Hb_told Hb_held) H := hP
      have hD : va_D A (wX0 cy qHb (upd Hb_berthsOf x1.toNatClampNeg x2) Hb_port Hb_berth Hb_first Hb_last Hb_isGivenUp Hb_told Hb_held) := hD
      refine lv_iload_n hx hb dX0_setBerths_83 rfl (lv_at hl 0 rfl) ?_
      exact rq_i C0 (upd Hb_berthsOf x1.toNatClampNeg x2) (pr_2 hf) hP hD hS dX0_setBerths_84
    · have hf := iff_ hf hc1
      refine lv_aload_n hx hb dX0_setBerths_31 rfl (lv_at hl 0 rfl) ?_
      refine va_get (D := D) (ci := 0) (v := .ref (qHb 6)) (C := RX0) (T := TX0) (N := 8) hx hb hts i_X0_setBerths_X0 hown hK hP 0 rfl rfl 5 (by decide) (hts _ m_X0_setBerths_f27) (fun _ h9 => h9) rfl dX0_setBerths_32 ?_
      refine lv_iload_n hx hb dX0_setBerths_35 rfl (lv_at hl 3 rfl) ?_
      obtain ⟨hz3, hf⟩ := ifn hf
      refine va_zald hx hb hK hP 6 2 rfl rfl (inb_in hz3) dX0_setBerths_36 ?_
      refine lv_if_ne (tgt := 63) hx hb dX0_setBerths_37 (by decide) (fun hc4 => ?_) (fun hc4 => ?_)
      · have hf := iff_ hf hc4
        exact w_X0_setBerths_63 C0 hk23 Hb_berthsOf x1 x2 x3 hf H locs ls hP hD hS (lv_sub hl [0, 1, 2, 3] rfl)
      · have hf := ift hf hc4
        refine lv_aload_n hx hb dX0_setBerths_40 rfl (lv_at hl 0 rfl) ?_
        refine va_get (D := D) (ci := 0) (v := .ref (qHb 2)) (C := RX0) (T := TX0) (N := 8) hx hb hts i_X0_setBerths_X0 hown hK hP 0 rfl rfl 1 (by decide) (hts _ m_X0_setBerths_f15) (fun _ h9 => h9) rfl dX0_setBerths_41 ?_
        refine lv_iload_n hx hb dX0_setBerths_44 rfl (lv_at hl 3 rfl) ?_
        refine va_iald hx hb hK hP 2 0 rfl rfl (inb_in hz3) dX0_setBerths_45 ?_
        refine lv_iload_n hx hb dX0_setBerths_46 rfl (lv_at hl 1 rfl) ?_
        refine lv_icmp_ne (tgt := 63) hx hb dX0_setBerths_47 (by decide) (fun hc5 => ?_) (fun hc5 => ?_)
        · have hf := iff_ hf hc5
          exact w_X0_setBerths_63 C0 hk23 Hb_berthsOf x1 x2 x3 hf H locs ls hP hD hS (lv_sub hl [0, 1, 2, 3] rfl)
        · have hf := ift hf hc5
          refine lv_aload_n hx hb dX0_setBerths_50 rfl (lv_at hl 0 rfl) ?_
          refine va_get (D := D) (ci := 0) (v := .ref (qHb 3)) (C := RX0) (T := TX0) (N := 8) hx hb hts i_X0_setBerths_X0 hown hK hP 0 rfl rfl 2 (by decide) (hts _ m_X0_setBerths_f18) (fun _ h9 => h9) rfl dX0_setBerths_51 ?_
          refine lv_iload_n hx hb dX0_setBerths_54 rfl (lv_at hl 3 rfl) ?_
          refine va_iald hx hb hK hP 3 0 rfl rfl (inb_in hz3) dX0_setBerths_55 ?_
          refine lv_iload_n hx hb dX0_setBerths_56 rfl (lv_at hl 2 rfl) ?_
          refine lv_icmp_lt (tgt := 63) hx hb dX0_setBerths_57 (by decide) (fun hc6 => ?_) (fun hc6 => ?_)
          · have hf := ift hf hc6
            exact w_X0_setBerths_63 C0 hk23 Hb_berthsOf x1 x2 x3 hf H locs ls hP hD hS (lv_sub hl [0, 1, 2, 3] rfl)
          · have hf := iff_ hf hc6
            refine lv_bipush (v := (-3 : Int32)) hx hb dX0_setBerths_60 (by decide) ?_
            exact rq_i C0 Hb_berthsOf (pr_2 hf) hP hD hS dX0_setBerths_62

set_option maxHeartbeats 4000000 in
set_option maxRecDepth 100000 in
theorem c_X0_setBerths (l : Launch) (D : va_G) (cy : Nat → ClassId) (qHb : Nat → Nat) (Hb_berthsOf : Nat → Int32) (Hb_port : Nat → Int32) (Hb_berth : Nat → Int32) (Hb_first : Nat → Int32) (Hb_last : Nat → Int32) (Hb_isGivenUp : Nat → Int32) (Hb_told : Int32) (Hb_held : Int32) (sz : Nat) (x1 : Int32) (x2 : Int32) (X : Int32 × (Nat → Int32)) (hf : f_X0_setBerths Hb_berthsOf Hb_port Hb_berth Hb_isGivenUp Hb_told x1 x2 = some X) : Met l yX0_setBerths wsX0_setBerths ({ frames := 2, cells := 0, slots := 0, locals := 42 } : Room) (va_Pc [.ref (qHb 0), .int x1, .int x2] (PW D cy (wX0 cy qHb Hb_berthsOf Hb_port Hb_berth Hb_first Hb_last Hb_isGivenUp Hb_told Hb_held) sz)) (va_Qi (fun (r : Int32) (u : (Nat → Int32)) => r = X.1 ∧ u = X.2) (fun u t => BW D cy (va_A (wX0 cy qHb Hb_berthsOf Hb_port Hb_berth Hb_first Hb_last Hb_isGivenUp Hb_told Hb_held) sz) (wX0 cy qHb u Hb_port Hb_berth Hb_first Hb_last Hb_isGivenUp Hb_told Hb_held) t) (va_A (wX0 cy qHb Hb_berthsOf Hb_port Hb_berth Hb_first Hb_last Hb_isGivenUp Hb_told Hb_held) sz)) 0 0 (va_A (wX0 cy qHb Hb_berthsOf Hb_port Hb_berth Hb_first Hb_last Hb_isGivenUp Hb_told Hb_held) sz) := by
  refine met_enter (Qc := fun A => (va_Qi (fun (r : Int32) (u : (Nat → Int32)) => r = X.1 ∧ u = X.2) (fun u t => BW D cy A (wX0 cy qHb u Hb_port Hb_berth Hb_first Hb_last Hb_isGivenUp Hb_told Hb_held) t) A)) (lv0 := [(0, .ref (qHb 0)), (1, .int x1), (2, .int x2)]) (by decide) rfl (Nat.le_of_ble_eq_true rfl) rfl ?_
  intro p e s m below meth c A ls hnm C0 hP hD hS hl
  generalize hH : s.heap = H at hP ⊢
  generalize hLoc : ([] : List Loc) = locs at hS ⊢
  have hS : va_S A s.heap H locs := by rw [← hH]; exact hS
  have C0 : CX cX0_setBerths 4 (some .int) RX0 wsX0_setBerths D cy p s m _ meth c A := C0
  obtain ⟨hx, hb, hr, hml, hown, hts, hK, hA, hN, hlocks⟩ := id C0
  unfold f_X0_setBerths at hf
  refine lv_iload_n hx hb dX0_setBerths_0 rfl (lv_at hl 2 rfl) ?_
  refine lv_iconst (v := (1 : Int32)) hx hb dX0_setBerths_1 (by decide) ?_
  refine lv_iconst (v := (3 : Int32)) hx hb dX0_setBerths_2 (by decide) ?_
  obtain ⟨u7, eu7, hf⟩ := Option.bind_eq_some_iff.mp hf
  refine cq_i (wc' := fun (u : Unit) => ([] : va_W)) (ws' := fun (u : Unit) => (wX0 cy qHb Hb_berthsOf Hb_port Hb_berth Hb_first Hb_last Hb_isGivenUp Hb_told Hb_held)) (wc := ([] : va_W)) (wr := (wX0 cy qHb Hb_berthsOf Hb_port Hb_berth Hb_first Hb_last Hb_isGivenUp Hb_told Hb_held)) C0 hP hD hS [] [0, 1, 2, 3, 4, 5, 6] [0, 1, 2, 3, 4, 5, 6] rfl rfl (by decide) (by decide) (by decide) (fun _ => rfl) (va_runSN (As := [.int x2, .int (1 : Int32), .int (3 : Int32)]) (rest := []) ⟨hx, hb, hml, hown, hts⟩ (c_X8_isWithin l D cy   H.size x2 (1 : Int32) (3 : Int32) u7 eu7) ⟨va_cnB 3 hts gX0_setBerths_X8_isWithin_n31 rfl rfl rfl (hN _ nw_X0_31) (hts _ m_X0_setBerths_i_X8) (by decide +kernel) ⟨Nat.le_of_ble_eq_true rfl, Nat.le_of_ble_eq_true rfl⟩, hts _ m_X0_setBerths_s_X8_isWithin, trivial⟩ (pre_S (hP.sub (ws' := ([] : va_W)) [] rfl) hK (hD.sub (ws' := ([] : va_W)) [] (by decide) rfl) hN) rfl rfl hl.1 rfl (lv_room (Nat.le_of_ble_eq_true rfl)) dX0_setBerths_3 ⟨Nat.zero_le _, Nat.zero_le _⟩) (fun r u H locs hw hP hD hS => ?_)
  have hw := hw.symm
  subst hw
  have hP : va_P D vwCl (wX0 cy qHb Hb_berthsOf Hb_port Hb_berth Hb_first Hb_last Hb_isGivenUp Hb_told Hb_held) H := hP
  have hD : va_D A (wX0 cy qHb Hb_berthsOf Hb_port Hb_berth Hb_first Hb_last Hb_isGivenUp Hb_told Hb_held) := hD
  refine lv_if_ne (tgt := 11) hx hb dX0_setBerths_6 (by decide) (fun hc8 => ?_) (fun hc8 => ?_)
  · have hf := iff_ hf hc8
    refine lv_iload_n hx hb dX0_setBerths_11 rfl (lv_at hl 1 rfl) ?_
    obtain ⟨u9, eu9, hf⟩ := Option.bind_eq_some_iff.mp hf
    refine cq_i (wc' := fun (u : Unit) => ([] : va_W)) (ws' := fun (u : Unit) => (wX0 cy qHb Hb_berthsOf Hb_port Hb_berth Hb_first Hb_last Hb_isGivenUp Hb_told Hb_held)) (wc := ([] : va_W)) (wr := (wX0 cy qHb Hb_berthsOf Hb_port Hb_berth Hb_first Hb_last Hb_isGivenUp Hb_told Hb_held)) C0 hP hD hS [] [0, 1, 2, 3, 4, 5, 6] [0, 1, 2, 3, 4, 5, 6] rfl rfl (by decide) (by decide) (by decide) (fun _ => rfl) (va_runS (As := [.int x1]) (rest := []) ⟨hx, hb, hml, hown, hts⟩ (c_X0_isPort l D cy   H.size x1 u9 eu9) (va_cwS 1 hts gX0_setBerths_X0_isPort rfl rfl rfl (by decide +kernel) ⟨Nat.le_of_ble_eq_true rfl, Nat.le_of_ble_eq_true rfl⟩) (pre_S (hP.sub (ws' := ([] : va_W)) [] rfl) hK (hD.sub (ws' := ([] : va_W)) [] (by decide) rfl) hN) rfl rfl hl.1 rfl (lv_room (Nat.le_of_ble_eq_true rfl)) dX0_setBerths_12 ⟨Nat.zero_le _, Nat.zero_le _⟩) (fun r u H locs hw hP hD hS => ?_)
    have hw := hw.symm
    subst hw
    have hP : va_P D vwCl (wX0 cy qHb Hb_berthsOf Hb_port Hb_berth Hb_first Hb_last Hb_isGivenUp Hb_told Hb_held) H := hP
    have hD : va_D A (wX0 cy qHb Hb_berthsOf Hb_port Hb_berth Hb_first Hb_last Hb_isGivenUp Hb_told Hb_held) := hD
    refine lv_if_ne (tgt := 21) hx hb dX0_setBerths_15 (by decide) (fun hc10 => ?_) (fun hc10 => ?_)
    · have hf := iff_ hf hc10
      refine lv_iconst (v := (0 : Int32)) hx hb dX0_setBerths_21 (by decide) ?_
      refine lv_istore_n (lv' := [(3, .int (0 : Int32)), (0, .ref (qHb 0)), (1, .int x1), (2, .int x2)]) hx hb dX0_setBerths_22 rfl hl (by decide) rfl (fun ls hl => ?_)
      exact w_X0_setBerths_23 C0  FU Hb_berthsOf x1 x2 (0 : Int32) hf H locs ls hP hD hS (lv_sub hl [1, 2, 3, 0] rfl)
    · have hf := ift hf hc10
      refine lv_bipush (v := (-2 : Int32)) hx hb dX0_setBerths_18 (by decide) ?_
      exact rq_i C0 Hb_berthsOf (pr_2 hf) hP hD hS dX0_setBerths_20
  · have hf := ift hf hc8
    refine lv_iconst (v := (-1 : Int32)) hx hb dX0_setBerths_9 (by decide) ?_
    exact rq_i C0 Hb_berthsOf (pr_2 hf) hP hD hS dX0_setBerths_10

theorem i_X0_slotInTheWay_X0 : ∀ w ∈ wsX00, w ∈ wsX0_slotInTheWay := by decide +kernel
theorem m_X0_slotInTheWay_f39 : Cond.fieldLink RX0 39 "SailCargo$Harbour" "told" "I" ∈ wsX0_slotInTheWay := by decide +kernel
theorem m_X0_slotInTheWay_f27 : Cond.fieldLink RX0 27 "SailCargo$Harbour" "isGivenUp" "[Z" ∈ wsX0_slotInTheWay := by decide +kernel
theorem m_X0_slotInTheWay_f15 : Cond.fieldLink RX0 15 "SailCargo$Harbour" "port" "[I" ∈ wsX0_slotInTheWay := by decide +kernel
theorem m_X0_slotInTheWay_f18 : Cond.fieldLink RX0 18 "SailCargo$Harbour" "berth" "[I" ∈ wsX0_slotInTheWay := by decide +kernel
theorem m_X0_slotInTheWay_f21 : Cond.fieldLink RX0 21 "SailCargo$Harbour" "first" "[I" ∈ wsX0_slotInTheWay := by decide +kernel
theorem m_X0_slotInTheWay_f24 : Cond.fieldLink RX0 24 "SailCargo$Harbour" "last" "[I" ∈ wsX0_slotInTheWay := by decide +kernel
set_option maxHeartbeats 4000000 in
set_option maxRecDepth 100000 in
theorem w_X0_slotInTheWay_70 {p : Program} {l : Launch} {e : Env} {s : State} {m : MethodId} {args : Array Value} {below : List Frame} {meth : Method} {c : Code} {A : Nat → Prop} {D : va_G} {cy : Nat → ClassId} {qHb : Nat → Nat} {Hb_berthsOf Hb_port Hb_berth Hb_first Hb_last Hb_isGivenUp : Nat → Int32} {Hb_told Hb_held : Int32} {X : Int32} {kh3 : Int32 → Int32 → Int32 → Int32 → Int32 → Option (Int32)} (C0 : CX cX0_slotInTheWay 6 (some .int) RX0 wsX0_slotInTheWay D cy p s m args meth c A) (hk3 : ∀  (x1 : Int32) (x2 : Int32) (x3 : Int32) (x4 : Int32) (x5 : Int32), kh3 x1 x2 x3 x4 x5 = some X → ∀ (H : Heap) (locs : List Loc) (ls : Array Slot), va_P D vwCl (wX0 cy qHb Hb_berthsOf Hb_port Hb_berth Hb_first Hb_last Hb_isGivenUp Hb_told Hb_held) H → va_D A (wX0 cy qHb Hb_berthsOf Hb_port Hb_berth Hb_first Hb_last Hb_isGivenUp Hb_told Hb_held) → va_S A s.heap H locs → lv_has ls 6 [(0, .ref (qHb 0)), (1, .int x1), (2, .int x2), (3, .int x3), (4, .int x4), (5, .int x5)] → W p l e ({ frames := 0, cells := 0, slots := 0, locals := 0 } : Room) s m args below meth c H locs 0 0 (MQ below (va_Qi (fun (r : Int32) (_ : Unit) => r = X) (fun u t => BW D cy A (wX0 cy qHb Hb_berthsOf Hb_port Hb_berth Hb_first Hb_last Hb_isGivenUp Hb_told Hb_held) t) A) args s 0 0 A) (F0 m 3 ls []))  (x1 : Int32) (x2 : Int32) (x3 : Int32) (x4 : Int32) (x5 : Int32) (hf : f_X0_slotInTheWay_70 Hb_port Hb_berth Hb_first Hb_last Hb_isGivenUp Hb_told kh3 x1 x2 x3 x4 x5 = some X) : ∀ (H : Heap) (locs : List Loc) (ls : Array Slot), va_P D vwCl (wX0 cy qHb Hb_berthsOf Hb_port Hb_berth Hb_first Hb_last Hb_isGivenUp Hb_told Hb_held) H → va_D A (wX0 cy qHb Hb_berthsOf Hb_port Hb_berth Hb_first Hb_last Hb_isGivenUp Hb_told Hb_held) → va_S A s.heap H locs → lv_has ls 6 [(0, .ref (qHb 0)), (1, .int x1), (2, .int x2), (3, .int x3), (4, .int x4), (5, .int x5)] → W p l e ({ frames := 0, cells := 0, slots := 0, locals := 0 } : Room) s m args below meth c H locs 0 0 (MQ below (va_Qi (fun (r : Int32) (_ : Unit) => r = X) (fun u t => BW D cy A (wX0 cy qHb Hb_berthsOf Hb_port Hb_berth Hb_first Hb_last Hb_isGivenUp Hb_told Hb_held) t) A) args s 0 0 A) (F0 m 70 ls []) := by
  obtain ⟨hx, hb, hr, hml, hown, hts, hK, hA, hN, hlocks⟩ := id C0
  intro H locs ls hP hD hS hl
  unfold f_X0_slotInTheWay_70 at hf
  refine lv_iinc (v := (x5 + 1)) (lv' := [(5, .int (x5 + 1)), (0, .ref (qHb 0)), (1, .int x1), (2, .int x2), (3, .int x3), (4, .int x4)]) hx hb dX0_slotInTheWay_70 hl (k := 5) rfl rfl (by decide) rfl (fun ls hl => ?_)
  refine lv_goto (tgt := 3) hx hb dX0_slotInTheWay_73 (by decide) ?_
  exact hk3 x1 x2 x3 x4 (x5 + 1) hf H locs ls hP hD hS (lv_sub hl [1, 2, 3, 4, 5, 0] rfl)

set_option maxHeartbeats 4000000 in
set_option maxRecDepth 100000 in
theorem w_X0_slotInTheWay_3 {p : Program} {l : Launch} {e : Env} {s : State} {m : MethodId} {args : Array Value} {below : List Frame} {meth : Method} {c : Code} {A : Nat → Prop} {D : va_G} {cy : Nat → ClassId} {qHb : Nat → Nat} {Hb_berthsOf Hb_port Hb_berth Hb_first Hb_last Hb_isGivenUp : Nat → Int32} {Hb_told Hb_held : Int32} {X : Int32}  (C0 : CX cX0_slotInTheWay 6 (some .int) RX0 wsX0_slotInTheWay D cy p s m args meth c A)  : ∀ (n : Nat)  (x1 : Int32) (x2 : Int32) (x3 : Int32) (x4 : Int32) (x5 : Int32), g_X0_slotInTheWay_3 Hb_port Hb_berth Hb_first Hb_last Hb_isGivenUp Hb_told n x1 x2 x3 x4 x5 = some X → ∀ (H : Heap) (locs : List Loc) (ls : Array Slot), va_P D vwCl (wX0 cy qHb Hb_berthsOf Hb_port Hb_berth Hb_first Hb_last Hb_isGivenUp Hb_told Hb_held) H → va_D A (wX0 cy qHb Hb_berthsOf Hb_port Hb_berth Hb_first Hb_last Hb_isGivenUp Hb_told Hb_held) → va_S A s.heap H locs → lv_has ls 6 [(0, .ref (qHb 0)), (1, .int x1), (2, .int x2), (3, .int x3), (4, .int x4), (5, .int x5)] → W p l e ({ frames := 0, cells := 0, slots := 0, locals := 0 } : Room) s m args below meth c H locs 0 0 (MQ below (va_Qi (fun (r : Int32) (_ : Unit) => r = X) (fun u t => BW D cy A (wX0 cy qHb Hb_berthsOf Hb_port Hb_berth Hb_first Hb_last Hb_isGivenUp Hb_told Hb_held) t) A) args s 0 0 A) (F0 m 3 ls []) := by
  obtain ⟨hx, hb, hr, hml, hown, hts, hK, hA, hN, hlocks⟩ := id C0
  intro n
  induction n with
  | zero => intro x1 x2 x3 x4 x5 hf; exact (no_some hf).elim
  | succ n hk3 =>
    intro x1 x2 x3 x4 x5 hf H locs ls hP hD hS hl
    have hf : f_X0_slotInTheWay_3 Hb_port Hb_berth Hb_first Hb_last Hb_isGivenUp Hb_told (fun x1 x2 x3 x4 x5 => g_X0_slotInTheWay_3 Hb_port Hb_berth Hb_first Hb_last Hb_isGivenUp Hb_told n x1 x2 x3 x4 x5) x1 x2 x3 x4 x5 = some X := hf
    unfold f_X0_slotInTheWay_3 at hf
    refine lv_iload hx hb dX0_slotInTheWay_3 (lv_at hl 5 rfl) ?_
    refine lv_aload_n hx hb dX0_slotInTheWay_5 rfl (lv_at hl 0 rfl) ?_
    refine va_get (D := D) (ci := 0) (v := .int Hb_told) (C := RX0) (T := TX0) (N := 8) hx hb hts i_X0_slotInTheWay_X0 hown hK hP 0 rfl rfl 6 (by decide) (hts _ m_X0_slotInTheWay_f39) (fun _ h9 => h9) rfl dX0_slotInTheWay_6 ?_
    refine lv_icmp_ge (tgt := 76) hx hb dX0_slotInTheWay_9 (by decide) (fun hc1 => ?_) (fun hc1 => ?_)
    · have hf := ift hf hc1
      refine lv_iconst (v := (-1 : Int32)) hx hb dX0_slotInTheWay_76 (by decide) ?_
      exact rq_i C0 () (Option.some.inj hf) hP hD hS dX0_slotInTheWay_77
    · have hf := iff_ hf hc1
      refine lv_aload_n hx hb dX0_slotInTheWay_12 rfl (lv_at hl 0 rfl) ?_
      refine va_get (D := D) (ci := 0) (v := .ref (qHb 6)) (C := RX0) (T := TX0) (N := 8) hx hb hts i_X0_slotInTheWay_X0 hown hK hP 0 rfl rfl 5 (by decide) (hts _ m_X0_slotInTheWay_f27) (fun _ h9 => h9) rfl dX0_slotInTheWay_13 ?_
      refine lv_iload hx hb dX0_slotInTheWay_16 (lv_at hl 5 rfl) ?_
      obtain ⟨hz2, hf⟩ := ifn hf
      refine va_zald hx hb hK hP 6 2 rfl rfl (inb_in hz2) dX0_slotInTheWay_18 ?_
      refine lv_if_ne (tgt := 70) hx hb dX0_slotInTheWay_19 (by decide) (fun hc3 => ?_) (fun hc3 => ?_)
      · have hf := iff_ hf hc3
        exact w_X0_slotInTheWay_70 C0 hk3 x1 x2 x3 x4 x5 hf H locs ls hP hD hS (lv_sub hl [0, 1, 2, 3, 4, 5] rfl)
      · have hf := ift hf hc3
        refine lv_aload_n hx hb dX0_slotInTheWay_22 rfl (lv_at hl 0 rfl) ?_
        refine va_get (D := D) (ci := 0) (v := .ref (qHb 2)) (C := RX0) (T := TX0) (N := 8) hx hb hts i_X0_slotInTheWay_X0 hown hK hP 0 rfl rfl 1 (by decide) (hts _ m_X0_slotInTheWay_f15) (fun _ h9 => h9) rfl dX0_slotInTheWay_23 ?_
        refine lv_iload hx hb dX0_slotInTheWay_26 (lv_at hl 5 rfl) ?_
        refine va_iald hx hb hK hP 2 0 rfl rfl (inb_in hz2) dX0_slotInTheWay_28 ?_
        refine lv_iload_n hx hb dX0_slotInTheWay_29 rfl (lv_at hl 1 rfl) ?_
        refine lv_icmp_ne (tgt := 70) hx hb dX0_slotInTheWay_30 (by decide) (fun hc4 => ?_) (fun hc4 => ?_)
        · have hf := iff_ hf hc4
          exact w_X0_slotInTheWay_70 C0 hk3 x1 x2 x3 x4 x5 hf H locs ls hP hD hS (lv_sub hl [0, 1, 2, 3, 4, 5] rfl)
        · have hf := ift hf hc4
          refine lv_aload_n hx hb dX0_slotInTheWay_33 rfl (lv_at hl 0 rfl) ?_
          refine va_get (D := D) (ci := 0) (v := .ref (qHb 3)) (C := RX0) (T := TX0) (N := 8) hx hb hts i_X0_slotInTheWay_X0 hown hK hP 0 rfl rfl 2 (by decide) (hts _ m_X0_slotInTheWay_f18) (fun _ h9 => h9) rfl dX0_slotInTheWay_34 ?_
          refine lv_iload hx hb dX0_slotInTheWay_37 (lv_at hl 5 rfl) ?_
          refine va_iald hx hb hK hP 3 0 rfl rfl (inb_in hz2) dX0_slotInTheWay_39 ?_
          refine lv_iload_n hx hb dX0_slotInTheWay_40 rfl (lv_at hl 2 rfl) ?_
          refine lv_icmp_ne (tgt := 70) hx hb dX0_slotInTheWay_41 (by decide) (fun hc5 => ?_) (fun hc5 => ?_)
          · have hf := iff_ hf hc5
            exact w_X0_slotInTheWay_70 C0 hk3 x1 x2 x3 x4 x5 hf H locs ls hP hD hS (lv_sub hl [0, 1, 2, 3, 4, 5] rfl)
          · have hf := ift hf hc5
            refine lv_aload_n hx hb dX0_slotInTheWay_44 rfl (lv_at hl 0 rfl) ?_
            refine va_get (D := D) (ci := 0) (v := .ref (qHb 4)) (C := RX0) (T := TX0) (N := 8) hx hb hts i_X0_slotInTheWay_X0 hown hK hP 0 rfl rfl 3 (by decide) (hts _ m_X0_slotInTheWay_f21) (fun _ h9 => h9) rfl dX0_slotInTheWay_45 ?_
            refine lv_iload hx hb dX0_slotInTheWay_48 (lv_at hl 5 rfl) ?_
            refine va_iald hx hb hK hP 4 0 rfl rfl (inb_in hz2) dX0_slotInTheWay_50 ?_
            refine lv_iload hx hb dX0_slotInTheWay_51 (lv_at hl 4 rfl) ?_
            refine lv_icmp_gt (tgt := 70) hx hb dX0_slotInTheWay_53 (by decide) (fun hc6 => ?_) (fun hc6 => ?_)
            · have hf := ift hf hc6
              exact w_X0_slotInTheWay_70 C0 hk3 x1 x2 x3 x4 x5 hf H locs ls hP hD hS (lv_sub hl [0, 1, 2, 3, 4, 5] rfl)
            · have hf := iff_ hf hc6
              refine lv_iload_n hx hb dX0_slotInTheWay_56 rfl (lv_at hl 3 rfl) ?_
              refine lv_aload_n hx hb dX0_slotInTheWay_57 rfl (lv_at hl 0 rfl) ?_
              refine va_get (D := D) (ci := 0) (v := .ref (qHb 5)) (C := RX0) (T := TX0) (N := 8) hx hb hts i_X0_slotInTheWay_X0 hown hK hP 0 rfl rfl 4 (by decide) (hts _ m_X0_slotInTheWay_f24) (fun _ h9 => h9) rfl dX0_slotInTheWay_58 ?_
              refine lv_iload hx hb dX0_slotInTheWay_61 (lv_at hl 5 rfl) ?_
              refine va_iald hx hb hK hP 5 0 rfl rfl (inb_in hz2) dX0_slotInTheWay_63 ?_
              refine lv_icmp_gt (tgt := 70) hx hb dX0_slotInTheWay_64 (by decide) (fun hc7 => ?_) (fun hc7 => ?_)
              · have hf := ift hf hc7
                exact w_X0_slotInTheWay_70 C0 hk3 x1 x2 x3 x4 x5 hf H locs ls hP hD hS (lv_sub hl [0, 1, 2, 3, 4, 5] rfl)
              · have hf := iff_ hf hc7
                refine lv_iload hx hb dX0_slotInTheWay_67 (lv_at hl 5 rfl) ?_
                exact rq_i C0 () (Option.some.inj hf) hP hD hS dX0_slotInTheWay_69

set_option maxHeartbeats 4000000 in
set_option maxRecDepth 100000 in
theorem c_X0_slotInTheWay (l : Launch) (D : va_G) (cy : Nat → ClassId) (qHb : Nat → Nat) (Hb_berthsOf : Nat → Int32) (Hb_port : Nat → Int32) (Hb_berth : Nat → Int32) (Hb_first : Nat → Int32) (Hb_last : Nat → Int32) (Hb_isGivenUp : Nat → Int32) (Hb_told : Int32) (Hb_held : Int32) (sz : Nat) (x1 : Int32) (x2 : Int32) (x3 : Int32) (x4 : Int32) (X : Int32) (hf : f_X0_slotInTheWay Hb_port Hb_berth Hb_first Hb_last Hb_isGivenUp Hb_told x1 x2 x3 x4 = some X) : Met l yX0_slotInTheWay wsX0_slotInTheWay ({ frames := 0, cells := 0, slots := 0, locals := 0 } : Room) (va_Pc [.ref (qHb 0), .int x1, .int x2, .int x3, .int x4] (PW D cy (wX0 cy qHb Hb_berthsOf Hb_port Hb_berth Hb_first Hb_last Hb_isGivenUp Hb_told Hb_held) sz)) (va_Qi (fun (r : Int32) (_ : Unit) => r = X) (fun u t => BW D cy (va_A (wX0 cy qHb Hb_berthsOf Hb_port Hb_berth Hb_first Hb_last Hb_isGivenUp Hb_told Hb_held) sz) (wX0 cy qHb Hb_berthsOf Hb_port Hb_berth Hb_first Hb_last Hb_isGivenUp Hb_told Hb_held) t) (va_A (wX0 cy qHb Hb_berthsOf Hb_port Hb_berth Hb_first Hb_last Hb_isGivenUp Hb_told Hb_held) sz)) 0 0 (va_A (wX0 cy qHb Hb_berthsOf Hb_port Hb_berth Hb_first Hb_last Hb_isGivenUp Hb_told Hb_held) sz) := by
  refine met_enter (Qc := fun A => (va_Qi (fun (r : Int32) (_ : Unit) => r = X) (fun u t => BW D cy A (wX0 cy qHb Hb_berthsOf Hb_port Hb_berth Hb_first Hb_last Hb_isGivenUp Hb_told Hb_held) t) A)) (lv0 := [(0, .ref (qHb 0)), (1, .int x1), (2, .int x2), (3, .int x3), (4, .int x4)]) (by decide) rfl (Nat.le_of_ble_eq_true rfl) rfl ?_
  intro p e s m below meth c A ls hnm C0 hP hD hS hl
  generalize hH : s.heap = H at hP ⊢
  generalize hLoc : ([] : List Loc) = locs at hS ⊢
  have hS : va_S A s.heap H locs := by rw [← hH]; exact hS
  have C0 : CX cX0_slotInTheWay 6 (some .int) RX0 wsX0_slotInTheWay D cy p s m _ meth c A := C0
  obtain ⟨hx, hb, hr, hml, hown, hts, hK, hA, hN, hlocks⟩ := id C0
  unfold f_X0_slotInTheWay at hf
  refine lv_iconst (v := (0 : Int32)) hx hb dX0_slotInTheWay_0 (by decide) ?_
  refine lv_istore (lv' := [(5, .int (0 : Int32)), (0, .ref (qHb 0)), (1, .int x1), (2, .int x2), (3, .int x3), (4, .int x4)]) hx hb dX0_slotInTheWay_1 hl (by decide) rfl (fun ls hl => ?_)
  exact w_X0_slotInTheWay_3 C0  FU x1 x2 x3 x4 (0 : Int32) hf H locs ls hP hD hS (lv_sub hl [1, 2, 3, 4, 5, 0] rfl)

theorem i_X0_firstFree_X0 : ∀ w ∈ wsX00, w ∈ wsX0_firstFree := by decide +kernel
theorem m_X0_firstFree_f39 : Cond.fieldLink RX0 39 "SailCargo$Harbour" "told" "I" ∈ wsX0_firstFree := by decide +kernel
theorem m_X0_firstFree_f24 : Cond.fieldLink RX0 24 "SailCargo$Harbour" "last" "[I" ∈ wsX0_firstFree := by decide +kernel
set_option maxHeartbeats 4000000 in
set_option maxRecDepth 100000 in
theorem w_X0_firstFree_6 {p : Program} {l : Launch} {e : Env} {s : State} {m : MethodId} {args : Array Value} {below : List Frame} {meth : Method} {c : Code} {A : Nat → Prop} {D : va_G} {cy : Nat → ClassId} {qHb : Nat → Nat} {Hb_berthsOf Hb_port Hb_berth Hb_first Hb_last Hb_isGivenUp : Nat → Int32} {Hb_told Hb_held : Int32} {X : Int32}  (C0 : CX cX0_firstFree 8 (some .int) RX0 wsX0_firstFree D cy p s m args meth c A)  : ∀ (n : Nat)  (x1 : Int32) (x2 : Int32) (x4 : Int32) (x5 : Int32) (x6 : Int32), g_X0_firstFree_6 Hb_port Hb_berth Hb_first Hb_last Hb_isGivenUp Hb_told n x1 x2 x4 x5 x6 = some X → ∀ (H : Heap) (locs : List Loc) (ls : Array Slot), va_P D vwCl (wX0 cy qHb Hb_berthsOf Hb_port Hb_berth Hb_first Hb_last Hb_isGivenUp Hb_told Hb_held) H → va_D A (wX0 cy qHb Hb_berthsOf Hb_port Hb_berth Hb_first Hb_last Hb_isGivenUp Hb_told Hb_held) → va_S A s.heap H locs → lv_has ls 8 [(0, .ref (qHb 0)), (1, .int x1), (2, .int x2), (4, .int x4), (5, .int x5), (6, .int x6)] → W p l e ({ frames := 1, cells := 0, slots := 0, locals := 25 } : Room) s m args below meth c H locs 0 0 (MQ below (va_Qi (fun (r : Int32) (_ : Unit) => r = X) (fun u t => BW D cy A (wX0 cy qHb Hb_berthsOf Hb_port Hb_berth Hb_first Hb_last Hb_isGivenUp Hb_told Hb_held) t) A) args s 0 0 A) (F0 m 6 ls []) := by
  obtain ⟨hx, hb, hr, hml, hown, hts, hK, hA, hN, hlocks⟩ := id C0
  intro n
  induction n with
  | zero => intro x1 x2 x4 x5 x6 hf; exact (no_some hf).elim
  | succ n hk6 =>
    intro x1 x2 x4 x5 x6 hf H locs ls hP hD hS hl
    have hf : f_X0_firstFree_6 Hb_port Hb_berth Hb_first Hb_last Hb_isGivenUp Hb_told (fun x1 x2 x4 x5 x6 => g_X0_firstFree_6 Hb_port Hb_berth Hb_first Hb_last Hb_isGivenUp Hb_told n x1 x2 x4 x5 x6) x1 x2 x4 x5 x6 = some X := hf
    unfold f_X0_firstFree_6 at hf
    refine lv_iload hx hb dX0_firstFree_6 (lv_at hl 5 rfl) ?_
    refine lv_aload_n hx hb dX0_firstFree_8 rfl (lv_at hl 0 rfl) ?_
    refine va_get (D := D) (ci := 0) (v := .int Hb_told) (C := RX0) (T := TX0) (N := 8) hx hb hts i_X0_firstFree_X0 hown hK hP 0 rfl rfl 6 (by decide) (hts _ m_X0_firstFree_f39) (fun _ h9 => h9) rfl dX0_firstFree_9 ?_
    refine lv_icmp_ge (tgt := 58) hx hb dX0_firstFree_12 (by decide) (fun hc1 => ?_) (fun hc1 => ?_)
    · have hf := ift hf hc1
      refine lv_iload hx hb dX0_firstFree_58 (lv_at hl 4 rfl) ?_
      exact rq_i C0 () (Option.some.inj hf) hP hD hS dX0_firstFree_60
    · have hf := iff_ hf hc1
      refine lv_aload_n hx hb dX0_firstFree_15 rfl (lv_at hl 0 rfl) ?_
      refine lv_iload_n hx hb dX0_firstFree_16 rfl (lv_at hl 1 rfl) ?_
      refine lv_iload_n hx hb dX0_firstFree_17 rfl (lv_at hl 2 rfl) ?_
      refine lv_iload hx hb dX0_firstFree_18 (lv_at hl 4 rfl) ?_
      refine lv_iload hx hb dX0_firstFree_20 (lv_at hl 4 rfl) ?_
      refine lv_iload hx hb dX0_firstFree_22 (lv_at hl 3 rfl) ?_
      refine lv_iadd hx hb dX0_firstFree_24 ?_
      refine lv_iconst (v := (1 : Int32)) hx hb dX0_firstFree_25 (by decide) ?_
      refine lv_isub hx hb dX0_firstFree_26 ?_
      obtain ⟨u2, eu2, hf⟩ := Option.bind_eq_some_iff.mp hf
      refine cq_i (wc' := fun (u : Unit) => (wX0 cy qHb Hb_berthsOf Hb_port Hb_berth Hb_first Hb_last Hb_isGivenUp Hb_told Hb_held)) (ws' := fun (u : Unit) => (wX0 cy qHb Hb_berthsOf Hb_port Hb_berth Hb_first Hb_last Hb_isGivenUp Hb_told Hb_held)) (wc := (wX0 cy qHb Hb_berthsOf Hb_port Hb_berth Hb_first Hb_last Hb_isGivenUp Hb_told Hb_held)) (wr := ([] : va_W)) C0 hP hD hS [0, 1, 2, 3, 4, 5, 6] [] [0, 1, 2, 3, 4, 5, 6] rfl rfl (by decide) (by decide) (by decide) (fun _ => rfl) (va_runV (As := [.int x1, .int x2, .int x5, .int ((x5 + x4) - (1 : Int32))]) (rest := []) ⟨hx, hb, hml, hown, hts⟩ (c_X0_slotInTheWay l D cy qHb Hb_berthsOf Hb_port Hb_berth Hb_first Hb_last Hb_isGivenUp Hb_told Hb_held H.size x1 x2 x5 ((x5 + x4) - (1 : Int32)) u2 eu2) (cwV 4 hts gX0_firstFree_X0_slotInTheWay rfl rfl rfl (by decide +kernel) ⟨Nat.le_of_ble_eq_true rfl, Nat.le_of_ble_eq_true rfl⟩) (pre_V (hP.sub (ws' := (wX0 cy qHb Hb_berthsOf Hb_port Hb_berth Hb_first Hb_last Hb_isGivenUp Hb_told Hb_held)) [0, 1, 2, 3, 4, 5, 6] rfl) hK (hD.sub (ws' := (wX0 cy qHb Hb_berthsOf Hb_port Hb_berth Hb_first Hb_last Hb_isGivenUp Hb_told Hb_held)) [0, 1, 2, 3, 4, 5, 6] (by decide) rfl) hN 0 0 rfl rfl) rfl rfl hl.1 rfl (lv_room (Nat.le_of_ble_eq_true rfl)) dX0_firstFree_27 ⟨Nat.zero_le _, Nat.zero_le _⟩) (fun r u H locs hw hP hD hS => ?_)
      have hw := hw.symm
      subst hw
      have hP : va_P D vwCl (wX0 cy qHb Hb_berthsOf Hb_port Hb_berth Hb_first Hb_last Hb_isGivenUp Hb_told Hb_held) H := hP
      have hD : va_D A (wX0 cy qHb Hb_berthsOf Hb_port Hb_berth Hb_first Hb_last Hb_isGivenUp Hb_told Hb_held) := hD
      refine lv_istore (lv' := [(7, .int u2), (0, .ref (qHb 0)), (1, .int x1), (2, .int x2), (4, .int x4), (5, .int x5), (6, .int x6)]) hx hb dX0_firstFree_30 hl (by decide) rfl (fun ls hl => ?_)
      refine lv_iload hx hb dX0_firstFree_32 (lv_at hl 0 rfl) ?_
      refine lv_iconst (v := (-1 : Int32)) hx hb dX0_firstFree_34 (by decide) ?_
      refine lv_icmp_ne (tgt := 41) hx hb dX0_firstFree_35 (by decide) (fun hc3 => ?_) (fun hc3 => ?_)
      · have hf := iff_ hf hc3
        refine lv_aload_n hx hb dX0_firstFree_41 rfl (lv_at hl 1 rfl) ?_
        refine va_get (D := D) (ci := 0) (v := .ref (qHb 5)) (C := RX0) (T := TX0) (N := 8) hx hb hts i_X0_firstFree_X0 hown hK hP 0 rfl rfl 4 (by decide) (hts _ m_X0_firstFree_f24) (fun _ h9 => h9) rfl dX0_firstFree_42 ?_
        refine lv_iload hx hb dX0_firstFree_45 (lv_at hl 0 rfl) ?_
        obtain ⟨hz4, hf⟩ := ifn hf
        refine va_iald hx hb hK hP 5 0 rfl rfl (inb_in hz4) dX0_firstFree_47 ?_
        refine lv_iconst (v := (1 : Int32)) hx hb dX0_firstFree_48 (by decide) ?_
        refine lv_iadd hx hb dX0_firstFree_49 ?_
        refine lv_istore (lv' := [(5, .int ((Hb_last u2.toNatClampNeg) + (1 : Int32))), (7, .int u2), (0, .ref (qHb 0)), (1, .int x1), (2, .int x2), (4, .int x4), (6, .int x6)]) hx hb dX0_firstFree_50 hl (by decide) rfl (fun ls hl => ?_)
        refine lv_iinc (v := (x6 + 1)) (lv' := [(6, .int (x6 + 1)), (5, .int ((Hb_last u2.toNatClampNeg) + (1 : Int32))), (7, .int u2), (0, .ref (qHb 0)), (1, .int x1), (2, .int x2), (4, .int x4)]) hx hb dX0_firstFree_52 hl (k := 6) rfl rfl (by decide) rfl (fun ls hl => ?_)
        refine lv_goto (tgt := 6) hx hb dX0_firstFree_55 (by decide) ?_
        exact hk6 x1 x2 x4 ((Hb_last u2.toNatClampNeg) + (1 : Int32)) (x6 + 1) hf H locs ls hP hD hS (lv_sub hl [3, 4, 5, 6, 1, 0] rfl)
      · have hf := ift hf hc3
        refine lv_iload hx hb dX0_firstFree_38 (lv_at hl 5 rfl) ?_
        exact rq_i C0 () (Option.some.inj hf) hP hD hS dX0_firstFree_40

set_option maxHeartbeats 4000000 in
set_option maxRecDepth 100000 in
theorem c_X0_firstFree (l : Launch) (D : va_G) (cy : Nat → ClassId) (qHb : Nat → Nat) (Hb_berthsOf : Nat → Int32) (Hb_port : Nat → Int32) (Hb_berth : Nat → Int32) (Hb_first : Nat → Int32) (Hb_last : Nat → Int32) (Hb_isGivenUp : Nat → Int32) (Hb_told : Int32) (Hb_held : Int32) (sz : Nat) (x1 : Int32) (x2 : Int32) (x3 : Int32) (x4 : Int32) (X : Int32) (hf : f_X0_firstFree Hb_port Hb_berth Hb_first Hb_last Hb_isGivenUp Hb_told x1 x2 x3 x4 = some X) : Met l yX0_firstFree wsX0_firstFree ({ frames := 1, cells := 0, slots := 0, locals := 25 } : Room) (va_Pc [.ref (qHb 0), .int x1, .int x2, .int x3, .int x4] (PW D cy (wX0 cy qHb Hb_berthsOf Hb_port Hb_berth Hb_first Hb_last Hb_isGivenUp Hb_told Hb_held) sz)) (va_Qi (fun (r : Int32) (_ : Unit) => r = X) (fun u t => BW D cy (va_A (wX0 cy qHb Hb_berthsOf Hb_port Hb_berth Hb_first Hb_last Hb_isGivenUp Hb_told Hb_held) sz) (wX0 cy qHb Hb_berthsOf Hb_port Hb_berth Hb_first Hb_last Hb_isGivenUp Hb_told Hb_held) t) (va_A (wX0 cy qHb Hb_berthsOf Hb_port Hb_berth Hb_first Hb_last Hb_isGivenUp Hb_told Hb_held) sz)) 0 0 (va_A (wX0 cy qHb Hb_berthsOf Hb_port Hb_berth Hb_first Hb_last Hb_isGivenUp Hb_told Hb_held) sz) := by
  refine met_enter (Qc := fun A => (va_Qi (fun (r : Int32) (_ : Unit) => r = X) (fun u t => BW D cy A (wX0 cy qHb Hb_berthsOf Hb_port Hb_berth Hb_first Hb_last Hb_isGivenUp Hb_told Hb_held) t) A)) (lv0 := [(0, .ref (qHb 0)), (1, .int x1), (2, .int x2), (3, .int x3), (4, .int x4)]) (by decide) rfl (Nat.le_of_ble_eq_true rfl) rfl ?_
  intro p e s m below meth c A ls hnm C0 hP hD hS hl
  generalize hH : s.heap = H at hP ⊢
  generalize hLoc : ([] : List Loc) = locs at hS ⊢
  have hS : va_S A s.heap H locs := by rw [← hH]; exact hS
  have C0 : CX cX0_firstFree 8 (some .int) RX0 wsX0_firstFree D cy p s m _ meth c A := C0
  obtain ⟨hx, hb, hr, hml, hown, hts, hK, hA, hN, hlocks⟩ := id C0
  unfold f_X0_firstFree at hf
  refine lv_iload_n hx hb dX0_firstFree_0 rfl (lv_at hl 3 rfl) ?_
  refine lv_istore (lv' := [(5, .int x3), (0, .ref (qHb 0)), (1, .int x1), (2, .int x2), (3, .int x3), (4, .int x4)]) hx hb dX0_firstFree_1 hl (by decide) rfl (fun ls hl => ?_)
  refine lv_iconst (v := (0 : Int32)) hx hb dX0_firstFree_3 (by decide) ?_
  refine lv_istore (lv' := [(6, .int (0 : Int32)), (5, .int x3), (0, .ref (qHb 0)), (1, .int x1), (2, .int x2), (3, .int x3), (4, .int x4)]) hx hb dX0_firstFree_4 hl (by decide) rfl (fun ls hl => ?_)
  exact w_X0_firstFree_6 C0  FU x1 x2 x4 x3 (0 : Int32) hf H locs ls hP hD hS (lv_sub hl [2, 3, 4, 6, 1, 0] rfl)

theorem i_X0_keep_X0 : ∀ w ∈ wsX00, w ∈ wsX0_keep := by decide +kernel
theorem m_X0_keep_f15 : Cond.fieldLink RX0 15 "SailCargo$Harbour" "port" "[I" ∈ wsX0_keep := by decide +kernel
theorem m_X0_keep_f39 : Cond.fieldLink RX0 39 "SailCargo$Harbour" "told" "I" ∈ wsX0_keep := by decide +kernel
theorem m_X0_keep_f18 : Cond.fieldLink RX0 18 "SailCargo$Harbour" "berth" "[I" ∈ wsX0_keep := by decide +kernel
theorem m_X0_keep_f21 : Cond.fieldLink RX0 21 "SailCargo$Harbour" "first" "[I" ∈ wsX0_keep := by decide +kernel
theorem m_X0_keep_f24 : Cond.fieldLink RX0 24 "SailCargo$Harbour" "last" "[I" ∈ wsX0_keep := by decide +kernel
theorem m_X0_keep_f50 : Cond.fieldLink RX0 50 "SailCargo$Harbour" "held" "I" ∈ wsX0_keep := by decide +kernel
set_option maxHeartbeats 4000000 in
set_option maxRecDepth 100000 in
theorem c_X0_keep (l : Launch) (D : va_G) (cy : Nat → ClassId) (qHb : Nat → Nat) (Hb_berthsOf : Nat → Int32) (Hb_port : Nat → Int32) (Hb_berth : Nat → Int32) (Hb_first : Nat → Int32) (Hb_last : Nat → Int32) (Hb_isGivenUp : Nat → Int32) (Hb_told : Int32) (Hb_held : Int32) (sz : Nat) (x1 : Int32) (x2 : Int32) (x3 : Int32) (x4 : Int32) (X : Int32 × (Nat → Int32) × (Nat → Int32) × (Nat → Int32) × (Nat → Int32) × (Int32) × (Int32)) (hf : f_X0_keep Hb_port Hb_berth Hb_first Hb_last Hb_told Hb_held x1 x2 x3 x4 = some X) : Met l yX0_keep wsX0_keep ({ frames := 0, cells := 0, slots := 0, locals := 0 } : Room) (va_Pc [.ref (qHb 0), .int x1, .int x2, .int x3, .int x4] (PW D cy (wX0 cy qHb Hb_berthsOf Hb_port Hb_berth Hb_first Hb_last Hb_isGivenUp Hb_told Hb_held) sz)) (va_Qi (fun (r : Int32) (u : (Nat → Int32) × (Nat → Int32) × (Nat → Int32) × (Nat → Int32) × (Int32) × (Int32)) => r = X.1 ∧ u = X.2) (fun u t => BW D cy (va_A (wX0 cy qHb Hb_berthsOf Hb_port Hb_berth Hb_first Hb_last Hb_isGivenUp Hb_told Hb_held) sz) (wX0 cy qHb Hb_berthsOf u.1 u.2.1 u.2.2.1 u.2.2.2.1 Hb_isGivenUp u.2.2.2.2.1 u.2.2.2.2.2) t) (va_A (wX0 cy qHb Hb_berthsOf Hb_port Hb_berth Hb_first Hb_last Hb_isGivenUp Hb_told Hb_held) sz)) 0 0 (va_A (wX0 cy qHb Hb_berthsOf Hb_port Hb_berth Hb_first Hb_last Hb_isGivenUp Hb_told Hb_held) sz) := by
  refine met_enter (Qc := fun A => (va_Qi (fun (r : Int32) (u : (Nat → Int32) × (Nat → Int32) × (Nat → Int32) × (Nat → Int32) × (Int32) × (Int32)) => r = X.1 ∧ u = X.2) (fun u t => BW D cy A (wX0 cy qHb Hb_berthsOf u.1 u.2.1 u.2.2.1 u.2.2.2.1 Hb_isGivenUp u.2.2.2.2.1 u.2.2.2.2.2) t) A)) (lv0 := [(0, .ref (qHb 0)), (1, .int x1), (2, .int x2), (3, .int x3), (4, .int x4)]) (by decide) rfl (Nat.le_of_ble_eq_true rfl) rfl ?_
  intro p e s m below meth c A ls hnm C0 hP hD hS hl
  generalize hH : s.heap = H at hP ⊢
  generalize hLoc : ([] : List Loc) = locs at hS ⊢
  have hS : va_S A s.heap H locs := by rw [← hH]; exact hS
  have C0 : CX cX0_keep 5 (some .int) RX0 wsX0_keep D cy p s m _ meth c A := C0
  obtain ⟨hx, hb, hr, hml, hown, hts, hK, hA, hN, hlocks⟩ := id C0
  unfold f_X0_keep at hf
  refine lv_aload_n hx hb dX0_keep_0 rfl (lv_at hl 0 rfl) ?_
  refine va_get (D := D) (ci := 0) (v := .ref (qHb 2)) (C := RX0) (T := TX0) (N := 8) hx hb hts i_X0_keep_X0 hown hK hP 0 rfl rfl 1 (by decide) (hts _ m_X0_keep_f15) (fun _ h9 => h9) rfl dX0_keep_1 ?_
  refine lv_aload_n hx hb dX0_keep_4 rfl (lv_at hl 0 rfl) ?_
  refine va_get (D := D) (ci := 0) (v := .int Hb_told) (C := RX0) (T := TX0) (N := 8) hx hb hts i_X0_keep_X0 hown hK hP 0 rfl rfl 6 (by decide) (hts _ m_X0_keep_f39) (fun _ h9 => h9) rfl dX0_keep_5 ?_
  refine lv_iload_n hx hb dX0_keep_8 rfl (lv_at hl 1 rfl) ?_
  obtain ⟨hz1, hf⟩ := ifn hf
  refine va_iast hx hb hK hP hD hS 2 0 rfl rfl (inb_in hz1) dX0_keep_9 (fun H locs hP hD hS => ?_)
  have hP : va_P D vwCl (wX0 cy qHb Hb_berthsOf (upd Hb_port Hb_told.toNatClampNeg x1) Hb_berth Hb_first Hb_last Hb_isGivenUp Hb_told Hb_held) H := hP
  have hD : va_D A (wX0 cy qHb Hb_berthsOf (upd Hb_port Hb_told.toNatClampNeg x1) Hb_berth Hb_first Hb_last Hb_isGivenUp Hb_told Hb_held) := hD
  refine lv_aload_n hx hb dX0_keep_10 rfl (lv_at hl 0 rfl) ?_
  refine va_get (D := D) (ci := 0) (v := .ref (qHb 3)) (C := RX0) (T := TX0) (N := 8) hx hb hts i_X0_keep_X0 hown hK hP 0 rfl rfl 2 (by decide) (hts _ m_X0_keep_f18) (fun _ h9 => h9) rfl dX0_keep_11 ?_
  refine lv_aload_n hx hb dX0_keep_14 rfl (lv_at hl 0 rfl) ?_
  refine va_get (D := D) (ci := 0) (v := .int Hb_told) (C := RX0) (T := TX0) (N := 8) hx hb hts i_X0_keep_X0 hown hK hP 0 rfl rfl 6 (by decide) (hts _ m_X0_keep_f39) (fun _ h9 => h9) rfl dX0_keep_15 ?_
  refine lv_iload_n hx hb dX0_keep_18 rfl (lv_at hl 2 rfl) ?_
  refine va_iast hx hb hK hP hD hS 3 0 rfl rfl (inb_in hz1) dX0_keep_19 (fun H locs hP hD hS => ?_)
  have hP : va_P D vwCl (wX0 cy qHb Hb_berthsOf (upd Hb_port Hb_told.toNatClampNeg x1) (upd Hb_berth Hb_told.toNatClampNeg x2) Hb_first Hb_last Hb_isGivenUp Hb_told Hb_held) H := hP
  have hD : va_D A (wX0 cy qHb Hb_berthsOf (upd Hb_port Hb_told.toNatClampNeg x1) (upd Hb_berth Hb_told.toNatClampNeg x2) Hb_first Hb_last Hb_isGivenUp Hb_told Hb_held) := hD
  refine lv_aload_n hx hb dX0_keep_20 rfl (lv_at hl 0 rfl) ?_
  refine va_get (D := D) (ci := 0) (v := .ref (qHb 4)) (C := RX0) (T := TX0) (N := 8) hx hb hts i_X0_keep_X0 hown hK hP 0 rfl rfl 3 (by decide) (hts _ m_X0_keep_f21) (fun _ h9 => h9) rfl dX0_keep_21 ?_
  refine lv_aload_n hx hb dX0_keep_24 rfl (lv_at hl 0 rfl) ?_
  refine va_get (D := D) (ci := 0) (v := .int Hb_told) (C := RX0) (T := TX0) (N := 8) hx hb hts i_X0_keep_X0 hown hK hP 0 rfl rfl 6 (by decide) (hts _ m_X0_keep_f39) (fun _ h9 => h9) rfl dX0_keep_25 ?_
  refine lv_iload_n hx hb dX0_keep_28 rfl (lv_at hl 3 rfl) ?_
  refine va_iast hx hb hK hP hD hS 4 0 rfl rfl (inb_in hz1) dX0_keep_29 (fun H locs hP hD hS => ?_)
  have hP : va_P D vwCl (wX0 cy qHb Hb_berthsOf (upd Hb_port Hb_told.toNatClampNeg x1) (upd Hb_berth Hb_told.toNatClampNeg x2) (upd Hb_first Hb_told.toNatClampNeg x3) Hb_last Hb_isGivenUp Hb_told Hb_held) H := hP
  have hD : va_D A (wX0 cy qHb Hb_berthsOf (upd Hb_port Hb_told.toNatClampNeg x1) (upd Hb_berth Hb_told.toNatClampNeg x2) (upd Hb_first Hb_told.toNatClampNeg x3) Hb_last Hb_isGivenUp Hb_told Hb_held) := hD
  refine lv_aload_n hx hb dX0_keep_30 rfl (lv_at hl 0 rfl) ?_
  refine va_get (D := D) (ci := 0) (v := .ref (qHb 5)) (C := RX0) (T := TX0) (N := 8) hx hb hts i_X0_keep_X0 hown hK hP 0 rfl rfl 4 (by decide) (hts _ m_X0_keep_f24) (fun _ h9 => h9) rfl dX0_keep_31 ?_
  refine lv_aload_n hx hb dX0_keep_34 rfl (lv_at hl 0 rfl) ?_
  refine va_get (D := D) (ci := 0) (v := .int Hb_told) (C := RX0) (T := TX0) (N := 8) hx hb hts i_X0_keep_X0 hown hK hP 0 rfl rfl 6 (by decide) (hts _ m_X0_keep_f39) (fun _ h9 => h9) rfl dX0_keep_35 ?_
  refine lv_iload hx hb dX0_keep_38 (lv_at hl 4 rfl) ?_
  refine va_iast hx hb hK hP hD hS 5 0 rfl rfl (inb_in hz1) dX0_keep_40 (fun H locs hP hD hS => ?_)
  have hP : va_P D vwCl (wX0 cy qHb Hb_berthsOf (upd Hb_port Hb_told.toNatClampNeg x1) (upd Hb_berth Hb_told.toNatClampNeg x2) (upd Hb_first Hb_told.toNatClampNeg x3) (upd Hb_last Hb_told.toNatClampNeg x4) Hb_isGivenUp Hb_told Hb_held) H := hP
  have hD : va_D A (wX0 cy qHb Hb_berthsOf (upd Hb_port Hb_told.toNatClampNeg x1) (upd Hb_berth Hb_told.toNatClampNeg x2) (upd Hb_first Hb_told.toNatClampNeg x3) (upd Hb_last Hb_told.toNatClampNeg x4) Hb_isGivenUp Hb_told Hb_held) := hD
  refine lv_aload_n hx hb dX0_keep_41 rfl (lv_at hl 0 rfl) ?_
  refine lv_dup hx hb dX0_keep_42 rfl ?_
  refine va_get (D := D) (ci := 0) (v := .int Hb_held) (C := RX0) (T := TX0) (N := 8) hx hb hts i_X0_keep_X0 hown hK hP 0 rfl rfl 7 (by decide) (hts _ m_X0_keep_f50) (fun _ h9 => h9) rfl dX0_keep_43 ?_
  refine lv_iconst (v := (1 : Int32)) hx hb dX0_keep_46 (by decide) ?_
  refine lv_iadd hx hb dX0_keep_47 ?_
  refine va_put (D := D) (ci := 0) (v := .int (Hb_held + (1 : Int32))) (ty := .int) (C := RX0) (T := TX0) (N := 8) hx hb hts i_X0_keep_X0 tyX0 tyX0_ok nmX0 hown hK hP hD hS 0 rfl rfl 7 (by decide) (hts _ m_X0_keep_f50) (fun _ h9 => h9) rfl (by decide +kernel) rfl rfl (Nat.le_of_ble_eq_true rfl) dX0_keep_48 (fun H locs hP hD hS => ?_)
  have hP : va_P D vwCl (wX0 cy qHb Hb_berthsOf (upd Hb_port Hb_told.toNatClampNeg x1) (upd Hb_berth Hb_told.toNatClampNeg x2) (upd Hb_first Hb_told.toNatClampNeg x3) (upd Hb_last Hb_told.toNatClampNeg x4) Hb_isGivenUp Hb_told (Hb_held + (1 : Int32))) H := hP
  have hD : va_D A (wX0 cy qHb Hb_berthsOf (upd Hb_port Hb_told.toNatClampNeg x1) (upd Hb_berth Hb_told.toNatClampNeg x2) (upd Hb_first Hb_told.toNatClampNeg x3) (upd Hb_last Hb_told.toNatClampNeg x4) Hb_isGivenUp Hb_told (Hb_held + (1 : Int32))) := hD
  refine lv_aload_n hx hb dX0_keep_51 rfl (lv_at hl 0 rfl) ?_
  refine lv_dup hx hb dX0_keep_52 rfl ?_
  refine va_get (D := D) (ci := 0) (v := .int Hb_told) (C := RX0) (T := TX0) (N := 8) hx hb hts i_X0_keep_X0 hown hK hP 0 rfl rfl 6 (by decide) (hts _ m_X0_keep_f39) (fun _ h9 => h9) rfl dX0_keep_53 ?_
  refine lv_iconst (v := (1 : Int32)) hx hb dX0_keep_56 (by decide) ?_
  refine lv_iadd hx hb dX0_keep_57 ?_
  refine va_put (D := D) (ci := 0) (v := .int (Hb_told + (1 : Int32))) (ty := .int) (C := RX0) (T := TX0) (N := 8) hx hb hts i_X0_keep_X0 tyX0 tyX0_ok nmX0 hown hK hP hD hS 0 rfl rfl 6 (by decide) (hts _ m_X0_keep_f39) (fun _ h9 => h9) rfl (by decide +kernel) rfl rfl (Nat.le_of_ble_eq_true rfl) dX0_keep_58 (fun H locs hP hD hS => ?_)
  have hP : va_P D vwCl (wX0 cy qHb Hb_berthsOf (upd Hb_port Hb_told.toNatClampNeg x1) (upd Hb_berth Hb_told.toNatClampNeg x2) (upd Hb_first Hb_told.toNatClampNeg x3) (upd Hb_last Hb_told.toNatClampNeg x4) Hb_isGivenUp (Hb_told + (1 : Int32)) (Hb_held + (1 : Int32))) H := hP
  have hD : va_D A (wX0 cy qHb Hb_berthsOf (upd Hb_port Hb_told.toNatClampNeg x1) (upd Hb_berth Hb_told.toNatClampNeg x2) (upd Hb_first Hb_told.toNatClampNeg x3) (upd Hb_last Hb_told.toNatClampNeg x4) Hb_isGivenUp (Hb_told + (1 : Int32)) (Hb_held + (1 : Int32))) := hD
  refine lv_aload_n hx hb dX0_keep_61 rfl (lv_at hl 0 rfl) ?_
  refine va_get (D := D) (ci := 0) (v := .int (Hb_told + (1 : Int32))) (C := RX0) (T := TX0) (N := 8) hx hb hts i_X0_keep_X0 hown hK hP 0 rfl rfl 6 (by decide) (hts _ m_X0_keep_f39) (fun _ h9 => h9) rfl dX0_keep_62 ?_
  refine lv_iconst (v := (1 : Int32)) hx hb dX0_keep_65 (by decide) ?_
  refine lv_isub hx hb dX0_keep_66 ?_
  exact rq_i C0 ((upd Hb_port Hb_told.toNatClampNeg x1), (upd Hb_berth Hb_told.toNatClampNeg x2), (upd Hb_first Hb_told.toNatClampNeg x3), (upd Hb_last Hb_told.toNatClampNeg x4), (Hb_told + (1 : Int32)), (Hb_held + (1 : Int32))) (pr_2 hf) hP hD hS dX0_keep_67

theorem i_X0_grant_X0 : ∀ w ∈ wsX00, w ∈ wsX0_grant := by decide +kernel
theorem m_X0_grant_f11 : Cond.fieldLink RX0 11 "SailCargo$Harbour" "berthsOf" "[I" ∈ wsX0_grant := by decide +kernel
theorem m_X0_grant_f39 : Cond.fieldLink RX0 39 "SailCargo$Harbour" "told" "I" ∈ wsX0_grant := by decide +kernel
theorem m_X0_grant_s_X8_isWithin : Cond.static yX8_isWithin ∈ wsX0_grant := by decide +kernel
theorem m_X0_grant_i_X8 : Cond.initialized RX8 ∈ wsX0_grant := by decide +kernel
set_option maxHeartbeats 4000000 in
set_option maxRecDepth 100000 in
theorem w_X0_grant_86 {p : Program} {l : Launch} {e : Env} {s : State} {m : MethodId} {args : Array Value} {below : List Frame} {meth : Method} {c : Code} {A : Nat → Prop} {D : va_G} {cy : Nat → ClassId} {qHb : Nat → Nat} {Hb_berthsOf Hb_isGivenUp : Nat → Int32} {X : Int32 × (Nat → Int32) × (Nat → Int32) × (Nat → Int32) × (Nat → Int32) × (Int32) × (Int32)} {kh49 : (Nat → Int32) → (Nat → Int32) → (Nat → Int32) → (Nat → Int32) → (Int32) → (Int32) → Int32 → Int32 → Int32 → Int32 → Int32 → Int32 → Option (Int32 × (Nat → Int32) × (Nat → Int32) × (Nat → Int32) × (Nat → Int32) × (Int32) × (Int32))} (C0 : CX cX0_grant 8 (some .int) RX0 wsX0_grant D cy p s m args meth c A) (hk49 : ∀ (Hb_port : Nat → Int32) (Hb_berth : Nat → Int32) (Hb_first : Nat → Int32) (Hb_last : Nat → Int32) (Hb_told : Int32) (Hb_held : Int32) (x1 : Int32) (x2 : Int32) (x3 : Int32) (x4 : Int32) (x5 : Int32) (x6 : Int32), kh49 Hb_port Hb_berth Hb_first Hb_last Hb_told Hb_held x1 x2 x3 x4 x5 x6 = some X → ∀ (H : Heap) (locs : List Loc) (ls : Array Slot), va_P D vwCl (wX0 cy qHb Hb_berthsOf Hb_port Hb_berth Hb_first Hb_last Hb_isGivenUp Hb_told Hb_held) H → va_D A (wX0 cy qHb Hb_berthsOf Hb_port Hb_berth Hb_first Hb_last Hb_isGivenUp Hb_told Hb_held) → va_S A s.heap H locs → lv_has ls 8 [(0, .ref (qHb 0)), (1, .int x1), (2, .int x2), (3, .int x3), (4, .int x4), (5, .int x5), (6, .int x6)] → W p l e ({ frames := 2, cells := 0, slots := 0, locals := 52 } : Room) s m args below meth c H locs 0 0 (MQ below (va_Qi (fun (r : Int32) (u : (Nat → Int32) × (Nat → Int32) × (Nat → Int32) × (Nat → Int32) × (Int32) × (Int32)) => r = X.1 ∧ u = X.2) (fun u t => BW D cy A (wX0 cy qHb Hb_berthsOf u.1 u.2.1 u.2.2.1 u.2.2.2.1 Hb_isGivenUp u.2.2.2.2.1 u.2.2.2.2.2) t) A) args s 0 0 A) (F0 m 49 ls [])) (Hb_port : Nat → Int32) (Hb_berth : Nat → Int32) (Hb_first : Nat → Int32) (Hb_last : Nat → Int32) (Hb_told : Int32) (Hb_held : Int32) (x1 : Int32) (x2 : Int32) (x3 : Int32) (x4 : Int32) (x5 : Int32) (x6 : Int32) (hf : f_X0_grant_86 Hb_berthsOf Hb_isGivenUp kh49 Hb_port Hb_berth Hb_first Hb_last Hb_told Hb_held x1 x2 x3 x4 x5 x6 = some X) : ∀ (H : Heap) (locs : List Loc) (ls : Array Slot), va_P D vwCl (wX0 cy qHb Hb_berthsOf Hb_port Hb_berth Hb_first Hb_last Hb_isGivenUp Hb_told Hb_held) H → va_D A (wX0 cy qHb Hb_berthsOf Hb_port Hb_berth Hb_first Hb_last Hb_isGivenUp Hb_told Hb_held) → va_S A s.heap H locs → lv_has ls 8 [(0, .ref (qHb 0)), (1, .int x1), (2, .int x2), (3, .int x3), (4, .int x4), (5, .int x5), (6, .int x6)] → W p l e ({ frames := 2, cells := 0, slots := 0, locals := 52 } : Room) s m args below meth c H locs 0 0 (MQ below (va_Qi (fun (r : Int32) (u : (Nat → Int32) × (Nat → Int32) × (Nat → Int32) × (Nat → Int32) × (Int32) × (Int32)) => r = X.1 ∧ u = X.2) (fun u t => BW D cy A (wX0 cy qHb Hb_berthsOf u.1 u.2.1 u.2.2.1 u.2.2.2.1 Hb_isGivenUp u.2.2.2.2.1 u.2.2.2.2.2) t) A) args s 0 0 A) (F0 m 86 ls []) := by
  obtain ⟨hx, hb, hr, hml, hown, hts, hK, hA, hN, hlocks⟩ := id C0
  intro H locs ls hP hD hS hl
  unfold f_X0_grant_86 at hf
  refine lv_iinc (v := (x6 + 1)) (lv' := [(6, .int (x6 + 1)), (0, .ref (qHb 0)), (1, .int x1), (2, .int x2), (3, .int x3), (4, .int x4), (5, .int x5)]) hx hb dX0_grant_86 hl (k := 6) rfl rfl (by decide) rfl (fun ls hl => ?_)
  refine lv_goto (tgt := 49) hx hb dX0_grant_89 (by decide) ?_
  exact hk49 Hb_port Hb_berth Hb_first Hb_last Hb_told Hb_held x1 x2 x3 x4 x5 (x6 + 1) hf H locs ls hP hD hS (lv_sub hl [1, 2, 3, 4, 5, 6, 0] rfl)

set_option maxHeartbeats 4000000 in
set_option maxRecDepth 100000 in
theorem w_X0_grant_49 {p : Program} {l : Launch} {e : Env} {s : State} {m : MethodId} {args : Array Value} {below : List Frame} {meth : Method} {c : Code} {A : Nat → Prop} {D : va_G} {cy : Nat → ClassId} {qHb : Nat → Nat} {Hb_berthsOf Hb_isGivenUp : Nat → Int32} {X : Int32 × (Nat → Int32) × (Nat → Int32) × (Nat → Int32) × (Nat → Int32) × (Int32) × (Int32)}  (C0 : CX cX0_grant 8 (some .int) RX0 wsX0_grant D cy p s m args meth c A)  : ∀ (n : Nat) (Hb_port : Nat → Int32) (Hb_berth : Nat → Int32) (Hb_first : Nat → Int32) (Hb_last : Nat → Int32) (Hb_told : Int32) (Hb_held : Int32) (x1 : Int32) (x2 : Int32) (x3 : Int32) (x4 : Int32) (x5 : Int32) (x6 : Int32), g_X0_grant_49 Hb_berthsOf Hb_isGivenUp n Hb_port Hb_berth Hb_first Hb_last Hb_told Hb_held x1 x2 x3 x4 x5 x6 = some X → ∀ (H : Heap) (locs : List Loc) (ls : Array Slot), va_P D vwCl (wX0 cy qHb Hb_berthsOf Hb_port Hb_berth Hb_first Hb_last Hb_isGivenUp Hb_told Hb_held) H → va_D A (wX0 cy qHb Hb_berthsOf Hb_port Hb_berth Hb_first Hb_last Hb_isGivenUp Hb_told Hb_held) → va_S A s.heap H locs → lv_has ls 8 [(0, .ref (qHb 0)), (1, .int x1), (2, .int x2), (3, .int x3), (4, .int x4), (5, .int x5), (6, .int x6)] → W p l e ({ frames := 2, cells := 0, slots := 0, locals := 52 } : Room) s m args below meth c H locs 0 0 (MQ below (va_Qi (fun (r : Int32) (u : (Nat → Int32) × (Nat → Int32) × (Nat → Int32) × (Nat → Int32) × (Int32) × (Int32)) => r = X.1 ∧ u = X.2) (fun u t => BW D cy A (wX0 cy qHb Hb_berthsOf u.1 u.2.1 u.2.2.1 u.2.2.2.1 Hb_isGivenUp u.2.2.2.2.1 u.2.2.2.2.2) t) A) args s 0 0 A) (F0 m 49 ls []) := by
  obtain ⟨hx, hb, hr, hml, hown, hts, hK, hA, hN, hlocks⟩ := id C0
  intro n
  induction n with
  | zero => intro Hb_port Hb_berth Hb_first Hb_last Hb_told Hb_held x1 x2 x3 x4 x5 x6 hf; exact (no_some hf).elim
  | succ n hk49 =>
    intro Hb_port Hb_berth Hb_first Hb_last Hb_told Hb_held x1 x2 x3 x4 x5 x6 hf H locs ls hP hD hS hl
    have hf : f_X0_grant_49 Hb_berthsOf Hb_isGivenUp (fun Hb_port Hb_berth Hb_first Hb_last Hb_told Hb_held x1 x2 x3 x4 x5 x6 => g_X0_grant_49 Hb_berthsOf Hb_isGivenUp n Hb_port Hb_berth Hb_first Hb_last Hb_told Hb_held x1 x2 x3 x4 x5 x6) Hb_port Hb_berth Hb_first Hb_last Hb_told Hb_held x1 x2 x3 x4 x5 x6 = some X := hf
    unfold f_X0_grant_49 at hf
    refine lv_iload hx hb dX0_grant_49 (lv_at hl 6 rfl) ?_
    refine lv_aload_n hx hb dX0_grant_51 rfl (lv_at hl 0 rfl) ?_
    refine va_get (D := D) (ci := 0) (v := .ref (qHb 1)) (C := RX0) (T := TX0) (N := 8) hx hb hts i_X0_grant_X0 hown hK hP 0 rfl rfl 0 (by decide) (hts _ m_X0_grant_f11) (fun _ h9 => h9) rfl dX0_grant_52 ?_
    refine lv_iload_n hx hb dX0_grant_55 rfl (lv_at hl 1 rfl) ?_
    obtain ⟨hz1, hf⟩ := ifn hf
    refine va_iald hx hb hK hP 1 0 rfl rfl (inb_in hz1) dX0_grant_56 ?_
    refine lv_icmp_ge (tgt := 92) hx hb dX0_grant_57 (by decide) (fun hc2 => ?_) (fun hc2 => ?_)
    · have hf := ift hf hc2
      refine lv_iload hx hb dX0_grant_92 (lv_at hl 5 rfl) ?_
      refine lv_iload_n hx hb dX0_grant_94 rfl (lv_at hl 3 rfl) ?_
      refine lv_iadd hx hb dX0_grant_95 ?_
      refine lv_iconst (v := (1 : Int32)) hx hb dX0_grant_96 (by decide) ?_
      refine lv_isub hx hb dX0_grant_97 ?_
      refine lv_istore (lv' := [(6, .int ((x5 + x3) - (1 : Int32))), (0, .ref (qHb 0)), (1, .int x1), (2, .int x2), (3, .int x3), (4, .int x4), (5, .int x5)]) hx hb dX0_grant_98 hl (by decide) rfl (fun ls hl => ?_)
      refine lv_iload hx hb dX0_grant_100 (lv_at hl 0 rfl) ?_
      refine lv_sipush (v := (400 : Int32)) hx hb dX0_grant_102 (by decide) ?_
      refine lv_icmp_le (tgt := 111) hx hb dX0_grant_105 (by decide) (fun hc3 => ?_) (fun hc3 => ?_)
      · have hf := ift hf hc3
        refine lv_aload_n hx hb dX0_grant_111 rfl (lv_at hl 1 rfl) ?_
        refine va_get (D := D) (ci := 0) (v := .int Hb_told) (C := RX0) (T := TX0) (N := 8) hx hb hts i_X0_grant_X0 hown hK hP 0 rfl rfl 6 (by decide) (hts _ m_X0_grant_f39) (fun _ h9 => h9) rfl dX0_grant_112 ?_
        refine lv_bipush (v := (60 : Int32)) hx hb dX0_grant_115 (by decide) ?_
        refine lv_icmp_lt (tgt := 123) hx hb dX0_grant_117 (by decide) (fun hc4 => ?_) (fun hc4 => ?_)
        · have hf := ift hf hc4
          refine lv_aload_n hx hb dX0_grant_123 rfl (lv_at hl 1 rfl) ?_
          refine lv_iload_n hx hb dX0_grant_124 rfl (lv_at hl 2 rfl) ?_
          refine lv_iload hx hb dX0_grant_125 (lv_at hl 5 rfl) ?_
          refine lv_iload hx hb dX0_grant_127 (lv_at hl 6 rfl) ?_
          refine lv_iload hx hb dX0_grant_129 (lv_at hl 0 rfl) ?_
          obtain ⟨u5, eu5, hf⟩ := Option.bind_eq_some_iff.mp hf
          refine cq_i (wc' := fun (u : (Nat → Int32) × (Nat → Int32) × (Nat → Int32) × (Nat → Int32) × (Int32) × (Int32)) => (wX0 cy qHb Hb_berthsOf u.1 u.2.1 u.2.2.1 u.2.2.2.1 Hb_isGivenUp u.2.2.2.2.1 u.2.2.2.2.2)) (ws' := fun (u : (Nat → Int32) × (Nat → Int32) × (Nat → Int32) × (Nat → Int32) × (Int32) × (Int32)) => (wX0 cy qHb Hb_berthsOf u.1 u.2.1 u.2.2.1 u.2.2.2.1 Hb_isGivenUp u.2.2.2.2.1 u.2.2.2.2.2)) (wc := (wX0 cy qHb Hb_berthsOf Hb_port Hb_berth Hb_first Hb_last Hb_isGivenUp Hb_told Hb_held)) (wr := ([] : va_W)) C0 hP hD hS [0, 1, 2, 3, 4, 5, 6] [] [0, 1, 2, 3, 4, 5, 6] rfl rfl (by decide) (by decide) (by decide) (fun _ => rfl) (va_runV (As := [.int x1, .int x4, .int x5, .int ((x5 + x3) - (1 : Int32))]) (rest := []) ⟨hx, hb, hml, hown, hts⟩ (c_X0_keep l D cy qHb Hb_berthsOf Hb_port Hb_berth Hb_first Hb_last Hb_isGivenUp Hb_told Hb_held H.size x1 x4 x5 ((x5 + x3) - (1 : Int32)) u5 eu5) (cwV 4 hts gX0_grant_X0_keep rfl rfl rfl (by decide +kernel) ⟨Nat.le_of_ble_eq_true rfl, Nat.le_of_ble_eq_true rfl⟩) (pre_V (hP.sub (ws' := (wX0 cy qHb Hb_berthsOf Hb_port Hb_berth Hb_first Hb_last Hb_isGivenUp Hb_told Hb_held)) [0, 1, 2, 3, 4, 5, 6] rfl) hK (hD.sub (ws' := (wX0 cy qHb Hb_berthsOf Hb_port Hb_berth Hb_first Hb_last Hb_isGivenUp Hb_told Hb_held)) [0, 1, 2, 3, 4, 5, 6] (by decide) rfl) hN 0 0 rfl rfl) rfl rfl hl.1 rfl (lv_room (Nat.le_of_ble_eq_true rfl)) dX0_grant_131 ⟨Nat.zero_le _, Nat.zero_le _⟩) (fun r u H locs hw hP hD hS => ?_)
          obtain ⟨rfl, rfl⟩ := hw
          have hP : va_P D vwCl (wX0 cy qHb Hb_berthsOf u5.2.1 u5.2.2.1 u5.2.2.2.1 u5.2.2.2.2.1 Hb_isGivenUp u5.2.2.2.2.2.1 u5.2.2.2.2.2.2) H := hP
          have hD : va_D A (wX0 cy qHb Hb_berthsOf u5.2.1 u5.2.2.1 u5.2.2.2.1 u5.2.2.2.2.1 Hb_isGivenUp u5.2.2.2.2.2.1 u5.2.2.2.2.2.2) := hD
          exact rq_i C0 (u5.2.1, u5.2.2.1, u5.2.2.2.1, u5.2.2.2.2.1, u5.2.2.2.2.2.1, u5.2.2.2.2.2.2) (pr_2 hf) hP hD hS dX0_grant_134
        · have hf := iff_ hf hc4
          refine lv_bipush (v := (-5 : Int32)) hx hb dX0_grant_120 (by decide) ?_
          exact rq_i C0 (Hb_port, Hb_berth, Hb_first, Hb_last, Hb_told, Hb_held) (pr_2 hf) hP hD hS dX0_grant_122
      · have hf := iff_ hf hc3
        refine lv_bipush (v := (-3 : Int32)) hx hb dX0_grant_108 (by decide) ?_
        exact rq_i C0 (Hb_port, Hb_berth, Hb_first, Hb_last, Hb_told, Hb_held) (pr_2 hf) hP hD hS dX0_grant_110
    · have hf := iff_ hf hc2
      refine lv_aload_n hx hb dX0_grant_60 rfl (lv_at hl 0 rfl) ?_
      refine lv_iload_n hx hb dX0_grant_61 rfl (lv_at hl 1 rfl) ?_
      refine lv_iload hx hb dX0_grant_62 (lv_at hl 6 rfl) ?_
      refine lv_iload_n hx hb dX0_grant_64 rfl (lv_at hl 2 rfl) ?_
      refine lv_iload_n hx hb dX0_grant_65 rfl (lv_at hl 3 rfl) ?_
      obtain ⟨u6, eu6, hf⟩ := Option.bind_eq_some_iff.mp hf
      refine cq_i (wc' := fun (u : Unit) => (wX0 cy qHb Hb_berthsOf Hb_port Hb_berth Hb_first Hb_last Hb_isGivenUp Hb_told Hb_held)) (ws' := fun (u : Unit) => (wX0 cy qHb Hb_berthsOf Hb_port Hb_berth Hb_first Hb_last Hb_isGivenUp Hb_told Hb_held)) (wc := (wX0 cy qHb Hb_berthsOf Hb_port Hb_berth Hb_first Hb_last Hb_isGivenUp Hb_told Hb_held)) (wr := ([] : va_W)) C0 hP hD hS [0, 1, 2, 3, 4, 5, 6] [] [0, 1, 2, 3, 4, 5, 6] rfl rfl (by decide) (by decide) (by decide) (fun _ => rfl) (va_runV (As := [.int x1, .int x6, .int x2, .int x3]) (rest := []) ⟨hx, hb, hml, hown, hts⟩ (c_X0_firstFree l D cy qHb Hb_berthsOf Hb_port Hb_berth Hb_first Hb_last Hb_isGivenUp Hb_told Hb_held H.size x1 x6 x2 x3 u6 eu6) (cwV 4 hts gX0_grant_X0_firstFree rfl rfl rfl (by decide +kernel) ⟨Nat.le_of_ble_eq_true rfl, Nat.le_of_ble_eq_true rfl⟩) (pre_V (hP.sub (ws' := (wX0 cy qHb Hb_berthsOf Hb_port Hb_berth Hb_first Hb_last Hb_isGivenUp Hb_told Hb_held)) [0, 1, 2, 3, 4, 5, 6] rfl) hK (hD.sub (ws' := (wX0 cy qHb Hb_berthsOf Hb_port Hb_berth Hb_first Hb_last Hb_isGivenUp Hb_told Hb_held)) [0, 1, 2, 3, 4, 5, 6] (by decide) rfl) hN 0 0 rfl rfl) rfl rfl hl.1 rfl (lv_room (Nat.le_of_ble_eq_true rfl)) dX0_grant_66 ⟨Nat.zero_le _, Nat.zero_le _⟩) (fun r u H locs hw hP hD hS => ?_)
      have hw := hw.symm
      subst hw
      have hP : va_P D vwCl (wX0 cy qHb Hb_berthsOf Hb_port Hb_berth Hb_first Hb_last Hb_isGivenUp Hb_told Hb_held) H := hP
      have hD : va_D A (wX0 cy qHb Hb_berthsOf Hb_port Hb_berth Hb_first Hb_last Hb_isGivenUp Hb_told Hb_held) := hD
      refine lv_istore (lv' := [(7, .int u6), (0, .ref (qHb 0)), (1, .int x1), (2, .int x2), (3, .int x3), (4, .int x4), (5, .int x5), (6, .int x6)]) hx hb dX0_grant_69 hl (by decide) rfl (fun ls hl => ?_)
      refine lv_iload hx hb dX0_grant_71 (lv_at hl 0 rfl) ?_
      refine lv_iload hx hb dX0_grant_73 (lv_at hl 6 rfl) ?_
      refine lv_icmp_ge (tgt := 86) hx hb dX0_grant_75 (by decide) (fun hc7 => ?_) (fun hc7 => ?_)
      · have hf := ift hf hc7
        exact w_X0_grant_86 C0 hk49 Hb_port Hb_berth Hb_first Hb_last Hb_told Hb_held x1 x2 x3 x4 x5 x6 hf H locs ls hP hD hS (lv_sub hl [1, 2, 3, 4, 5, 6, 7] rfl)
      · have hf := iff_ hf hc7
        refine lv_iload hx hb dX0_grant_78 (lv_at hl 7 rfl) ?_
        refine lv_istore (lv' := [(4, .int x6), (7, .int u6), (0, .ref (qHb 0)), (1, .int x1), (2, .int x2), (3, .int x3), (5, .int x5), (6, .int x6)]) hx hb dX0_grant_80 hl (by decide) rfl (fun ls hl => ?_)
        refine lv_iload hx hb dX0_grant_82 (lv_at hl 1 rfl) ?_
        refine lv_istore (lv' := [(5, .int u6), (4, .int x6), (7, .int u6), (0, .ref (qHb 0)), (1, .int x1), (2, .int x2), (3, .int x3), (6, .int x6)]) hx hb dX0_grant_84 hl (by decide) rfl (fun ls hl => ?_)
        exact w_X0_grant_86 C0 hk49 Hb_port Hb_berth Hb_first Hb_last Hb_told Hb_held x1 x2 x3 x6 u6 x6 hf H locs ls hP hD hS (lv_sub hl [3, 4, 5, 6, 1, 0, 7] rfl)

set_option maxHeartbeats 4000000 in
set_option maxRecDepth 100000 in
theorem c_X0_grant (l : Launch) (D : va_G) (cy : Nat → ClassId) (qHb : Nat → Nat) (Hb_berthsOf : Nat → Int32) (Hb_port : Nat → Int32) (Hb_berth : Nat → Int32) (Hb_first : Nat → Int32) (Hb_last : Nat → Int32) (Hb_isGivenUp : Nat → Int32) (Hb_told : Int32) (Hb_held : Int32) (sz : Nat) (x1 : Int32) (x2 : Int32) (x3 : Int32) (X : Int32 × (Nat → Int32) × (Nat → Int32) × (Nat → Int32) × (Nat → Int32) × (Int32) × (Int32)) (hf : f_X0_grant Hb_berthsOf Hb_port Hb_berth Hb_first Hb_last Hb_isGivenUp Hb_told Hb_held x1 x2 x3 = some X) : Met l yX0_grant wsX0_grant ({ frames := 2, cells := 0, slots := 0, locals := 52 } : Room) (va_Pc [.ref (qHb 0), .int x1, .int x2, .int x3] (PW D cy (wX0 cy qHb Hb_berthsOf Hb_port Hb_berth Hb_first Hb_last Hb_isGivenUp Hb_told Hb_held) sz)) (va_Qi (fun (r : Int32) (u : (Nat → Int32) × (Nat → Int32) × (Nat → Int32) × (Nat → Int32) × (Int32) × (Int32)) => r = X.1 ∧ u = X.2) (fun u t => BW D cy (va_A (wX0 cy qHb Hb_berthsOf Hb_port Hb_berth Hb_first Hb_last Hb_isGivenUp Hb_told Hb_held) sz) (wX0 cy qHb Hb_berthsOf u.1 u.2.1 u.2.2.1 u.2.2.2.1 Hb_isGivenUp u.2.2.2.2.1 u.2.2.2.2.2) t) (va_A (wX0 cy qHb Hb_berthsOf Hb_port Hb_berth Hb_first Hb_last Hb_isGivenUp Hb_told Hb_held) sz)) 0 0 (va_A (wX0 cy qHb Hb_berthsOf Hb_port Hb_berth Hb_first Hb_last Hb_isGivenUp Hb_told Hb_held) sz) := by
  refine met_enter (Qc := fun A => (va_Qi (fun (r : Int32) (u : (Nat → Int32) × (Nat → Int32) × (Nat → Int32) × (Nat → Int32) × (Int32) × (Int32)) => r = X.1 ∧ u = X.2) (fun u t => BW D cy A (wX0 cy qHb Hb_berthsOf u.1 u.2.1 u.2.2.1 u.2.2.2.1 Hb_isGivenUp u.2.2.2.2.1 u.2.2.2.2.2) t) A)) (lv0 := [(0, .ref (qHb 0)), (1, .int x1), (2, .int x2), (3, .int x3)]) (by decide) rfl (Nat.le_of_ble_eq_true rfl) rfl ?_
  intro p e s m below meth c A ls hnm C0 hP hD hS hl
  generalize hH : s.heap = H at hP ⊢
  generalize hLoc : ([] : List Loc) = locs at hS ⊢
  have hS : va_S A s.heap H locs := by rw [← hH]; exact hS
  have C0 : CX cX0_grant 8 (some .int) RX0 wsX0_grant D cy p s m _ meth c A := C0
  obtain ⟨hx, hb, hr, hml, hown, hts, hK, hA, hN, hlocks⟩ := id C0
  unfold f_X0_grant at hf
  refine lv_iload_n hx hb dX0_grant_0 rfl (lv_at hl 2 rfl) ?_
  refine lv_iconst (v := (0 : Int32)) hx hb dX0_grant_1 (by decide) ?_
  refine lv_sipush (v := (400 : Int32)) hx hb dX0_grant_2 (by decide) ?_
  obtain ⟨u8, eu8, hf⟩ := Option.bind_eq_some_iff.mp hf
  refine cq_i (wc' := fun (u : Unit) => ([] : va_W)) (ws' := fun (u : Unit) => (wX0 cy qHb Hb_berthsOf Hb_port Hb_berth Hb_first Hb_last Hb_isGivenUp Hb_told Hb_held)) (wc := ([] : va_W)) (wr := (wX0 cy qHb Hb_berthsOf Hb_port Hb_berth Hb_first Hb_last Hb_isGivenUp Hb_told Hb_held)) C0 hP hD hS [] [0, 1, 2, 3, 4, 5, 6] [0, 1, 2, 3, 4, 5, 6] rfl rfl (by decide) (by decide) (by decide) (fun _ => rfl) (va_runSN (As := [.int x2, .int (0 : Int32), .int (400 : Int32)]) (rest := []) ⟨hx, hb, hml, hown, hts⟩ (c_X8_isWithin l D cy   H.size x2 (0 : Int32) (400 : Int32) u8 eu8) ⟨va_cnB 3 hts gX0_grant_X8_isWithin_n31 rfl rfl rfl (hN _ nw_X0_31) (hts _ m_X0_grant_i_X8) (by decide +kernel) ⟨Nat.le_of_ble_eq_true rfl, Nat.le_of_ble_eq_true rfl⟩, hts _ m_X0_grant_s_X8_isWithin, trivial⟩ (pre_S (hP.sub (ws' := ([] : va_W)) [] rfl) hK (hD.sub (ws' := ([] : va_W)) [] (by decide) rfl) hN) rfl rfl hl.1 rfl (lv_room (Nat.le_of_ble_eq_true rfl)) dX0_grant_5 ⟨Nat.zero_le _, Nat.zero_le _⟩) (fun r u H locs hw hP hD hS => ?_)
  have hw := hw.symm
  subst hw
  have hP : va_P D vwCl (wX0 cy qHb Hb_berthsOf Hb_port Hb_berth Hb_first Hb_last Hb_isGivenUp Hb_told Hb_held) H := hP
  have hD : va_D A (wX0 cy qHb Hb_berthsOf Hb_port Hb_berth Hb_first Hb_last Hb_isGivenUp Hb_told Hb_held) := hD
  refine lv_if_eq (tgt := 21) hx hb dX0_grant_8 (by decide) (fun hc9 => ?_) (fun hc9 => ?_)
  · have hf := ift hf hc9
    refine lv_iconst (v := (-1 : Int32)) hx hb dX0_grant_21 (by decide) ?_
    exact rq_i C0 (Hb_port, Hb_berth, Hb_first, Hb_last, Hb_told, Hb_held) (pr_2 hf) hP hD hS dX0_grant_22
  · have hf := iff_ hf hc9
    refine lv_iload_n hx hb dX0_grant_11 rfl (lv_at hl 3 rfl) ?_
    refine lv_iconst (v := (1 : Int32)) hx hb dX0_grant_12 (by decide) ?_
    refine lv_bipush (v := (30 : Int32)) hx hb dX0_grant_13 (by decide) ?_
    obtain ⟨u10, eu10, hf⟩ := Option.bind_eq_some_iff.mp hf
    refine cq_i (wc' := fun (u : Unit) => ([] : va_W)) (ws' := fun (u : Unit) => (wX0 cy qHb Hb_berthsOf Hb_port Hb_berth Hb_first Hb_last Hb_isGivenUp Hb_told Hb_held)) (wc := ([] : va_W)) (wr := (wX0 cy qHb Hb_berthsOf Hb_port Hb_berth Hb_first Hb_last Hb_isGivenUp Hb_told Hb_held)) C0 hP hD hS [] [0, 1, 2, 3, 4, 5, 6] [0, 1, 2, 3, 4, 5, 6] rfl rfl (by decide) (by decide) (by decide) (fun _ => rfl) (va_runSN (As := [.int x3, .int (1 : Int32), .int (30 : Int32)]) (rest := []) ⟨hx, hb, hml, hown, hts⟩ (c_X8_isWithin l D cy   H.size x3 (1 : Int32) (30 : Int32) u10 eu10) ⟨va_cnB 3 hts gX0_grant_X8_isWithin_n31 rfl rfl rfl (hN _ nw_X0_31) (hts _ m_X0_grant_i_X8) (by decide +kernel) ⟨Nat.le_of_ble_eq_true rfl, Nat.le_of_ble_eq_true rfl⟩, hts _ m_X0_grant_s_X8_isWithin, trivial⟩ (pre_S (hP.sub (ws' := ([] : va_W)) [] rfl) hK (hD.sub (ws' := ([] : va_W)) [] (by decide) rfl) hN) rfl rfl hl.1 rfl (lv_room (Nat.le_of_ble_eq_true rfl)) dX0_grant_15 ⟨Nat.zero_le _, Nat.zero_le _⟩) (fun r u H locs hw hP hD hS => ?_)
    have hw := hw.symm
    subst hw
    have hP : va_P D vwCl (wX0 cy qHb Hb_berthsOf Hb_port Hb_berth Hb_first Hb_last Hb_isGivenUp Hb_told Hb_held) H := hP
    have hD : va_D A (wX0 cy qHb Hb_berthsOf Hb_port Hb_berth Hb_first Hb_last Hb_isGivenUp Hb_told Hb_held) := hD
    refine lv_if_ne (tgt := 23) hx hb dX0_grant_18 (by decide) (fun hc11 => ?_) (fun hc11 => ?_)
    · have hf := iff_ hf hc11
      refine lv_iload_n hx hb dX0_grant_23 rfl (lv_at hl 1 rfl) ?_
      obtain ⟨u12, eu12, hf⟩ := Option.bind_eq_some_iff.mp hf
      refine cq_i (wc' := fun (u : Unit) => ([] : va_W)) (ws' := fun (u : Unit) => (wX0 cy qHb Hb_berthsOf Hb_port Hb_berth Hb_first Hb_last Hb_isGivenUp Hb_told Hb_held)) (wc := ([] : va_W)) (wr := (wX0 cy qHb Hb_berthsOf Hb_port Hb_berth Hb_first Hb_last Hb_isGivenUp Hb_told Hb_held)) C0 hP hD hS [] [0, 1, 2, 3, 4, 5, 6] [0, 1, 2, 3, 4, 5, 6] rfl rfl (by decide) (by decide) (by decide) (fun _ => rfl) (va_runS (As := [.int x1]) (rest := []) ⟨hx, hb, hml, hown, hts⟩ (c_X0_isPort l D cy   H.size x1 u12 eu12) (va_cwS 1 hts gX0_grant_X0_isPort rfl rfl rfl (by decide +kernel) ⟨Nat.le_of_ble_eq_true rfl, Nat.le_of_ble_eq_true rfl⟩) (pre_S (hP.sub (ws' := ([] : va_W)) [] rfl) hK (hD.sub (ws' := ([] : va_W)) [] (by decide) rfl) hN) rfl rfl hl.1 rfl (lv_room (Nat.le_of_ble_eq_true rfl)) dX0_grant_24 ⟨Nat.zero_le _, Nat.zero_le _⟩) (fun r u H locs hw hP hD hS => ?_)
      have hw := hw.symm
      subst hw
      have hP : va_P D vwCl (wX0 cy qHb Hb_berthsOf Hb_port Hb_berth Hb_first Hb_last Hb_isGivenUp Hb_told Hb_held) H := hP
      have hD : va_D A (wX0 cy qHb Hb_berthsOf Hb_port Hb_berth Hb_first Hb_last Hb_isGivenUp Hb_told Hb_held) := hD
      refine lv_if_ne (tgt := 33) hx hb dX0_grant_27 (by decide) (fun hc13 => ?_) (fun hc13 => ?_)
      · have hf := iff_ hf hc13
        refine lv_iconst (v := (0 : Int32)) hx hb dX0_grant_33 (by decide) ?_
        refine lv_istore (lv' := [(4, .int (0 : Int32)), (0, .ref (qHb 0)), (1, .int x1), (2, .int x2), (3, .int x3)]) hx hb dX0_grant_34 hl (by decide) rfl (fun ls hl => ?_)
        refine lv_aload_n hx hb dX0_grant_36 rfl (lv_at hl 1 rfl) ?_
        refine lv_iload_n hx hb dX0_grant_37 rfl (lv_at hl 2 rfl) ?_
        refine lv_iconst (v := (0 : Int32)) hx hb dX0_grant_38 (by decide) ?_
        refine lv_iload_n hx hb dX0_grant_39 rfl (lv_at hl 3 rfl) ?_
        refine lv_iload_n hx hb dX0_grant_40 rfl (lv_at hl 4 rfl) ?_
        obtain ⟨u14, eu14, hf⟩ := Option.bind_eq_some_iff.mp hf
        refine cq_i (wc' := fun (u : Unit) => (wX0 cy qHb Hb_berthsOf Hb_port Hb_berth Hb_first Hb_last Hb_isGivenUp Hb_told Hb_held)) (ws' := fun (u : Unit) => (wX0 cy qHb Hb_berthsOf Hb_port Hb_berth Hb_first Hb_last Hb_isGivenUp Hb_told Hb_held)) (wc := (wX0 cy qHb Hb_berthsOf Hb_port Hb_berth Hb_first Hb_last Hb_isGivenUp Hb_told Hb_held)) (wr := ([] : va_W)) C0 hP hD hS [0, 1, 2, 3, 4, 5, 6] [] [0, 1, 2, 3, 4, 5, 6] rfl rfl (by decide) (by decide) (by decide) (fun _ => rfl) (va_runV (As := [.int x1, .int (0 : Int32), .int x2, .int x3]) (rest := []) ⟨hx, hb, hml, hown, hts⟩ (c_X0_firstFree l D cy qHb Hb_berthsOf Hb_port Hb_berth Hb_first Hb_last Hb_isGivenUp Hb_told Hb_held H.size x1 (0 : Int32) x2 x3 u14 eu14) (cwV 4 hts gX0_grant_X0_firstFree rfl rfl rfl (by decide +kernel) ⟨Nat.le_of_ble_eq_true rfl, Nat.le_of_ble_eq_true rfl⟩) (pre_V (hP.sub (ws' := (wX0 cy qHb Hb_berthsOf Hb_port Hb_berth Hb_first Hb_last Hb_isGivenUp Hb_told Hb_held)) [0, 1, 2, 3, 4, 5, 6] rfl) hK (hD.sub (ws' := (wX0 cy qHb Hb_berthsOf Hb_port Hb_berth Hb_first Hb_last Hb_isGivenUp Hb_told Hb_held)) [0, 1, 2, 3, 4, 5, 6] (by decide) rfl) hN 0 0 rfl rfl) rfl rfl hl.1 rfl (lv_room (Nat.le_of_ble_eq_true rfl)) dX0_grant_41 ⟨Nat.zero_le _, Nat.zero_le _⟩) (fun r u H locs hw hP hD hS => ?_)
        have hw := hw.symm
        subst hw
        have hP : va_P D vwCl (wX0 cy qHb Hb_berthsOf Hb_port Hb_berth Hb_first Hb_last Hb_isGivenUp Hb_told Hb_held) H := hP
        have hD : va_D A (wX0 cy qHb Hb_berthsOf Hb_port Hb_berth Hb_first Hb_last Hb_isGivenUp Hb_told Hb_held) := hD
        refine lv_istore (lv' := [(5, .int u14), (4, .int (0 : Int32)), (0, .ref (qHb 0)), (1, .int x1), (2, .int x2), (3, .int x3)]) hx hb dX0_grant_44 hl (by decide) rfl (fun ls hl => ?_)
        refine lv_iconst (v := (1 : Int32)) hx hb dX0_grant_46 (by decide) ?_
        refine lv_istore (lv' := [(6, .int (1 : Int32)), (5, .int u14), (4, .int (0 : Int32)), (0, .ref (qHb 0)), (1, .int x1), (2, .int x2), (3, .int x3)]) hx hb dX0_grant_47 hl (by decide) rfl (fun ls hl => ?_)
        exact w_X0_grant_49 C0  FU Hb_port Hb_berth Hb_first Hb_last Hb_told Hb_held x1 x2 x3 (0 : Int32) u14 (1 : Int32) hf H locs ls hP hD hS (lv_sub hl [3, 4, 5, 6, 2, 1, 0] rfl)
      · have hf := ift hf hc13
        refine lv_bipush (v := (-2 : Int32)) hx hb dX0_grant_30 (by decide) ?_
        exact rq_i C0 (Hb_port, Hb_berth, Hb_first, Hb_last, Hb_told, Hb_held) (pr_2 hf) hP hD hS dX0_grant_32
    · have hf := ift hf hc11
      refine lv_iconst (v := (-1 : Int32)) hx hb dX0_grant_21 (by decide) ?_
      exact rq_i C0 (Hb_port, Hb_berth, Hb_first, Hb_last, Hb_told, Hb_held) (pr_2 hf) hP hD hS dX0_grant_22

theorem i_X0_isHeld_X0 : ∀ w ∈ wsX00, w ∈ wsX0_isHeld := by decide +kernel
theorem m_X0_isHeld_f39 : Cond.fieldLink RX0 39 "SailCargo$Harbour" "told" "I" ∈ wsX0_isHeld := by decide +kernel
theorem m_X0_isHeld_s_X8_isWithin : Cond.static yX8_isWithin ∈ wsX0_isHeld := by decide +kernel
theorem m_X0_isHeld_i_X8 : Cond.initialized RX8 ∈ wsX0_isHeld := by decide +kernel
theorem m_X0_isHeld_f27 : Cond.fieldLink RX0 27 "SailCargo$Harbour" "isGivenUp" "[Z" ∈ wsX0_isHeld := by decide +kernel
set_option maxHeartbeats 4000000 in
set_option maxRecDepth 100000 in
theorem c_X0_isHeld (l : Launch) (D : va_G) (cy : Nat → ClassId) (qHb : Nat → Nat) (Hb_berthsOf : Nat → Int32) (Hb_port : Nat → Int32) (Hb_berth : Nat → Int32) (Hb_first : Nat → Int32) (Hb_last : Nat → Int32) (Hb_isGivenUp : Nat → Int32) (Hb_told : Int32) (Hb_held : Int32) (sz : Nat) (x1 : Int32) (X : Int32) (hf : f_X0_isHeld Hb_isGivenUp Hb_told x1 = some X) : Met l yX0_isHeld wsX0_isHeld ({ frames := 1, cells := 0, slots := 0, locals := 22 } : Room) (va_Pc [.ref (qHb 0), .int x1] (PW D cy (wX0 cy qHb Hb_berthsOf Hb_port Hb_berth Hb_first Hb_last Hb_isGivenUp Hb_told Hb_held) sz)) (va_Qi (fun (r : Int32) (_ : Unit) => r = X) (fun u t => BW D cy (va_A (wX0 cy qHb Hb_berthsOf Hb_port Hb_berth Hb_first Hb_last Hb_isGivenUp Hb_told Hb_held) sz) (wX0 cy qHb Hb_berthsOf Hb_port Hb_berth Hb_first Hb_last Hb_isGivenUp Hb_told Hb_held) t) (va_A (wX0 cy qHb Hb_berthsOf Hb_port Hb_berth Hb_first Hb_last Hb_isGivenUp Hb_told Hb_held) sz)) 0 0 (va_A (wX0 cy qHb Hb_berthsOf Hb_port Hb_berth Hb_first Hb_last Hb_isGivenUp Hb_told Hb_held) sz) := by
  refine met_enter (Qc := fun A => (va_Qi (fun (r : Int32) (_ : Unit) => r = X) (fun u t => BW D cy A (wX0 cy qHb Hb_berthsOf Hb_port Hb_berth Hb_first Hb_last Hb_isGivenUp Hb_told Hb_held) t) A)) (lv0 := [(0, .ref (qHb 0)), (1, .int x1)]) (by decide) rfl (Nat.le_of_ble_eq_true rfl) rfl ?_
  intro p e s m below meth c A ls hnm C0 hP hD hS hl
  generalize hH : s.heap = H at hP ⊢
  generalize hLoc : ([] : List Loc) = locs at hS ⊢
  have hS : va_S A s.heap H locs := by rw [← hH]; exact hS
  have C0 : CX cX0_isHeld 2 (some .boolean) RX0 wsX0_isHeld D cy p s m _ meth c A := C0
  obtain ⟨hx, hb, hr, hml, hown, hts, hK, hA, hN, hlocks⟩ := id C0
  unfold f_X0_isHeld at hf
  refine lv_iload_n hx hb dX0_isHeld_0 rfl (lv_at hl 1 rfl) ?_
  refine lv_iconst (v := (0 : Int32)) hx hb dX0_isHeld_1 (by decide) ?_
  refine lv_aload_n hx hb dX0_isHeld_2 rfl (lv_at hl 0 rfl) ?_
  refine va_get (D := D) (ci := 0) (v := .int Hb_told) (C := RX0) (T := TX0) (N := 8) hx hb hts i_X0_isHeld_X0 hown hK hP 0 rfl rfl 6 (by decide) (hts _ m_X0_isHeld_f39) (fun _ h9 => h9) rfl dX0_isHeld_3 ?_
  refine lv_iconst (v := (1 : Int32)) hx hb dX0_isHeld_6 (by decide) ?_
  refine lv_isub hx hb dX0_isHeld_7 ?_
  obtain ⟨u1, eu1, hf⟩ := Option.bind_eq_some_iff.mp hf
  refine cq_i (wc' := fun (u : Unit) => ([] : va_W)) (ws' := fun (u : Unit) => (wX0 cy qHb Hb_berthsOf Hb_port Hb_berth Hb_first Hb_last Hb_isGivenUp Hb_told Hb_held)) (wc := ([] : va_W)) (wr := (wX0 cy qHb Hb_berthsOf Hb_port Hb_berth Hb_first Hb_last Hb_isGivenUp Hb_told Hb_held)) C0 hP hD hS [] [0, 1, 2, 3, 4, 5, 6] [0, 1, 2, 3, 4, 5, 6] rfl rfl (by decide) (by decide) (by decide) (fun _ => rfl) (va_runSN (As := [.int x1, .int (0 : Int32), .int (Hb_told - (1 : Int32))]) (rest := []) ⟨hx, hb, hml, hown, hts⟩ (c_X8_isWithin l D cy   H.size x1 (0 : Int32) (Hb_told - (1 : Int32)) u1 eu1) ⟨va_cnB 3 hts gX0_isHeld_X8_isWithin_n31 rfl rfl rfl (hN _ nw_X0_31) (hts _ m_X0_isHeld_i_X8) (by decide +kernel) ⟨Nat.le_of_ble_eq_true rfl, Nat.le_of_ble_eq_true rfl⟩, hts _ m_X0_isHeld_s_X8_isWithin, trivial⟩ (pre_S (hP.sub (ws' := ([] : va_W)) [] rfl) hK (hD.sub (ws' := ([] : va_W)) [] (by decide) rfl) hN) rfl rfl hl.1 rfl (lv_room (Nat.le_of_ble_eq_true rfl)) dX0_isHeld_8 ⟨Nat.zero_le _, Nat.zero_le _⟩) (fun r u H locs hw hP hD hS => ?_)
  have hw := hw.symm
  subst hw
  have hP : va_P D vwCl (wX0 cy qHb Hb_berthsOf Hb_port Hb_berth Hb_first Hb_last Hb_isGivenUp Hb_told Hb_held) H := hP
  have hD : va_D A (wX0 cy qHb Hb_berthsOf Hb_port Hb_berth Hb_first Hb_last Hb_isGivenUp Hb_told Hb_held) := hD
  refine lv_if_eq (tgt := 27) hx hb dX0_isHeld_11 (by decide) (fun hc2 => ?_) (fun hc2 => ?_)
  · have hf := ift hf hc2
    refine lv_iconst (v := (0 : Int32)) hx hb dX0_isHeld_27 (by decide) ?_
    exact rq_z C0 (by decide) () (Option.some.inj hf) hP hD hS dX0_isHeld_28
  · have hf := iff_ hf hc2
    refine lv_aload_n hx hb dX0_isHeld_14 rfl (lv_at hl 0 rfl) ?_
    refine va_get (D := D) (ci := 0) (v := .ref (qHb 6)) (C := RX0) (T := TX0) (N := 8) hx hb hts i_X0_isHeld_X0 hown hK hP 0 rfl rfl 5 (by decide) (hts _ m_X0_isHeld_f27) (fun _ h9 => h9) rfl dX0_isHeld_15 ?_
    refine lv_iload_n hx hb dX0_isHeld_18 rfl (lv_at hl 1 rfl) ?_
    obtain ⟨hz3, hf⟩ := ifn hf
    refine va_zald hx hb hK hP 6 2 rfl rfl (inb_in hz3) dX0_isHeld_19 ?_
    refine lv_if_ne (tgt := 27) hx hb dX0_isHeld_20 (by decide) (fun hc4 => ?_) (fun hc4 => ?_)
    · have hf := iff_ hf hc4
      refine lv_iconst (v := (0 : Int32)) hx hb dX0_isHeld_27 (by decide) ?_
      exact rq_z C0 (by decide) () (Option.some.inj hf) hP hD hS dX0_isHeld_28
    · have hf := ift hf hc4
      refine lv_iconst (v := (1 : Int32)) hx hb dX0_isHeld_23 (by decide) ?_
      refine lv_goto (tgt := 28) hx hb dX0_isHeld_24 (by decide) ?_
      exact rq_z C0 (by decide) () (Option.some.inj hf) hP hD hS dX0_isHeld_28

theorem i_X0_tell_X0 : ∀ w ∈ wsX00, w ∈ wsX0_tell := by decide +kernel
theorem m_X0_tell_f15 : Cond.fieldLink RX0 15 "SailCargo$Harbour" "port" "[I" ∈ wsX0_tell := by decide +kernel
theorem m_X0_tell_f18 : Cond.fieldLink RX0 18 "SailCargo$Harbour" "berth" "[I" ∈ wsX0_tell := by decide +kernel
theorem m_X0_tell_f21 : Cond.fieldLink RX0 21 "SailCargo$Harbour" "first" "[I" ∈ wsX0_tell := by decide +kernel
theorem m_X0_tell_f24 : Cond.fieldLink RX0 24 "SailCargo$Harbour" "last" "[I" ∈ wsX0_tell := by decide +kernel
set_option maxHeartbeats 4000000 in
set_option maxRecDepth 100000 in
theorem c_X0_tell (l : Launch) (D : va_G) (cy : Nat → ClassId) (qHb : Nat → Nat) (Hb_berthsOf : Nat → Int32) (Hb_port : Nat → Int32) (Hb_berth : Nat → Int32) (Hb_first : Nat → Int32) (Hb_last : Nat → Int32) (Hb_isGivenUp : Nat → Int32) (Hb_told : Int32) (Hb_held : Int32) (sz : Nat) (x1 : Int32) (x2 : Int32) (X : Int32) (hf : f_X0_tell Hb_port Hb_berth Hb_first Hb_last Hb_isGivenUp Hb_told x1 x2 = some X) : Met l yX0_tell wsX0_tell ({ frames := 2, cells := 0, slots := 0, locals := 43 } : Room) (va_Pc [.ref (qHb 0), .int x1, .int x2] (PW D cy (wX0 cy qHb Hb_berthsOf Hb_port Hb_berth Hb_first Hb_last Hb_isGivenUp Hb_told Hb_held) sz)) (va_Qi (fun (r : Int32) (_ : Unit) => r = X) (fun u t => BW D cy (va_A (wX0 cy qHb Hb_berthsOf Hb_port Hb_berth Hb_first Hb_last Hb_isGivenUp Hb_told Hb_held) sz) (wX0 cy qHb Hb_berthsOf Hb_port Hb_berth Hb_first Hb_last Hb_isGivenUp Hb_told Hb_held) t) (va_A (wX0 cy qHb Hb_berthsOf Hb_port Hb_berth Hb_first Hb_last Hb_isGivenUp Hb_told Hb_held) sz)) 0 0 (va_A (wX0 cy qHb Hb_berthsOf Hb_port Hb_berth Hb_first Hb_last Hb_isGivenUp Hb_told Hb_held) sz) := by
  refine met_enter (Qc := fun A => (va_Qi (fun (r : Int32) (_ : Unit) => r = X) (fun u t => BW D cy A (wX0 cy qHb Hb_berthsOf Hb_port Hb_berth Hb_first Hb_last Hb_isGivenUp Hb_told Hb_held) t) A)) (lv0 := [(0, .ref (qHb 0)), (1, .int x1), (2, .int x2)]) (by decide) rfl (Nat.le_of_ble_eq_true rfl) rfl ?_
  intro p e s m below meth c A ls hnm C0 hP hD hS hl
  generalize hH : s.heap = H at hP ⊢
  generalize hLoc : ([] : List Loc) = locs at hS ⊢
  have hS : va_S A s.heap H locs := by rw [← hH]; exact hS
  have C0 : CX cX0_tell 3 (some .int) RX0 wsX0_tell D cy p s m _ meth c A := C0
  obtain ⟨hx, hb, hr, hml, hown, hts, hK, hA, hN, hlocks⟩ := id C0
  unfold f_X0_tell at hf
  refine lv_aload_n hx hb dX0_tell_0 rfl (lv_at hl 0 rfl) ?_
  refine lv_iload_n hx hb dX0_tell_1 rfl (lv_at hl 1 rfl) ?_
  obtain ⟨u1, eu1, hf⟩ := Option.bind_eq_some_iff.mp hf
  refine cq_i (wc' := fun (u : Unit) => (wX0 cy qHb Hb_berthsOf Hb_port Hb_berth Hb_first Hb_last Hb_isGivenUp Hb_told Hb_held)) (ws' := fun (u : Unit) => (wX0 cy qHb Hb_berthsOf Hb_port Hb_berth Hb_first Hb_last Hb_isGivenUp Hb_told Hb_held)) (wc := (wX0 cy qHb Hb_berthsOf Hb_port Hb_berth Hb_first Hb_last Hb_isGivenUp Hb_told Hb_held)) (wr := ([] : va_W)) C0 hP hD hS [0, 1, 2, 3, 4, 5, 6] [] [0, 1, 2, 3, 4, 5, 6] rfl rfl (by decide) (by decide) (by decide) (fun _ => rfl) (va_runV (As := [.int x1]) (rest := []) ⟨hx, hb, hml, hown, hts⟩ (c_X0_isHeld l D cy qHb Hb_berthsOf Hb_port Hb_berth Hb_first Hb_last Hb_isGivenUp Hb_told Hb_held H.size x1 u1 eu1) (cwV 1 hts gX0_tell_X0_isHeld rfl rfl rfl (by decide +kernel) ⟨Nat.le_of_ble_eq_true rfl, Nat.le_of_ble_eq_true rfl⟩) (pre_V (hP.sub (ws' := (wX0 cy qHb Hb_berthsOf Hb_port Hb_berth Hb_first Hb_last Hb_isGivenUp Hb_told Hb_held)) [0, 1, 2, 3, 4, 5, 6] rfl) hK (hD.sub (ws' := (wX0 cy qHb Hb_berthsOf Hb_port Hb_berth Hb_first Hb_last Hb_isGivenUp Hb_told Hb_held)) [0, 1, 2, 3, 4, 5, 6] (by decide) rfl) hN 0 0 rfl rfl) rfl rfl hl.1 rfl (lv_room (Nat.le_of_ble_eq_true rfl)) dX0_tell_2 ⟨Nat.zero_le _, Nat.zero_le _⟩) (fun r u H locs hw hP hD hS => ?_)
  have hw := hw.symm
  subst hw
  have hP : va_P D vwCl (wX0 cy qHb Hb_berthsOf Hb_port Hb_berth Hb_first Hb_last Hb_isGivenUp Hb_told Hb_held) H := hP
  have hD : va_D A (wX0 cy qHb Hb_berthsOf Hb_port Hb_berth Hb_first Hb_last Hb_isGivenUp Hb_told Hb_held) := hD
  refine lv_if_ne (tgt := 10) hx hb dX0_tell_5 (by decide) (fun hc2 => ?_) (fun hc2 => ?_)
  · have hf := iff_ hf hc2
    refine lv_iload_n hx hb dX0_tell_10 rfl (lv_at hl 2 rfl) ?_
    by_cases hc3 : x2 = (0 : Int32)
    · have hf := ift hf hc3
      refine lv_tableIn (off := 29) (tgt := 40) hx hb dX0_tell_11 (by rw [hc3]; decide) (by rw [hc3]; decide) (by rw [hc3]; decide) (by decide) ?_
      refine lv_aload_n hx hb dX0_tell_40 rfl (lv_at hl 0 rfl) ?_
      refine va_get (D := D) (ci := 0) (v := .ref (qHb 2)) (C := RX0) (T := TX0) (N := 8) hx hb hts i_X0_tell_X0 hown hK hP 0 rfl rfl 1 (by decide) (hts _ m_X0_tell_f15) (fun _ h9 => h9) rfl dX0_tell_41 ?_
      refine lv_iload_n hx hb dX0_tell_44 rfl (lv_at hl 1 rfl) ?_
      obtain ⟨hz4, hf⟩ := ifn hf
      refine va_iald hx hb hK hP 2 0 rfl rfl (inb_in hz4) dX0_tell_45 ?_
      exact rq_i C0 () (Option.some.inj hf) hP hD hS dX0_tell_46
    · have hf := iff_ hf hc3
      by_cases hc5 : x2 = (1 : Int32)
      · have hf := ift hf hc5
        refine lv_tableIn (off := 36) (tgt := 47) hx hb dX0_tell_11 (by rw [hc5]; decide) (by rw [hc5]; decide) (by rw [hc5]; decide) (by decide) ?_
        refine lv_aload_n hx hb dX0_tell_47 rfl (lv_at hl 0 rfl) ?_
        refine va_get (D := D) (ci := 0) (v := .ref (qHb 3)) (C := RX0) (T := TX0) (N := 8) hx hb hts i_X0_tell_X0 hown hK hP 0 rfl rfl 2 (by decide) (hts _ m_X0_tell_f18) (fun _ h9 => h9) rfl dX0_tell_48 ?_
        refine lv_iload_n hx hb dX0_tell_51 rfl (lv_at hl 1 rfl) ?_
        obtain ⟨hz6, hf⟩ := ifn hf
        refine va_iald hx hb hK hP 3 0 rfl rfl (inb_in hz6) dX0_tell_52 ?_
        exact rq_i C0 () (Option.some.inj hf) hP hD hS dX0_tell_53
      · have hf := iff_ hf hc5
        by_cases hc7 : x2 = (2 : Int32)
        · have hf := ift hf hc7
          refine lv_tableIn (off := 43) (tgt := 54) hx hb dX0_tell_11 (by rw [hc7]; decide) (by rw [hc7]; decide) (by rw [hc7]; decide) (by decide) ?_
          refine lv_aload_n hx hb dX0_tell_54 rfl (lv_at hl 0 rfl) ?_
          refine va_get (D := D) (ci := 0) (v := .ref (qHb 4)) (C := RX0) (T := TX0) (N := 8) hx hb hts i_X0_tell_X0 hown hK hP 0 rfl rfl 3 (by decide) (hts _ m_X0_tell_f21) (fun _ h9 => h9) rfl dX0_tell_55 ?_
          refine lv_iload_n hx hb dX0_tell_58 rfl (lv_at hl 1 rfl) ?_
          obtain ⟨hz8, hf⟩ := ifn hf
          refine va_iald hx hb hK hP 4 0 rfl rfl (inb_in hz8) dX0_tell_59 ?_
          exact rq_i C0 () (Option.some.inj hf) hP hD hS dX0_tell_60
        · have hf := iff_ hf hc7
          by_cases hc9 : x2 = (3 : Int32)
          · have hf := ift hf hc9
            refine lv_tableIn (off := 50) (tgt := 61) hx hb dX0_tell_11 (by rw [hc9]; decide) (by rw [hc9]; decide) (by rw [hc9]; decide) (by decide) ?_
            refine lv_aload_n hx hb dX0_tell_61 rfl (lv_at hl 0 rfl) ?_
            refine va_get (D := D) (ci := 0) (v := .ref (qHb 5)) (C := RX0) (T := TX0) (N := 8) hx hb hts i_X0_tell_X0 hown hK hP 0 rfl rfl 4 (by decide) (hts _ m_X0_tell_f24) (fun _ h9 => h9) rfl dX0_tell_62 ?_
            refine lv_iload_n hx hb dX0_tell_65 rfl (lv_at hl 1 rfl) ?_
            obtain ⟨hz10, hf⟩ := ifn hf
            refine va_iald hx hb hK hP 5 0 rfl rfl (inb_in hz10) dX0_tell_66 ?_
            exact rq_i C0 () (Option.some.inj hf) hP hD hS dX0_tell_67
          · have hf := iff_ hf hc9
            refine lv_tableOut (tgt := 68) hx hb dX0_tell_11 (by have n0 := lv_neT hc3 (a := 0) (by decide); have n1 := lv_neT hc5 (a := 1) (by decide); have n2 := lv_neT hc7 (a := 2) (by decide); have n3 := lv_neT hc9 (a := 3) (by decide); omega) (by decide) ?_
            refine lv_iconst (v := (-1 : Int32)) hx hb dX0_tell_68 (by decide) ?_
            exact rq_i C0 () (Option.some.inj hf) hP hD hS dX0_tell_69
  · have hf := ift hf hc2
    refine lv_iconst (v := (-1 : Int32)) hx hb dX0_tell_8 (by decide) ?_
    exact rq_i C0 () (Option.some.inj hf) hP hD hS dX0_tell_9

theorem i_X0_giveUp_X0 : ∀ w ∈ wsX00, w ∈ wsX0_giveUp := by decide +kernel
theorem m_X0_giveUp_f27 : Cond.fieldLink RX0 27 "SailCargo$Harbour" "isGivenUp" "[Z" ∈ wsX0_giveUp := by decide +kernel
theorem m_X0_giveUp_f50 : Cond.fieldLink RX0 50 "SailCargo$Harbour" "held" "I" ∈ wsX0_giveUp := by decide +kernel
set_option maxHeartbeats 4000000 in
set_option maxRecDepth 100000 in
theorem c_X0_giveUp (l : Launch) (D : va_G) (cy : Nat → ClassId) (qHb : Nat → Nat) (Hb_berthsOf : Nat → Int32) (Hb_port : Nat → Int32) (Hb_berth : Nat → Int32) (Hb_first : Nat → Int32) (Hb_last : Nat → Int32) (Hb_isGivenUp : Nat → Int32) (Hb_told : Int32) (Hb_held : Int32) (sz : Nat) (x1 : Int32) (X : Int32 × (Nat → Int32) × (Int32)) (hf : f_X0_giveUp Hb_isGivenUp Hb_told Hb_held x1 = some X) : Met l yX0_giveUp wsX0_giveUp ({ frames := 2, cells := 0, slots := 0, locals := 43 } : Room) (va_Pc [.ref (qHb 0), .int x1] (PW D cy (wX0 cy qHb Hb_berthsOf Hb_port Hb_berth Hb_first Hb_last Hb_isGivenUp Hb_told Hb_held) sz)) (va_Qi (fun (r : Int32) (u : (Nat → Int32) × (Int32)) => r = X.1 ∧ u = X.2) (fun u t => BW D cy (va_A (wX0 cy qHb Hb_berthsOf Hb_port Hb_berth Hb_first Hb_last Hb_isGivenUp Hb_told Hb_held) sz) (wX0 cy qHb Hb_berthsOf Hb_port Hb_berth Hb_first Hb_last u.1 Hb_told u.2) t) (va_A (wX0 cy qHb Hb_berthsOf Hb_port Hb_berth Hb_first Hb_last Hb_isGivenUp Hb_told Hb_held) sz)) 0 0 (va_A (wX0 cy qHb Hb_berthsOf Hb_port Hb_berth Hb_first Hb_last Hb_isGivenUp Hb_told Hb_held) sz) := by
  refine met_enter (Qc := fun A => (va_Qi (fun (r : Int32) (u : (Nat → Int32) × (Int32)) => r = X.1 ∧ u = X.2) (fun u t => BW D cy A (wX0 cy qHb Hb_berthsOf Hb_port Hb_berth Hb_first Hb_last u.1 Hb_told u.2) t) A)) (lv0 := [(0, .ref (qHb 0)), (1, .int x1)]) (by decide) rfl (Nat.le_of_ble_eq_true rfl) rfl ?_
  intro p e s m below meth c A ls hnm C0 hP hD hS hl
  generalize hH : s.heap = H at hP ⊢
  generalize hLoc : ([] : List Loc) = locs at hS ⊢
  have hS : va_S A s.heap H locs := by rw [← hH]; exact hS
  have C0 : CX cX0_giveUp 2 (some .int) RX0 wsX0_giveUp D cy p s m _ meth c A := C0
  obtain ⟨hx, hb, hr, hml, hown, hts, hK, hA, hN, hlocks⟩ := id C0
  unfold f_X0_giveUp at hf
  refine lv_aload_n hx hb dX0_giveUp_0 rfl (lv_at hl 0 rfl) ?_
  refine lv_iload_n hx hb dX0_giveUp_1 rfl (lv_at hl 1 rfl) ?_
  obtain ⟨u1, eu1, hf⟩ := Option.bind_eq_some_iff.mp hf
  refine cq_i (wc' := fun (u : Unit) => (wX0 cy qHb Hb_berthsOf Hb_port Hb_berth Hb_first Hb_last Hb_isGivenUp Hb_told Hb_held)) (ws' := fun (u : Unit) => (wX0 cy qHb Hb_berthsOf Hb_port Hb_berth Hb_first Hb_last Hb_isGivenUp Hb_told Hb_held)) (wc := (wX0 cy qHb Hb_berthsOf Hb_port Hb_berth Hb_first Hb_last Hb_isGivenUp Hb_told Hb_held)) (wr := ([] : va_W)) C0 hP hD hS [0, 1, 2, 3, 4, 5, 6] [] [0, 1, 2, 3, 4, 5, 6] rfl rfl (by decide) (by decide) (by decide) (fun _ => rfl) (va_runV (As := [.int x1]) (rest := []) ⟨hx, hb, hml, hown, hts⟩ (c_X0_isHeld l D cy qHb Hb_berthsOf Hb_port Hb_berth Hb_first Hb_last Hb_isGivenUp Hb_told Hb_held H.size x1 u1 eu1) (cwV 1 hts gX0_giveUp_X0_isHeld rfl rfl rfl (by decide +kernel) ⟨Nat.le_of_ble_eq_true rfl, Nat.le_of_ble_eq_true rfl⟩) (pre_V (hP.sub (ws' := (wX0 cy qHb Hb_berthsOf Hb_port Hb_berth Hb_first Hb_last Hb_isGivenUp Hb_told Hb_held)) [0, 1, 2, 3, 4, 5, 6] rfl) hK (hD.sub (ws' := (wX0 cy qHb Hb_berthsOf Hb_port Hb_berth Hb_first Hb_last Hb_isGivenUp Hb_told Hb_held)) [0, 1, 2, 3, 4, 5, 6] (by decide) rfl) hN 0 0 rfl rfl) rfl rfl hl.1 rfl (lv_room (Nat.le_of_ble_eq_true rfl)) dX0_giveUp_2 ⟨Nat.zero_le _, Nat.zero_le _⟩) (fun r u H locs hw hP hD hS => ?_)
  have hw := hw.symm
  subst hw
  have hP : va_P D vwCl (wX0 cy qHb Hb_berthsOf Hb_port Hb_berth Hb_first Hb_last Hb_isGivenUp Hb_told Hb_held) H := hP
  have hD : va_D A (wX0 cy qHb Hb_berthsOf Hb_port Hb_berth Hb_first Hb_last Hb_isGivenUp Hb_told Hb_held) := hD
  refine lv_if_ne (tgt := 11) hx hb dX0_giveUp_5 (by decide) (fun hc2 => ?_) (fun hc2 => ?_)
  · have hf := iff_ hf hc2
    refine lv_aload_n hx hb dX0_giveUp_11 rfl (lv_at hl 0 rfl) ?_
    refine va_get (D := D) (ci := 0) (v := .ref (qHb 6)) (C := RX0) (T := TX0) (N := 8) hx hb hts i_X0_giveUp_X0 hown hK hP 0 rfl rfl 5 (by decide) (hts _ m_X0_giveUp_f27) (fun _ h9 => h9) rfl dX0_giveUp_12 ?_
    refine lv_iload_n hx hb dX0_giveUp_15 rfl (lv_at hl 1 rfl) ?_
    refine lv_iconst (v := (1 : Int32)) hx hb dX0_giveUp_16 (by decide) ?_
    obtain ⟨hz3, hf⟩ := ifn hf
    refine va_zast hx hb hK hP hD hS 6 2 rfl rfl (inb_in hz3) dX0_giveUp_17 (fun H locs hP hD hS => ?_)
    have hP : va_P D vwCl (wX0 cy qHb Hb_berthsOf Hb_port Hb_berth Hb_first Hb_last (upd Hb_isGivenUp x1.toNatClampNeg (vp_nar .boolean (1 : Int32))) Hb_told Hb_held) H := hP
    have hD : va_D A (wX0 cy qHb Hb_berthsOf Hb_port Hb_berth Hb_first Hb_last (upd Hb_isGivenUp x1.toNatClampNeg (vp_nar .boolean (1 : Int32))) Hb_told Hb_held) := hD
    refine lv_aload_n hx hb dX0_giveUp_18 rfl (lv_at hl 0 rfl) ?_
    refine lv_dup hx hb dX0_giveUp_19 rfl ?_
    refine va_get (D := D) (ci := 0) (v := .int Hb_held) (C := RX0) (T := TX0) (N := 8) hx hb hts i_X0_giveUp_X0 hown hK hP 0 rfl rfl 7 (by decide) (hts _ m_X0_giveUp_f50) (fun _ h9 => h9) rfl dX0_giveUp_20 ?_
    refine lv_iconst (v := (1 : Int32)) hx hb dX0_giveUp_23 (by decide) ?_
    refine lv_isub hx hb dX0_giveUp_24 ?_
    refine va_put (D := D) (ci := 0) (v := .int (Hb_held - (1 : Int32))) (ty := .int) (C := RX0) (T := TX0) (N := 8) hx hb hts i_X0_giveUp_X0 tyX0 tyX0_ok nmX0 hown hK hP hD hS 0 rfl rfl 7 (by decide) (hts _ m_X0_giveUp_f50) (fun _ h9 => h9) rfl (by decide +kernel) rfl rfl (Nat.le_of_ble_eq_true rfl) dX0_giveUp_25 (fun H locs hP hD hS => ?_)
    have hP : va_P D vwCl (wX0 cy qHb Hb_berthsOf Hb_port Hb_berth Hb_first Hb_last (upd Hb_isGivenUp x1.toNatClampNeg (vp_nar .boolean (1 : Int32))) Hb_told (Hb_held - (1 : Int32))) H := hP
    have hD : va_D A (wX0 cy qHb Hb_berthsOf Hb_port Hb_berth Hb_first Hb_last (upd Hb_isGivenUp x1.toNatClampNeg (vp_nar .boolean (1 : Int32))) Hb_told (Hb_held - (1 : Int32))) := hD
    refine lv_iconst (v := (0 : Int32)) hx hb dX0_giveUp_28 (by decide) ?_
    exact rq_i C0 ((upd Hb_isGivenUp x1.toNatClampNeg (vp_nar .boolean (1 : Int32))), (Hb_held - (1 : Int32))) (pr_2 hf) hP hD hS dX0_giveUp_29
  · have hf := ift hf hc2
    refine lv_bipush (v := (-2 : Int32)) hx hb dX0_giveUp_8 (by decide) ?_
    exact rq_i C0 (Hb_isGivenUp, Hb_held) (pr_2 hf) hP hD hS dX0_giveUp_10

