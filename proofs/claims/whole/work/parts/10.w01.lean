theorem i_X1_has_X1 : ∀ w ∈ wsX10, w ∈ wsX1_has := by decide +kernel
theorem m_X1_has_f21 : Cond.fieldLink RX1 21 "SailCargo$Hold" "loads" "I" ∈ wsX1_has := by decide +kernel
theorem m_X1_has_s_X8_isWithin : Cond.static yX8_isWithin ∈ wsX1_has := by decide +kernel
theorem m_X1_has_i_X8 : Cond.initialized RX8 ∈ wsX1_has := by decide +kernel
set_option maxHeartbeats 4000000 in
set_option maxRecDepth 100000 in
theorem c_X1_has (l : Launch) (D : va_G) (cy : Nat → ClassId) (qHo : Nat → Nat) (Ho_tons : Nat → Int32) (Ho_worth : Nat → Int32) (Ho_apartBits : Nat → Int32) (Ho_loads : Int32) (Ho_room : Int32) (Ho_bestBits : Int32) (Ho_bestTons : Int32) (Ho_bestWorth : Int32) (sz : Nat) (x1 : Int32) (X : Int32) (hf : f_X1_has Ho_loads x1 = some X) : Met l yX1_has wsX1_has ({ frames := 1, cells := 0, slots := 0, locals := 22 } : Room) (va_Pc [.ref (qHo 0), .int x1] (PW D cy (wX1 cy qHo Ho_tons Ho_worth Ho_apartBits Ho_loads Ho_room Ho_bestBits Ho_bestTons Ho_bestWorth) sz)) (va_Qi (fun (r : Int32) (_ : Unit) => r = X) (fun u t => BW D cy (va_A (wX1 cy qHo Ho_tons Ho_worth Ho_apartBits Ho_loads Ho_room Ho_bestBits Ho_bestTons Ho_bestWorth) sz) (wX1 cy qHo Ho_tons Ho_worth Ho_apartBits Ho_loads Ho_room Ho_bestBits Ho_bestTons Ho_bestWorth) t) (va_A (wX1 cy qHo Ho_tons Ho_worth Ho_apartBits Ho_loads Ho_room Ho_bestBits Ho_bestTons Ho_bestWorth) sz)) 0 0 (va_A (wX1 cy qHo Ho_tons Ho_worth Ho_apartBits Ho_loads Ho_room Ho_bestBits Ho_bestTons Ho_bestWorth) sz) := by
  refine met_enter (Qc := fun A => (va_Qi (fun (r : Int32) (_ : Unit) => r = X) (fun u t => BW D cy A (wX1 cy qHo Ho_tons Ho_worth Ho_apartBits Ho_loads Ho_room Ho_bestBits Ho_bestTons Ho_bestWorth) t) A)) (lv0 := [(0, .ref (qHo 0)), (1, .int x1)]) (by decide) rfl (Nat.le_of_ble_eq_true rfl) rfl ?_
  intro p e s m below meth c A ls hnm C0 hP hD hS hl
  generalize hH : s.heap = H at hP ⊢
  generalize hLoc : ([] : List Loc) = locs at hS ⊢
  have hS : va_S A s.heap H locs := by rw [← hH]; exact hS
  have C0 : CX cX1_has 2 (some .boolean) RX1 wsX1_has D cy p s m _ meth c A := C0
  obtain ⟨hx, hb, hr, hml, hown, hts, hK, hA, hN, hlocks⟩ := id C0
  unfold f_X1_has at hf
  refine lv_iload_n hx hb dX1_has_0 rfl (lv_at hl 1 rfl) ?_
  refine lv_iconst (v := (0 : Int32)) hx hb dX1_has_1 (by decide) ?_
  refine lv_aload_n hx hb dX1_has_2 rfl (lv_at hl 0 rfl) ?_
  refine va_get (D := D) (ci := 1) (v := .int Ho_loads) (C := RX1) (T := TX1) (N := 8) hx hb hts i_X1_has_X1 hown hK hP 0 rfl rfl 3 (by decide) (hts _ m_X1_has_f21) (fun _ h9 => h9) rfl dX1_has_3 ?_
  refine lv_iconst (v := (1 : Int32)) hx hb dX1_has_6 (by decide) ?_
  refine lv_isub hx hb dX1_has_7 ?_
  obtain ⟨u1, eu1, hf⟩ := Option.bind_eq_some_iff.mp hf
  refine cq_i (wc' := fun (u : Unit) => ([] : va_W)) (ws' := fun (u : Unit) => (wX1 cy qHo Ho_tons Ho_worth Ho_apartBits Ho_loads Ho_room Ho_bestBits Ho_bestTons Ho_bestWorth)) (wc := ([] : va_W)) (wr := (wX1 cy qHo Ho_tons Ho_worth Ho_apartBits Ho_loads Ho_room Ho_bestBits Ho_bestTons Ho_bestWorth)) C0 hP hD hS [] [0, 1, 2, 3] [0, 1, 2, 3] rfl rfl (by decide) (by decide) (by decide) (fun _ => rfl) (va_runSN (As := [.int x1, .int (0 : Int32), .int (Ho_loads - (1 : Int32))]) (rest := []) ⟨hx, hb, hml, hown, hts⟩ (c_X8_isWithin l D cy   H.size x1 (0 : Int32) (Ho_loads - (1 : Int32)) u1 eu1) ⟨va_cnB 3 hts gX1_has_X8_isWithin_n25 rfl rfl rfl (hN _ nw_X1_25) (hts _ m_X1_has_i_X8) (by decide +kernel) ⟨Nat.le_of_ble_eq_true rfl, Nat.le_of_ble_eq_true rfl⟩, hts _ m_X1_has_s_X8_isWithin, trivial⟩ (pre_S (hP.sub (ws' := ([] : va_W)) [] rfl) hK (hD.sub (ws' := ([] : va_W)) [] (by decide) rfl) hN) rfl rfl hl.1 rfl (lv_room (Nat.le_of_ble_eq_true rfl)) dX1_has_8 ⟨Nat.zero_le _, Nat.zero_le _⟩) (fun r u H locs hw hP hD hS => ?_)
  have hw := hw.symm
  subst hw
  have hP : va_P D vwCl (wX1 cy qHo Ho_tons Ho_worth Ho_apartBits Ho_loads Ho_room Ho_bestBits Ho_bestTons Ho_bestWorth) H := hP
  have hD : va_D A (wX1 cy qHo Ho_tons Ho_worth Ho_apartBits Ho_loads Ho_room Ho_bestBits Ho_bestTons Ho_bestWorth) := hD
  obtain ⟨hz2, hf⟩ := ifn hf
  exact rq_z C0 (isb_nar hz2) () (Option.some.inj hf) hP hD hS dX1_has_11

theorem m_X1_add_s_X8_isWithin : Cond.static yX8_isWithin ∈ wsX1_add := by decide +kernel
theorem m_X1_add_i_X8 : Cond.initialized RX8 ∈ wsX1_add := by decide +kernel
theorem i_X1_add_X1 : ∀ w ∈ wsX10, w ∈ wsX1_add := by decide +kernel
theorem m_X1_add_f21 : Cond.fieldLink RX1 21 "SailCargo$Hold" "loads" "I" ∈ wsX1_add := by decide +kernel
theorem m_X1_add_f9 : Cond.fieldLink RX1 9 "SailCargo$Hold" "tons" "[I" ∈ wsX1_add := by decide +kernel
theorem m_X1_add_f15 : Cond.fieldLink RX1 15 "SailCargo$Hold" "worth" "[I" ∈ wsX1_add := by decide +kernel
set_option maxHeartbeats 4000000 in
set_option maxRecDepth 100000 in
theorem c_X1_add (l : Launch) (D : va_G) (cy : Nat → ClassId) (qHo : Nat → Nat) (Ho_tons : Nat → Int32) (Ho_worth : Nat → Int32) (Ho_apartBits : Nat → Int32) (Ho_loads : Int32) (Ho_room : Int32) (Ho_bestBits : Int32) (Ho_bestTons : Int32) (Ho_bestWorth : Int32) (sz : Nat) (x1 : Int32) (x2 : Int32) (X : Int32 × (Nat → Int32) × (Nat → Int32) × (Int32)) (hf : f_X1_add Ho_tons Ho_worth Ho_loads x1 x2 = some X) : Met l yX1_add wsX1_add ({ frames := 1, cells := 0, slots := 0, locals := 22 } : Room) (va_Pc [.ref (qHo 0), .int x1, .int x2] (PW D cy (wX1 cy qHo Ho_tons Ho_worth Ho_apartBits Ho_loads Ho_room Ho_bestBits Ho_bestTons Ho_bestWorth) sz)) (va_Qi (fun (r : Int32) (u : (Nat → Int32) × (Nat → Int32) × (Int32)) => r = X.1 ∧ u = X.2) (fun u t => BW D cy (va_A (wX1 cy qHo Ho_tons Ho_worth Ho_apartBits Ho_loads Ho_room Ho_bestBits Ho_bestTons Ho_bestWorth) sz) (wX1 cy qHo u.1 u.2.1 Ho_apartBits u.2.2 Ho_room Ho_bestBits Ho_bestTons Ho_bestWorth) t) (va_A (wX1 cy qHo Ho_tons Ho_worth Ho_apartBits Ho_loads Ho_room Ho_bestBits Ho_bestTons Ho_bestWorth) sz)) 0 0 (va_A (wX1 cy qHo Ho_tons Ho_worth Ho_apartBits Ho_loads Ho_room Ho_bestBits Ho_bestTons Ho_bestWorth) sz) := by
  refine met_enter (Qc := fun A => (va_Qi (fun (r : Int32) (u : (Nat → Int32) × (Nat → Int32) × (Int32)) => r = X.1 ∧ u = X.2) (fun u t => BW D cy A (wX1 cy qHo u.1 u.2.1 Ho_apartBits u.2.2 Ho_room Ho_bestBits Ho_bestTons Ho_bestWorth) t) A)) (lv0 := [(0, .ref (qHo 0)), (1, .int x1), (2, .int x2)]) (by decide) rfl (Nat.le_of_ble_eq_true rfl) rfl ?_
  intro p e s m below meth c A ls hnm C0 hP hD hS hl
  generalize hH : s.heap = H at hP ⊢
  generalize hLoc : ([] : List Loc) = locs at hS ⊢
  have hS : va_S A s.heap H locs := by rw [← hH]; exact hS
  have C0 : CX cX1_add 3 (some .int) RX1 wsX1_add D cy p s m _ meth c A := C0
  obtain ⟨hx, hb, hr, hml, hown, hts, hK, hA, hN, hlocks⟩ := id C0
  unfold f_X1_add at hf
  refine lv_iload_n hx hb dX1_add_0 rfl (lv_at hl 1 rfl) ?_
  refine lv_iconst (v := (1 : Int32)) hx hb dX1_add_1 (by decide) ?_
  refine lv_sipush (v := (200 : Int32)) hx hb dX1_add_2 (by decide) ?_
  obtain ⟨u1, eu1, hf⟩ := Option.bind_eq_some_iff.mp hf
  refine cq_i (wc' := fun (u : Unit) => ([] : va_W)) (ws' := fun (u : Unit) => (wX1 cy qHo Ho_tons Ho_worth Ho_apartBits Ho_loads Ho_room Ho_bestBits Ho_bestTons Ho_bestWorth)) (wc := ([] : va_W)) (wr := (wX1 cy qHo Ho_tons Ho_worth Ho_apartBits Ho_loads Ho_room Ho_bestBits Ho_bestTons Ho_bestWorth)) C0 hP hD hS [] [0, 1, 2, 3] [0, 1, 2, 3] rfl rfl (by decide) (by decide) (by decide) (fun _ => rfl) (va_runSN (As := [.int x1, .int (1 : Int32), .int (200 : Int32)]) (rest := []) ⟨hx, hb, hml, hown, hts⟩ (c_X8_isWithin l D cy   H.size x1 (1 : Int32) (200 : Int32) u1 eu1) ⟨va_cnB 3 hts gX1_add_X8_isWithin_n25 rfl rfl rfl (hN _ nw_X1_25) (hts _ m_X1_add_i_X8) (by decide +kernel) ⟨Nat.le_of_ble_eq_true rfl, Nat.le_of_ble_eq_true rfl⟩, hts _ m_X1_add_s_X8_isWithin, trivial⟩ (pre_S (hP.sub (ws' := ([] : va_W)) [] rfl) hK (hD.sub (ws' := ([] : va_W)) [] (by decide) rfl) hN) rfl rfl hl.1 rfl (lv_room (Nat.le_of_ble_eq_true rfl)) dX1_add_5 ⟨Nat.zero_le _, Nat.zero_le _⟩) (fun r u H locs hw hP hD hS => ?_)
  have hw := hw.symm
  subst hw
  have hP : va_P D vwCl (wX1 cy qHo Ho_tons Ho_worth Ho_apartBits Ho_loads Ho_room Ho_bestBits Ho_bestTons Ho_bestWorth) H := hP
  have hD : va_D A (wX1 cy qHo Ho_tons Ho_worth Ho_apartBits Ho_loads Ho_room Ho_bestBits Ho_bestTons Ho_bestWorth) := hD
  refine lv_if_eq (tgt := 22) hx hb dX1_add_8 (by decide) (fun hc2 => ?_) (fun hc2 => ?_)
  · have hf := ift hf hc2
    refine lv_iconst (v := (-1 : Int32)) hx hb dX1_add_22 (by decide) ?_
    exact rq_i C0 (Ho_tons, Ho_worth, Ho_loads) (pr_2 hf) hP hD hS dX1_add_23
  · have hf := iff_ hf hc2
    refine lv_iload_n hx hb dX1_add_11 rfl (lv_at hl 2 rfl) ?_
    refine lv_iconst (v := (0 : Int32)) hx hb dX1_add_12 (by decide) ?_
    refine lv_sipush (v := (10000 : Int32)) hx hb dX1_add_13 (by decide) ?_
    obtain ⟨u3, eu3, hf⟩ := Option.bind_eq_some_iff.mp hf
    refine cq_i (wc' := fun (u : Unit) => ([] : va_W)) (ws' := fun (u : Unit) => (wX1 cy qHo Ho_tons Ho_worth Ho_apartBits Ho_loads Ho_room Ho_bestBits Ho_bestTons Ho_bestWorth)) (wc := ([] : va_W)) (wr := (wX1 cy qHo Ho_tons Ho_worth Ho_apartBits Ho_loads Ho_room Ho_bestBits Ho_bestTons Ho_bestWorth)) C0 hP hD hS [] [0, 1, 2, 3] [0, 1, 2, 3] rfl rfl (by decide) (by decide) (by decide) (fun _ => rfl) (va_runSN (As := [.int x2, .int (0 : Int32), .int (10000 : Int32)]) (rest := []) ⟨hx, hb, hml, hown, hts⟩ (c_X8_isWithin l D cy   H.size x2 (0 : Int32) (10000 : Int32) u3 eu3) ⟨va_cnB 3 hts gX1_add_X8_isWithin_n25 rfl rfl rfl (hN _ nw_X1_25) (hts _ m_X1_add_i_X8) (by decide +kernel) ⟨Nat.le_of_ble_eq_true rfl, Nat.le_of_ble_eq_true rfl⟩, hts _ m_X1_add_s_X8_isWithin, trivial⟩ (pre_S (hP.sub (ws' := ([] : va_W)) [] rfl) hK (hD.sub (ws' := ([] : va_W)) [] (by decide) rfl) hN) rfl rfl hl.1 rfl (lv_room (Nat.le_of_ble_eq_true rfl)) dX1_add_16 ⟨Nat.zero_le _, Nat.zero_le _⟩) (fun r u H locs hw hP hD hS => ?_)
    have hw := hw.symm
    subst hw
    have hP : va_P D vwCl (wX1 cy qHo Ho_tons Ho_worth Ho_apartBits Ho_loads Ho_room Ho_bestBits Ho_bestTons Ho_bestWorth) H := hP
    have hD : va_D A (wX1 cy qHo Ho_tons Ho_worth Ho_apartBits Ho_loads Ho_room Ho_bestBits Ho_bestTons Ho_bestWorth) := hD
    refine lv_if_ne (tgt := 24) hx hb dX1_add_19 (by decide) (fun hc4 => ?_) (fun hc4 => ?_)
    · have hf := iff_ hf hc4
      refine lv_aload_n hx hb dX1_add_24 rfl (lv_at hl 0 rfl) ?_
      refine va_get (D := D) (ci := 1) (v := .int Ho_loads) (C := RX1) (T := TX1) (N := 8) hx hb hts i_X1_add_X1 hown hK hP 0 rfl rfl 3 (by decide) (hts _ m_X1_add_f21) (fun _ h9 => h9) rfl dX1_add_25 ?_
      refine lv_bipush (v := (12 : Int32)) hx hb dX1_add_28 (by decide) ?_
      refine lv_icmp_lt (tgt := 36) hx hb dX1_add_30 (by decide) (fun hc5 => ?_) (fun hc5 => ?_)
      · have hf := ift hf hc5
        refine lv_aload_n hx hb dX1_add_36 rfl (lv_at hl 0 rfl) ?_
        refine va_get (D := D) (ci := 1) (v := .ref (qHo 1)) (C := RX1) (T := TX1) (N := 8) hx hb hts i_X1_add_X1 hown hK hP 0 rfl rfl 0 (by decide) (hts _ m_X1_add_f9) (fun _ h9 => h9) rfl dX1_add_37 ?_
        refine lv_aload_n hx hb dX1_add_40 rfl (lv_at hl 0 rfl) ?_
        refine va_get (D := D) (ci := 1) (v := .int Ho_loads) (C := RX1) (T := TX1) (N := 8) hx hb hts i_X1_add_X1 hown hK hP 0 rfl rfl 3 (by decide) (hts _ m_X1_add_f21) (fun _ h9 => h9) rfl dX1_add_41 ?_
        refine lv_iload_n hx hb dX1_add_44 rfl (lv_at hl 1 rfl) ?_
        obtain ⟨hz6, hf⟩ := ifn hf
        refine va_iast hx hb hK hP hD hS 1 0 rfl rfl (inb_in hz6) dX1_add_45 (fun H locs hP hD hS => ?_)
        have hP : va_P D vwCl (wX1 cy qHo (upd Ho_tons Ho_loads.toNatClampNeg x1) Ho_worth Ho_apartBits Ho_loads Ho_room Ho_bestBits Ho_bestTons Ho_bestWorth) H := hP
        have hD : va_D A (wX1 cy qHo (upd Ho_tons Ho_loads.toNatClampNeg x1) Ho_worth Ho_apartBits Ho_loads Ho_room Ho_bestBits Ho_bestTons Ho_bestWorth) := hD
        refine lv_aload_n hx hb dX1_add_46 rfl (lv_at hl 0 rfl) ?_
        refine va_get (D := D) (ci := 1) (v := .ref (qHo 2)) (C := RX1) (T := TX1) (N := 8) hx hb hts i_X1_add_X1 hown hK hP 0 rfl rfl 1 (by decide) (hts _ m_X1_add_f15) (fun _ h9 => h9) rfl dX1_add_47 ?_
        refine lv_aload_n hx hb dX1_add_50 rfl (lv_at hl 0 rfl) ?_
        refine va_get (D := D) (ci := 1) (v := .int Ho_loads) (C := RX1) (T := TX1) (N := 8) hx hb hts i_X1_add_X1 hown hK hP 0 rfl rfl 3 (by decide) (hts _ m_X1_add_f21) (fun _ h9 => h9) rfl dX1_add_51 ?_
        refine lv_iload_n hx hb dX1_add_54 rfl (lv_at hl 2 rfl) ?_
        refine va_iast hx hb hK hP hD hS 2 0 rfl rfl (inb_in hz6) dX1_add_55 (fun H locs hP hD hS => ?_)
        have hP : va_P D vwCl (wX1 cy qHo (upd Ho_tons Ho_loads.toNatClampNeg x1) (upd Ho_worth Ho_loads.toNatClampNeg x2) Ho_apartBits Ho_loads Ho_room Ho_bestBits Ho_bestTons Ho_bestWorth) H := hP
        have hD : va_D A (wX1 cy qHo (upd Ho_tons Ho_loads.toNatClampNeg x1) (upd Ho_worth Ho_loads.toNatClampNeg x2) Ho_apartBits Ho_loads Ho_room Ho_bestBits Ho_bestTons Ho_bestWorth) := hD
        refine lv_aload_n hx hb dX1_add_56 rfl (lv_at hl 0 rfl) ?_
        refine lv_dup hx hb dX1_add_57 rfl ?_
        refine va_get (D := D) (ci := 1) (v := .int Ho_loads) (C := RX1) (T := TX1) (N := 8) hx hb hts i_X1_add_X1 hown hK hP 0 rfl rfl 3 (by decide) (hts _ m_X1_add_f21) (fun _ h9 => h9) rfl dX1_add_58 ?_
        refine lv_iconst (v := (1 : Int32)) hx hb dX1_add_61 (by decide) ?_
        refine lv_iadd hx hb dX1_add_62 ?_
        refine va_put (D := D) (ci := 1) (v := .int (Ho_loads + (1 : Int32))) (ty := .int) (C := RX1) (T := TX1) (N := 8) hx hb hts i_X1_add_X1 tyX1 tyX1_ok nmX1 hown hK hP hD hS 0 rfl rfl 3 (by decide) (hts _ m_X1_add_f21) (fun _ h9 => h9) rfl (by decide +kernel) rfl rfl (Nat.le_of_ble_eq_true rfl) dX1_add_63 (fun H locs hP hD hS => ?_)
        have hP : va_P D vwCl (wX1 cy qHo (upd Ho_tons Ho_loads.toNatClampNeg x1) (upd Ho_worth Ho_loads.toNatClampNeg x2) Ho_apartBits (Ho_loads + (1 : Int32)) Ho_room Ho_bestBits Ho_bestTons Ho_bestWorth) H := hP
        have hD : va_D A (wX1 cy qHo (upd Ho_tons Ho_loads.toNatClampNeg x1) (upd Ho_worth Ho_loads.toNatClampNeg x2) Ho_apartBits (Ho_loads + (1 : Int32)) Ho_room Ho_bestBits Ho_bestTons Ho_bestWorth) := hD
        refine lv_aload_n hx hb dX1_add_66 rfl (lv_at hl 0 rfl) ?_
        refine va_get (D := D) (ci := 1) (v := .int (Ho_loads + (1 : Int32))) (C := RX1) (T := TX1) (N := 8) hx hb hts i_X1_add_X1 hown hK hP 0 rfl rfl 3 (by decide) (hts _ m_X1_add_f21) (fun _ h9 => h9) rfl dX1_add_67 ?_
        refine lv_iconst (v := (1 : Int32)) hx hb dX1_add_70 (by decide) ?_
        refine lv_isub hx hb dX1_add_71 ?_
        exact rq_i C0 ((upd Ho_tons Ho_loads.toNatClampNeg x1), (upd Ho_worth Ho_loads.toNatClampNeg x2), (Ho_loads + (1 : Int32))) (pr_2 hf) hP hD hS dX1_add_72
      · have hf := iff_ hf hc5
        refine lv_bipush (v := (-5 : Int32)) hx hb dX1_add_33 (by decide) ?_
        exact rq_i C0 (Ho_tons, Ho_worth, Ho_loads) (pr_2 hf) hP hD hS dX1_add_35
    · have hf := ift hf hc4
      refine lv_iconst (v := (-1 : Int32)) hx hb dX1_add_22 (by decide) ?_
      exact rq_i C0 (Ho_tons, Ho_worth, Ho_loads) (pr_2 hf) hP hD hS dX1_add_23

theorem i_X1_markApart_X1 : ∀ w ∈ wsX10, w ∈ wsX1_markApart := by decide +kernel
theorem m_X1_markApart_f18 : Cond.fieldLink RX1 18 "SailCargo$Hold" "apartBits" "[I" ∈ wsX1_markApart := by decide +kernel
set_option maxHeartbeats 4000000 in
set_option maxRecDepth 100000 in
theorem w_X1_markApart_37 {p : Program} {l : Launch} {e : Env} {s : State} {m : MethodId} {args : Array Value} {below : List Frame} {meth : Method} {c : Code} {A : Nat → Prop} {D : va_G} {cy : Nat → ClassId} {qHo : Nat → Nat} {Ho_tons Ho_worth : Nat → Int32} {Ho_loads Ho_room Ho_bestBits Ho_bestTons Ho_bestWorth : Int32} {X : (Nat → Int32)}  (C0 : CX cX1_markApart 5 none RX1 wsX1_markApart D cy p s m args meth c A)  (Ho_apartBits : Nat → Int32) (t1 : Int32) (t2 : Int32) (hf : f_X1_markApart_37  Ho_apartBits t1 t2 = some X) : ∀ (H : Heap) (locs : List Loc) (ls : Array Slot), va_P D vwCl (wX1 cy qHo Ho_tons Ho_worth Ho_apartBits Ho_loads Ho_room Ho_bestBits Ho_bestTons Ho_bestWorth) H → va_D A (wX1 cy qHo Ho_tons Ho_worth Ho_apartBits Ho_loads Ho_room Ho_bestBits Ho_bestTons Ho_bestWorth) → va_S A s.heap H locs → lv_has ls 5 [] → W p l e ({ frames := 0, cells := 0, slots := 0, locals := 0 } : Room) s m args below meth c H locs 0 0 (MQ below (va_Qv (fun (u : (Nat → Int32)) => u = X) (fun u t => BW D cy A (wX1 cy qHo Ho_tons Ho_worth u Ho_loads Ho_room Ho_bestBits Ho_bestTons Ho_bestWorth) t) A) args s 0 0 A) (F0 m 37 ls [.int t2, .int t1, .ref (qHo 3)]) := by
  obtain ⟨hx, hb, hr, hml, hown, hts, hK, hA, hN, hlocks⟩ := id C0
  intro H locs ls hP hD hS hl
  unfold f_X1_markApart_37 at hf
  obtain ⟨hz1, hf⟩ := ifn hf
  refine va_iast hx hb hK hP hD hS 3 0 rfl rfl (inb_in hz1) dX1_markApart_37 (fun H locs hP hD hS => ?_)
  have hP : va_P D vwCl (wX1 cy qHo Ho_tons Ho_worth (upd Ho_apartBits t1.toNatClampNeg t2) Ho_loads Ho_room Ho_bestBits Ho_bestTons Ho_bestWorth) H := hP
  have hD : va_D A (wX1 cy qHo Ho_tons Ho_worth (upd Ho_apartBits t1.toNatClampNeg t2) Ho_loads Ho_room Ho_bestBits Ho_bestTons Ho_bestWorth) := hD
  exact rq_v C0 (upd Ho_apartBits t1.toNatClampNeg t2) (Option.some.inj hf) hP hD hS dX1_markApart_38

set_option maxHeartbeats 4000000 in
set_option maxRecDepth 100000 in
theorem c_X1_markApart (l : Launch) (D : va_G) (cy : Nat → ClassId) (qHo : Nat → Nat) (Ho_tons : Nat → Int32) (Ho_worth : Nat → Int32) (Ho_apartBits : Nat → Int32) (Ho_loads : Int32) (Ho_room : Int32) (Ho_bestBits : Int32) (Ho_bestTons : Int32) (Ho_bestWorth : Int32) (sz : Nat) (x1 : Int32) (x2 : Int32) (x3 : Int32) (X : (Nat → Int32)) (hf : f_X1_markApart Ho_apartBits x1 x2 x3 = some X) : Met l yX1_markApart wsX1_markApart ({ frames := 0, cells := 0, slots := 0, locals := 0 } : Room) (va_Pc [.ref (qHo 0), .int x1, .int x2, .int x3] (PW D cy (wX1 cy qHo Ho_tons Ho_worth Ho_apartBits Ho_loads Ho_room Ho_bestBits Ho_bestTons Ho_bestWorth) sz)) (va_Qv (fun (u : (Nat → Int32)) => u = X) (fun u t => BW D cy (va_A (wX1 cy qHo Ho_tons Ho_worth Ho_apartBits Ho_loads Ho_room Ho_bestBits Ho_bestTons Ho_bestWorth) sz) (wX1 cy qHo Ho_tons Ho_worth u Ho_loads Ho_room Ho_bestBits Ho_bestTons Ho_bestWorth) t) (va_A (wX1 cy qHo Ho_tons Ho_worth Ho_apartBits Ho_loads Ho_room Ho_bestBits Ho_bestTons Ho_bestWorth) sz)) 0 0 (va_A (wX1 cy qHo Ho_tons Ho_worth Ho_apartBits Ho_loads Ho_room Ho_bestBits Ho_bestTons Ho_bestWorth) sz) := by
  refine met_enter (Qc := fun A => (va_Qv (fun (u : (Nat → Int32)) => u = X) (fun u t => BW D cy A (wX1 cy qHo Ho_tons Ho_worth u Ho_loads Ho_room Ho_bestBits Ho_bestTons Ho_bestWorth) t) A)) (lv0 := [(0, .ref (qHo 0)), (1, .int x1), (2, .int x2), (3, .int x3)]) (by decide) rfl (Nat.le_of_ble_eq_true rfl) rfl ?_
  intro p e s m below meth c A ls hnm C0 hP hD hS hl
  generalize hH : s.heap = H at hP ⊢
  generalize hLoc : ([] : List Loc) = locs at hS ⊢
  have hS : va_S A s.heap H locs := by rw [← hH]; exact hS
  have C0 : CX cX1_markApart 5 none RX1 wsX1_markApart D cy p s m _ meth c A := C0
  obtain ⟨hx, hb, hr, hml, hown, hts, hK, hA, hN, hlocks⟩ := id C0
  unfold f_X1_markApart at hf
  refine lv_iconst (v := (1 : Int32)) hx hb dX1_markApart_0 (by decide) ?_
  refine lv_iload_n hx hb dX1_markApart_1 rfl (lv_at hl 2 rfl) ?_
  refine lv_ishl hx hb dX1_markApart_2 ?_
  refine lv_istore (lv' := [(4, .int ((1 : Int32) <<< (x2 &&& 31))), (0, .ref (qHo 0)), (1, .int x1), (2, .int x2), (3, .int x3)]) hx hb dX1_markApart_3 hl (by decide) rfl (fun ls hl => ?_)
  refine lv_aload_n hx hb dX1_markApart_5 rfl (lv_at hl 1 rfl) ?_
  refine va_get (D := D) (ci := 1) (v := .ref (qHo 3)) (C := RX1) (T := TX1) (N := 8) hx hb hts i_X1_markApart_X1 hown hK hP 0 rfl rfl 2 (by decide) (hts _ m_X1_markApart_f18) (fun _ h9 => h9) rfl dX1_markApart_6 ?_
  refine lv_iload_n hx hb dX1_markApart_9 rfl (lv_at hl 2 rfl) ?_
  refine lv_iload_n hx hb dX1_markApart_10 rfl (lv_at hl 4 rfl) ?_
  refine lv_if_eq (tgt := 26) hx hb dX1_markApart_11 (by decide) (fun hc2 => ?_) (fun hc2 => ?_)
  · have hf := ift hf hc2
    refine lv_aload_n hx hb dX1_markApart_26 rfl (lv_at hl 1 rfl) ?_
    refine va_get (D := D) (ci := 1) (v := .ref (qHo 3)) (C := RX1) (T := TX1) (N := 8) hx hb hts i_X1_markApart_X1 hown hK hP 0 rfl rfl 2 (by decide) (hts _ m_X1_markApart_f18) (fun _ h9 => h9) rfl dX1_markApart_27 ?_
    refine lv_iload_n hx hb dX1_markApart_30 rfl (lv_at hl 2 rfl) ?_
    obtain ⟨hz3, hf⟩ := ifn hf
    refine va_iald hx hb hK hP 3 0 rfl rfl (inb_in hz3) dX1_markApart_31 ?_
    refine lv_iload hx hb dX1_markApart_32 (lv_at hl 0 rfl) ?_
    refine lv_iconst (v := (-1 : Int32)) hx hb dX1_markApart_34 (by decide) ?_
    refine lv_ixor hx hb dX1_markApart_35 ?_
    refine lv_iand hx hb dX1_markApart_36 ?_
    exact w_X1_markApart_37 C0  Ho_apartBits x1 ((Ho_apartBits x1.toNatClampNeg) &&& (((1 : Int32) <<< (x2 &&& 31)) ^^^ (-1 : Int32))) hf H locs ls hP hD hS (lv_sub hl [] rfl)
  · have hf := iff_ hf hc2
    refine lv_aload_n hx hb dX1_markApart_14 rfl (lv_at hl 1 rfl) ?_
    refine va_get (D := D) (ci := 1) (v := .ref (qHo 3)) (C := RX1) (T := TX1) (N := 8) hx hb hts i_X1_markApart_X1 hown hK hP 0 rfl rfl 2 (by decide) (hts _ m_X1_markApart_f18) (fun _ h9 => h9) rfl dX1_markApart_15 ?_
    refine lv_iload_n hx hb dX1_markApart_18 rfl (lv_at hl 2 rfl) ?_
    obtain ⟨hz4, hf⟩ := ifn hf
    refine va_iald hx hb hK hP 3 0 rfl rfl (inb_in hz4) dX1_markApart_19 ?_
    refine lv_iload hx hb dX1_markApart_20 (lv_at hl 0 rfl) ?_
    refine lv_ior hx hb dX1_markApart_22 ?_
    refine lv_goto (tgt := 37) hx hb dX1_markApart_23 (by decide) ?_
    exact w_X1_markApart_37 C0  Ho_apartBits x1 ((Ho_apartBits x1.toNatClampNeg) ||| ((1 : Int32) <<< (x2 &&& 31))) hf H locs ls hP hD hS (lv_sub hl [] rfl)

set_option maxHeartbeats 4000000 in
set_option maxRecDepth 100000 in
theorem c_X1_setApart (l : Launch) (D : va_G) (cy : Nat → ClassId) (qHo : Nat → Nat) (Ho_tons : Nat → Int32) (Ho_worth : Nat → Int32) (Ho_apartBits : Nat → Int32) (Ho_loads : Int32) (Ho_room : Int32) (Ho_bestBits : Int32) (Ho_bestTons : Int32) (Ho_bestWorth : Int32) (sz : Nat) (x1 : Int32) (x2 : Int32) (x3 : Int32) (X : Int32 × (Nat → Int32)) (hf : f_X1_setApart Ho_apartBits Ho_loads x1 x2 x3 = some X) : Met l yX1_setApart wsX1_setApart ({ frames := 2, cells := 0, slots := 0, locals := 43 } : Room) (va_Pc [.ref (qHo 0), .int x1, .int x2, .int x3] (PW D cy (wX1 cy qHo Ho_tons Ho_worth Ho_apartBits Ho_loads Ho_room Ho_bestBits Ho_bestTons Ho_bestWorth) sz)) (va_Qi (fun (r : Int32) (u : (Nat → Int32)) => r = X.1 ∧ u = X.2) (fun u t => BW D cy (va_A (wX1 cy qHo Ho_tons Ho_worth Ho_apartBits Ho_loads Ho_room Ho_bestBits Ho_bestTons Ho_bestWorth) sz) (wX1 cy qHo Ho_tons Ho_worth u Ho_loads Ho_room Ho_bestBits Ho_bestTons Ho_bestWorth) t) (va_A (wX1 cy qHo Ho_tons Ho_worth Ho_apartBits Ho_loads Ho_room Ho_bestBits Ho_bestTons Ho_bestWorth) sz)) 0 0 (va_A (wX1 cy qHo Ho_tons Ho_worth Ho_apartBits Ho_loads Ho_room Ho_bestBits Ho_bestTons Ho_bestWorth) sz) := by
  refine met_enter (Qc := fun A => (va_Qi (fun (r : Int32) (u : (Nat → Int32)) => r = X.1 ∧ u = X.2) (fun u t => BW D cy A (wX1 cy qHo Ho_tons Ho_worth u Ho_loads Ho_room Ho_bestBits Ho_bestTons Ho_bestWorth) t) A)) (lv0 := [(0, .ref (qHo 0)), (1, .int x1), (2, .int x2), (3, .int x3)]) (by decide) rfl (Nat.le_of_ble_eq_true rfl) rfl ?_
  intro p e s m below meth c A ls hnm C0 hP hD hS hl
  generalize hH : s.heap = H at hP ⊢
  generalize hLoc : ([] : List Loc) = locs at hS ⊢
  have hS : va_S A s.heap H locs := by rw [← hH]; exact hS
  have C0 : CX cX1_setApart 4 (some .int) RX1 wsX1_setApart D cy p s m _ meth c A := C0
  obtain ⟨hx, hb, hr, hml, hown, hts, hK, hA, hN, hlocks⟩ := id C0
  unfold f_X1_setApart at hf
  refine lv_aload_n hx hb dX1_setApart_0 rfl (lv_at hl 0 rfl) ?_
  refine lv_iload_n hx hb dX1_setApart_1 rfl (lv_at hl 1 rfl) ?_
  obtain ⟨u1, eu1, hf⟩ := Option.bind_eq_some_iff.mp hf
  refine cq_i (wc' := fun (u : Unit) => (wX1 cy qHo Ho_tons Ho_worth Ho_apartBits Ho_loads Ho_room Ho_bestBits Ho_bestTons Ho_bestWorth)) (ws' := fun (u : Unit) => (wX1 cy qHo Ho_tons Ho_worth Ho_apartBits Ho_loads Ho_room Ho_bestBits Ho_bestTons Ho_bestWorth)) (wc := (wX1 cy qHo Ho_tons Ho_worth Ho_apartBits Ho_loads Ho_room Ho_bestBits Ho_bestTons Ho_bestWorth)) (wr := ([] : va_W)) C0 hP hD hS [0, 1, 2, 3] [] [0, 1, 2, 3] rfl rfl (by decide) (by decide) (by decide) (fun _ => rfl) (va_runV (As := [.int x1]) (rest := []) ⟨hx, hb, hml, hown, hts⟩ (c_X1_has l D cy qHo Ho_tons Ho_worth Ho_apartBits Ho_loads Ho_room Ho_bestBits Ho_bestTons Ho_bestWorth H.size x1 u1 eu1) (cwV 1 hts gX1_setApart_X1_has rfl rfl rfl (by decide +kernel) ⟨Nat.le_of_ble_eq_true rfl, Nat.le_of_ble_eq_true rfl⟩) (pre_V (hP.sub (ws' := (wX1 cy qHo Ho_tons Ho_worth Ho_apartBits Ho_loads Ho_room Ho_bestBits Ho_bestTons Ho_bestWorth)) [0, 1, 2, 3] rfl) hK (hD.sub (ws' := (wX1 cy qHo Ho_tons Ho_worth Ho_apartBits Ho_loads Ho_room Ho_bestBits Ho_bestTons Ho_bestWorth)) [0, 1, 2, 3] (by decide) rfl) hN 1 0 rfl rfl) rfl rfl hl.1 rfl (lv_room (Nat.le_of_ble_eq_true rfl)) dX1_setApart_2 ⟨Nat.zero_le _, Nat.zero_le _⟩) (fun r u H locs hw hP hD hS => ?_)
  have hw := hw.symm
  subst hw
  have hP : va_P D vwCl (wX1 cy qHo Ho_tons Ho_worth Ho_apartBits Ho_loads Ho_room Ho_bestBits Ho_bestTons Ho_bestWorth) H := hP
  have hD : va_D A (wX1 cy qHo Ho_tons Ho_worth Ho_apartBits Ho_loads Ho_room Ho_bestBits Ho_bestTons Ho_bestWorth) := hD
  refine lv_if_eq (tgt := 16) hx hb dX1_setApart_5 (by decide) (fun hc2 => ?_) (fun hc2 => ?_)
  · have hf := ift hf hc2
    refine lv_bipush (v := (-2 : Int32)) hx hb dX1_setApart_16 (by decide) ?_
    exact rq_i C0 Ho_apartBits (pr_2 hf) hP hD hS dX1_setApart_18
  · have hf := iff_ hf hc2
    refine lv_aload_n hx hb dX1_setApart_8 rfl (lv_at hl 0 rfl) ?_
    refine lv_iload_n hx hb dX1_setApart_9 rfl (lv_at hl 2 rfl) ?_
    obtain ⟨u3, eu3, hf⟩ := Option.bind_eq_some_iff.mp hf
    refine cq_i (wc' := fun (u : Unit) => (wX1 cy qHo Ho_tons Ho_worth Ho_apartBits Ho_loads Ho_room Ho_bestBits Ho_bestTons Ho_bestWorth)) (ws' := fun (u : Unit) => (wX1 cy qHo Ho_tons Ho_worth Ho_apartBits Ho_loads Ho_room Ho_bestBits Ho_bestTons Ho_bestWorth)) (wc := (wX1 cy qHo Ho_tons Ho_worth Ho_apartBits Ho_loads Ho_room Ho_bestBits Ho_bestTons Ho_bestWorth)) (wr := ([] : va_W)) C0 hP hD hS [0, 1, 2, 3] [] [0, 1, 2, 3] rfl rfl (by decide) (by decide) (by decide) (fun _ => rfl) (va_runV (As := [.int x2]) (rest := []) ⟨hx, hb, hml, hown, hts⟩ (c_X1_has l D cy qHo Ho_tons Ho_worth Ho_apartBits Ho_loads Ho_room Ho_bestBits Ho_bestTons Ho_bestWorth H.size x2 u3 eu3) (cwV 1 hts gX1_setApart_X1_has rfl rfl rfl (by decide +kernel) ⟨Nat.le_of_ble_eq_true rfl, Nat.le_of_ble_eq_true rfl⟩) (pre_V (hP.sub (ws' := (wX1 cy qHo Ho_tons Ho_worth Ho_apartBits Ho_loads Ho_room Ho_bestBits Ho_bestTons Ho_bestWorth)) [0, 1, 2, 3] rfl) hK (hD.sub (ws' := (wX1 cy qHo Ho_tons Ho_worth Ho_apartBits Ho_loads Ho_room Ho_bestBits Ho_bestTons Ho_bestWorth)) [0, 1, 2, 3] (by decide) rfl) hN 1 0 rfl rfl) rfl rfl hl.1 rfl (lv_room (Nat.le_of_ble_eq_true rfl)) dX1_setApart_10 ⟨Nat.zero_le _, Nat.zero_le _⟩) (fun r u H locs hw hP hD hS => ?_)
    have hw := hw.symm
    subst hw
    have hP : va_P D vwCl (wX1 cy qHo Ho_tons Ho_worth Ho_apartBits Ho_loads Ho_room Ho_bestBits Ho_bestTons Ho_bestWorth) H := hP
    have hD : va_D A (wX1 cy qHo Ho_tons Ho_worth Ho_apartBits Ho_loads Ho_room Ho_bestBits Ho_bestTons Ho_bestWorth) := hD
    refine lv_if_ne (tgt := 19) hx hb dX1_setApart_13 (by decide) (fun hc4 => ?_) (fun hc4 => ?_)
    · have hf := iff_ hf hc4
      refine lv_iload_n hx hb dX1_setApart_19 rfl (lv_at hl 1 rfl) ?_
      refine lv_iload_n hx hb dX1_setApart_20 rfl (lv_at hl 2 rfl) ?_
      refine lv_icmp_ne (tgt := 27) hx hb dX1_setApart_21 (by decide) (fun hc5 => ?_) (fun hc5 => ?_)
      · have hf := iff_ hf hc5
        refine lv_aload_n hx hb dX1_setApart_27 rfl (lv_at hl 0 rfl) ?_
        refine lv_iload_n hx hb dX1_setApart_28 rfl (lv_at hl 1 rfl) ?_
        refine lv_iload_n hx hb dX1_setApart_29 rfl (lv_at hl 2 rfl) ?_
        refine lv_iload_n hx hb dX1_setApart_30 rfl (lv_at hl 3 rfl) ?_
        obtain ⟨u6, eu6, hf⟩ := Option.bind_eq_some_iff.mp hf
        refine cq_v (wc' := fun (u : (Nat → Int32)) => (wX1 cy qHo Ho_tons Ho_worth u Ho_loads Ho_room Ho_bestBits Ho_bestTons Ho_bestWorth)) (ws' := fun (u : (Nat → Int32)) => (wX1 cy qHo Ho_tons Ho_worth u Ho_loads Ho_room Ho_bestBits Ho_bestTons Ho_bestWorth)) (wc := (wX1 cy qHo Ho_tons Ho_worth Ho_apartBits Ho_loads Ho_room Ho_bestBits Ho_bestTons Ho_bestWorth)) (wr := ([] : va_W)) C0 hP hD hS [0, 1, 2, 3] [] [0, 1, 2, 3] rfl rfl (by decide) (by decide) (by decide) (fun _ => rfl) (va_runV (As := [.int x1, .int x2, .int x3]) (rest := []) ⟨hx, hb, hml, hown, hts⟩ (c_X1_markApart l D cy qHo Ho_tons Ho_worth Ho_apartBits Ho_loads Ho_room Ho_bestBits Ho_bestTons Ho_bestWorth H.size x1 x2 x3 u6 eu6) (cwV 3 hts gX1_setApart_X1_markApart rfl rfl rfl (by decide +kernel) ⟨Nat.le_of_ble_eq_true rfl, Nat.le_of_ble_eq_true rfl⟩) (pre_V (hP.sub (ws' := (wX1 cy qHo Ho_tons Ho_worth Ho_apartBits Ho_loads Ho_room Ho_bestBits Ho_bestTons Ho_bestWorth)) [0, 1, 2, 3] rfl) hK (hD.sub (ws' := (wX1 cy qHo Ho_tons Ho_worth Ho_apartBits Ho_loads Ho_room Ho_bestBits Ho_bestTons Ho_bestWorth)) [0, 1, 2, 3] (by decide) rfl) hN 1 0 rfl rfl) rfl rfl hl.1 rfl (lv_room (Nat.le_of_ble_eq_true rfl)) dX1_setApart_31 ⟨Nat.zero_le _, Nat.zero_le _⟩) (fun u H locs hw hP hD hS => ?_)
        have hw := hw.symm
        subst hw
        have hP : va_P D vwCl (wX1 cy qHo Ho_tons Ho_worth u6 Ho_loads Ho_room Ho_bestBits Ho_bestTons Ho_bestWorth) H := hP
        have hD : va_D A (wX1 cy qHo Ho_tons Ho_worth u6 Ho_loads Ho_room Ho_bestBits Ho_bestTons Ho_bestWorth) := hD
        refine lv_aload_n hx hb dX1_setApart_34 rfl (lv_at hl 0 rfl) ?_
        refine lv_iload_n hx hb dX1_setApart_35 rfl (lv_at hl 2 rfl) ?_
        refine lv_iload_n hx hb dX1_setApart_36 rfl (lv_at hl 1 rfl) ?_
        refine lv_iload_n hx hb dX1_setApart_37 rfl (lv_at hl 3 rfl) ?_
        obtain ⟨u7, eu7, hf⟩ := Option.bind_eq_some_iff.mp hf
        refine cq_v (wc' := fun (u : (Nat → Int32)) => (wX1 cy qHo Ho_tons Ho_worth u Ho_loads Ho_room Ho_bestBits Ho_bestTons Ho_bestWorth)) (ws' := fun (u : (Nat → Int32)) => (wX1 cy qHo Ho_tons Ho_worth u Ho_loads Ho_room Ho_bestBits Ho_bestTons Ho_bestWorth)) (wc := (wX1 cy qHo Ho_tons Ho_worth u6 Ho_loads Ho_room Ho_bestBits Ho_bestTons Ho_bestWorth)) (wr := ([] : va_W)) C0 hP hD hS [0, 1, 2, 3] [] [0, 1, 2, 3] rfl rfl (by decide) (by decide) (by decide) (fun _ => rfl) (va_runV (As := [.int x2, .int x1, .int x3]) (rest := []) ⟨hx, hb, hml, hown, hts⟩ (c_X1_markApart l D cy qHo Ho_tons Ho_worth u6 Ho_loads Ho_room Ho_bestBits Ho_bestTons Ho_bestWorth H.size x2 x1 x3 u7 eu7) (cwV 3 hts gX1_setApart_X1_markApart rfl rfl rfl (by decide +kernel) ⟨Nat.le_of_ble_eq_true rfl, Nat.le_of_ble_eq_true rfl⟩) (pre_V (hP.sub (ws' := (wX1 cy qHo Ho_tons Ho_worth u6 Ho_loads Ho_room Ho_bestBits Ho_bestTons Ho_bestWorth)) [0, 1, 2, 3] rfl) hK (hD.sub (ws' := (wX1 cy qHo Ho_tons Ho_worth u6 Ho_loads Ho_room Ho_bestBits Ho_bestTons Ho_bestWorth)) [0, 1, 2, 3] (by decide) rfl) hN 1 0 rfl rfl) rfl rfl hl.1 rfl (lv_room (Nat.le_of_ble_eq_true rfl)) dX1_setApart_38 ⟨Nat.zero_le _, Nat.zero_le _⟩) (fun u H locs hw hP hD hS => ?_)
        have hw := hw.symm
        subst hw
        have hP : va_P D vwCl (wX1 cy qHo Ho_tons Ho_worth u7 Ho_loads Ho_room Ho_bestBits Ho_bestTons Ho_bestWorth) H := hP
        have hD : va_D A (wX1 cy qHo Ho_tons Ho_worth u7 Ho_loads Ho_room Ho_bestBits Ho_bestTons Ho_bestWorth) := hD
        refine lv_iconst (v := (0 : Int32)) hx hb dX1_setApart_41 (by decide) ?_
        exact rq_i C0 u7 (pr_2 hf) hP hD hS dX1_setApart_42
      · have hf := ift hf hc5
        refine lv_bipush (v := (-3 : Int32)) hx hb dX1_setApart_24 (by decide) ?_
        exact rq_i C0 Ho_apartBits (pr_2 hf) hP hD hS dX1_setApart_26
    · have hf := ift hf hc4
      refine lv_bipush (v := (-2 : Int32)) hx hb dX1_setApart_16 (by decide) ?_
      exact rq_i C0 Ho_apartBits (pr_2 hf) hP hD hS dX1_setApart_18

theorem i_X1_keepIfBetter_X1 : ∀ w ∈ wsX10, w ∈ wsX1_keepIfBetter := by decide +kernel
theorem m_X1_keepIfBetter_f40 : Cond.fieldLink RX1 40 "SailCargo$Hold" "bestBits" "I" ∈ wsX1_keepIfBetter := by decide +kernel
theorem m_X1_keepIfBetter_f43 : Cond.fieldLink RX1 43 "SailCargo$Hold" "bestTons" "I" ∈ wsX1_keepIfBetter := by decide +kernel
theorem m_X1_keepIfBetter_f46 : Cond.fieldLink RX1 46 "SailCargo$Hold" "bestWorth" "I" ∈ wsX1_keepIfBetter := by decide +kernel
set_option maxHeartbeats 4000000 in
set_option maxRecDepth 100000 in
theorem w_X1_keepIfBetter_24 {p : Program} {l : Launch} {e : Env} {s : State} {m : MethodId} {args : Array Value} {below : List Frame} {meth : Method} {c : Code} {A : Nat → Prop} {D : va_G} {cy : Nat → ClassId} {qHo : Nat → Nat} {Ho_tons Ho_worth Ho_apartBits : Nat → Int32} {Ho_loads Ho_room : Int32} {X : (Int32) × (Int32) × (Int32)}  (C0 : CX cX1_keepIfBetter 4 none RX1 wsX1_keepIfBetter D cy p s m args meth c A)  (Ho_bestBits : Int32) (Ho_bestTons : Int32) (Ho_bestWorth : Int32) (x1 : Int32) (x2 : Int32) (x3 : Int32) (hf : f_X1_keepIfBetter_24  Ho_bestBits Ho_bestTons Ho_bestWorth x1 x2 x3 = some X) : ∀ (H : Heap) (locs : List Loc) (ls : Array Slot), va_P D vwCl (wX1 cy qHo Ho_tons Ho_worth Ho_apartBits Ho_loads Ho_room Ho_bestBits Ho_bestTons Ho_bestWorth) H → va_D A (wX1 cy qHo Ho_tons Ho_worth Ho_apartBits Ho_loads Ho_room Ho_bestBits Ho_bestTons Ho_bestWorth) → va_S A s.heap H locs → lv_has ls 4 [(0, .ref (qHo 0)), (1, .int x1), (2, .int x2), (3, .int x3)] → W p l e ({ frames := 0, cells := 0, slots := 0, locals := 0 } : Room) s m args below meth c H locs 0 0 (MQ below (va_Qv (fun (u : (Int32) × (Int32) × (Int32)) => u = X) (fun u t => BW D cy A (wX1 cy qHo Ho_tons Ho_worth Ho_apartBits Ho_loads Ho_room u.1 u.2.1 u.2.2) t) A) args s 0 0 A) (F0 m 24 ls []) := by
  obtain ⟨hx, hb, hr, hml, hown, hts, hK, hA, hN, hlocks⟩ := id C0
  intro H locs ls hP hD hS hl
  unfold f_X1_keepIfBetter_24 at hf
  refine lv_aload_n hx hb dX1_keepIfBetter_24 rfl (lv_at hl 0 rfl) ?_
  refine lv_iload_n hx hb dX1_keepIfBetter_25 rfl (lv_at hl 1 rfl) ?_
  refine va_put (D := D) (ci := 1) (v := .int x1) (ty := .int) (C := RX1) (T := TX1) (N := 8) hx hb hts i_X1_keepIfBetter_X1 tyX1 tyX1_ok nmX1 hown hK hP hD hS 0 rfl rfl 5 (by decide) (hts _ m_X1_keepIfBetter_f40) (fun _ h9 => h9) rfl (by decide +kernel) rfl rfl (Nat.le_of_ble_eq_true rfl) dX1_keepIfBetter_26 (fun H locs hP hD hS => ?_)
  have hP : va_P D vwCl (wX1 cy qHo Ho_tons Ho_worth Ho_apartBits Ho_loads Ho_room x1 Ho_bestTons Ho_bestWorth) H := hP
  have hD : va_D A (wX1 cy qHo Ho_tons Ho_worth Ho_apartBits Ho_loads Ho_room x1 Ho_bestTons Ho_bestWorth) := hD
  refine lv_aload_n hx hb dX1_keepIfBetter_29 rfl (lv_at hl 0 rfl) ?_
  refine lv_iload_n hx hb dX1_keepIfBetter_30 rfl (lv_at hl 2 rfl) ?_
  refine va_put (D := D) (ci := 1) (v := .int x2) (ty := .int) (C := RX1) (T := TX1) (N := 8) hx hb hts i_X1_keepIfBetter_X1 tyX1 tyX1_ok nmX1 hown hK hP hD hS 0 rfl rfl 6 (by decide) (hts _ m_X1_keepIfBetter_f43) (fun _ h9 => h9) rfl (by decide +kernel) rfl rfl (Nat.le_of_ble_eq_true rfl) dX1_keepIfBetter_31 (fun H locs hP hD hS => ?_)
  have hP : va_P D vwCl (wX1 cy qHo Ho_tons Ho_worth Ho_apartBits Ho_loads Ho_room x1 x2 Ho_bestWorth) H := hP
  have hD : va_D A (wX1 cy qHo Ho_tons Ho_worth Ho_apartBits Ho_loads Ho_room x1 x2 Ho_bestWorth) := hD
  refine lv_aload_n hx hb dX1_keepIfBetter_34 rfl (lv_at hl 0 rfl) ?_
  refine lv_iload_n hx hb dX1_keepIfBetter_35 rfl (lv_at hl 3 rfl) ?_
  refine va_put (D := D) (ci := 1) (v := .int x3) (ty := .int) (C := RX1) (T := TX1) (N := 8) hx hb hts i_X1_keepIfBetter_X1 tyX1 tyX1_ok nmX1 hown hK hP hD hS 0 rfl rfl 7 (by decide) (hts _ m_X1_keepIfBetter_f46) (fun _ h9 => h9) rfl (by decide +kernel) rfl rfl (Nat.le_of_ble_eq_true rfl) dX1_keepIfBetter_36 (fun H locs hP hD hS => ?_)
  have hP : va_P D vwCl (wX1 cy qHo Ho_tons Ho_worth Ho_apartBits Ho_loads Ho_room x1 x2 x3) H := hP
  have hD : va_D A (wX1 cy qHo Ho_tons Ho_worth Ho_apartBits Ho_loads Ho_room x1 x2 x3) := hD
  exact rq_v C0 (x1, x2, x3) (Option.some.inj hf) hP hD hS dX1_keepIfBetter_39

set_option maxHeartbeats 4000000 in
set_option maxRecDepth 100000 in
theorem c_X1_keepIfBetter (l : Launch) (D : va_G) (cy : Nat → ClassId) (qHo : Nat → Nat) (Ho_tons : Nat → Int32) (Ho_worth : Nat → Int32) (Ho_apartBits : Nat → Int32) (Ho_loads : Int32) (Ho_room : Int32) (Ho_bestBits : Int32) (Ho_bestTons : Int32) (Ho_bestWorth : Int32) (sz : Nat) (x1 : Int32) (x2 : Int32) (x3 : Int32) (X : (Int32) × (Int32) × (Int32)) (hf : f_X1_keepIfBetter Ho_bestBits Ho_bestTons Ho_bestWorth x1 x2 x3 = some X) : Met l yX1_keepIfBetter wsX1_keepIfBetter ({ frames := 0, cells := 0, slots := 0, locals := 0 } : Room) (va_Pc [.ref (qHo 0), .int x1, .int x2, .int x3] (PW D cy (wX1 cy qHo Ho_tons Ho_worth Ho_apartBits Ho_loads Ho_room Ho_bestBits Ho_bestTons Ho_bestWorth) sz)) (va_Qv (fun (u : (Int32) × (Int32) × (Int32)) => u = X) (fun u t => BW D cy (va_A (wX1 cy qHo Ho_tons Ho_worth Ho_apartBits Ho_loads Ho_room Ho_bestBits Ho_bestTons Ho_bestWorth) sz) (wX1 cy qHo Ho_tons Ho_worth Ho_apartBits Ho_loads Ho_room u.1 u.2.1 u.2.2) t) (va_A (wX1 cy qHo Ho_tons Ho_worth Ho_apartBits Ho_loads Ho_room Ho_bestBits Ho_bestTons Ho_bestWorth) sz)) 0 0 (va_A (wX1 cy qHo Ho_tons Ho_worth Ho_apartBits Ho_loads Ho_room Ho_bestBits Ho_bestTons Ho_bestWorth) sz) := by
  refine met_enter (Qc := fun A => (va_Qv (fun (u : (Int32) × (Int32) × (Int32)) => u = X) (fun u t => BW D cy A (wX1 cy qHo Ho_tons Ho_worth Ho_apartBits Ho_loads Ho_room u.1 u.2.1 u.2.2) t) A)) (lv0 := [(0, .ref (qHo 0)), (1, .int x1), (2, .int x2), (3, .int x3)]) (by decide) rfl (Nat.le_of_ble_eq_true rfl) rfl ?_
  intro p e s m below meth c A ls hnm C0 hP hD hS hl
  generalize hH : s.heap = H at hP ⊢
  generalize hLoc : ([] : List Loc) = locs at hS ⊢
  have hS : va_S A s.heap H locs := by rw [← hH]; exact hS
  have C0 : CX cX1_keepIfBetter 4 none RX1 wsX1_keepIfBetter D cy p s m _ meth c A := C0
  obtain ⟨hx, hb, hr, hml, hown, hts, hK, hA, hN, hlocks⟩ := id C0
  unfold f_X1_keepIfBetter at hf
  refine lv_iload_n hx hb dX1_keepIfBetter_0 rfl (lv_at hl 3 rfl) ?_
  refine lv_aload_n hx hb dX1_keepIfBetter_1 rfl (lv_at hl 0 rfl) ?_
  refine va_get (D := D) (ci := 1) (v := .int Ho_bestWorth) (C := RX1) (T := TX1) (N := 8) hx hb hts i_X1_keepIfBetter_X1 hown hK hP 0 rfl rfl 7 (by decide) (hts _ m_X1_keepIfBetter_f46) (fun _ h9 => h9) rfl dX1_keepIfBetter_2 ?_
  refine lv_icmp_gt (tgt := 24) hx hb dX1_keepIfBetter_5 (by decide) (fun hc1 => ?_) (fun hc1 => ?_)
  · have hf := ift hf hc1
    exact w_X1_keepIfBetter_24 C0  Ho_bestBits Ho_bestTons Ho_bestWorth x1 x2 x3 hf H locs ls hP hD hS (lv_sub hl [0, 1, 2, 3] rfl)
  · have hf := iff_ hf hc1
    refine lv_iload_n hx hb dX1_keepIfBetter_8 rfl (lv_at hl 3 rfl) ?_
    refine lv_aload_n hx hb dX1_keepIfBetter_9 rfl (lv_at hl 0 rfl) ?_
    refine va_get (D := D) (ci := 1) (v := .int Ho_bestWorth) (C := RX1) (T := TX1) (N := 8) hx hb hts i_X1_keepIfBetter_X1 hown hK hP 0 rfl rfl 7 (by decide) (hts _ m_X1_keepIfBetter_f46) (fun _ h9 => h9) rfl dX1_keepIfBetter_10 ?_
    refine lv_icmp_ne (tgt := 39) hx hb dX1_keepIfBetter_13 (by decide) (fun hc2 => ?_) (fun hc2 => ?_)
    · have hf := iff_ hf hc2
      exact rq_v C0 (Ho_bestBits, Ho_bestTons, Ho_bestWorth) (Option.some.inj hf) hP hD hS dX1_keepIfBetter_39
    · have hf := ift hf hc2
      refine lv_iload_n hx hb dX1_keepIfBetter_16 rfl (lv_at hl 2 rfl) ?_
      refine lv_aload_n hx hb dX1_keepIfBetter_17 rfl (lv_at hl 0 rfl) ?_
      refine va_get (D := D) (ci := 1) (v := .int Ho_bestTons) (C := RX1) (T := TX1) (N := 8) hx hb hts i_X1_keepIfBetter_X1 hown hK hP 0 rfl rfl 6 (by decide) (hts _ m_X1_keepIfBetter_f43) (fun _ h9 => h9) rfl dX1_keepIfBetter_18 ?_
      refine lv_icmp_ge (tgt := 39) hx hb dX1_keepIfBetter_21 (by decide) (fun hc3 => ?_) (fun hc3 => ?_)
      · have hf := ift hf hc3
        exact rq_v C0 (Ho_bestBits, Ho_bestTons, Ho_bestWorth) (Option.some.inj hf) hP hD hS dX1_keepIfBetter_39
      · have hf := iff_ hf hc3
        exact w_X1_keepIfBetter_24 C0  Ho_bestBits Ho_bestTons Ho_bestWorth x1 x2 x3 hf H locs ls hP hD hS (lv_sub hl [0, 1, 2, 3] rfl)

theorem i_X1_choose_X1 : ∀ w ∈ wsX10, w ∈ wsX1_choose := by decide +kernel
theorem m_X1_choose_f9 : Cond.fieldLink RX1 9 "SailCargo$Hold" "tons" "[I" ∈ wsX1_choose := by decide +kernel
theorem m_X1_choose_f37 : Cond.fieldLink RX1 37 "SailCargo$Hold" "room" "I" ∈ wsX1_choose := by decide +kernel
theorem m_X1_choose_f18 : Cond.fieldLink RX1 18 "SailCargo$Hold" "apartBits" "[I" ∈ wsX1_choose := by decide +kernel
theorem m_X1_choose_f15 : Cond.fieldLink RX1 15 "SailCargo$Hold" "worth" "[I" ∈ wsX1_choose := by decide +kernel
set_option maxHeartbeats 4000000 in
set_option maxRecDepth 100000 in
theorem cr_X1_choose (l : Launch) (D : va_G) (cy : Nat → ClassId) (qHo : Nat → Nat) (Ho_tons Ho_worth Ho_apartBits : Nat → Int32) (Ho_loads Ho_room : Int32) : ∀ (nn : Nat) (Ho_bestBits : Int32) (Ho_bestTons : Int32) (Ho_bestWorth : Int32) (sz : Nat) (x1 : Int32) (x2 : Int32) (x3 : Int32) (x4 : Int32) (X : (Int32) × (Int32) × (Int32)) (hf : r_X1_choose Ho_tons Ho_worth Ho_apartBits Ho_room nn Ho_bestBits Ho_bestTons Ho_bestWorth x1 x2 x3 x4 = some X), Met l yX1_choose wsX1_choose ({ frames := nn + 1, cells := 0, slots := 0, locals := nn * 24 + 23 } : Room) (va_Pc [.ref (qHo 0), .int x1, .int x2, .int x3, .int x4] (PW D cy (wX1 cy qHo Ho_tons Ho_worth Ho_apartBits Ho_loads Ho_room Ho_bestBits Ho_bestTons Ho_bestWorth) sz)) (va_Qv (fun (u : (Int32) × (Int32) × (Int32)) => u = X) (fun u t => BW D cy (va_A (wX1 cy qHo Ho_tons Ho_worth Ho_apartBits Ho_loads Ho_room Ho_bestBits Ho_bestTons Ho_bestWorth) sz) (wX1 cy qHo Ho_tons Ho_worth Ho_apartBits Ho_loads Ho_room u.1 u.2.1 u.2.2) t) (va_A (wX1 cy qHo Ho_tons Ho_worth Ho_apartBits Ho_loads Ho_room Ho_bestBits Ho_bestTons Ho_bestWorth) sz)) 0 0 (va_A (wX1 cy qHo Ho_tons Ho_worth Ho_apartBits Ho_loads Ho_room Ho_bestBits Ho_bestTons Ho_bestWorth) sz) := by
  intro nn
  induction nn with
  | zero => intro Ho_bestBits Ho_bestTons Ho_bestWorth sz x1 x2 x3 x4 X hf; exact (no_some hf).elim
  | succ nn hrec =>
    intro Ho_bestBits Ho_bestTons Ho_bestWorth sz x1 x2 x3 x4 X hf
    have hf : h_X1_choose Ho_tons Ho_worth Ho_apartBits Ho_room (fun Ho_bestBits Ho_bestTons Ho_bestWorth x1 x2 x3 x4 => r_X1_choose Ho_tons Ho_worth Ho_apartBits Ho_room nn Ho_bestBits Ho_bestTons Ho_bestWorth x1 x2 x3 x4) Ho_bestBits Ho_bestTons Ho_bestWorth x1 x2 x3 x4 = some X := hf
    refine met_enter (Qc := fun A => (va_Qv (fun (u : (Int32) × (Int32) × (Int32)) => u = X) (fun u t => BW D cy A (wX1 cy qHo Ho_tons Ho_worth Ho_apartBits Ho_loads Ho_room u.1 u.2.1 u.2.2) t) A)) (lv0 := [(0, .ref (qHo 0)), (1, .int x1), (2, .int x2), (3, .int x3), (4, .int x4)]) (by decide) rfl (Nat.le_of_ble_eq_true rfl) rfl ?_
    intro p e s m below meth c A ls hnm C0 hP hD hS hl
    generalize hH : s.heap = H at hP ⊢
    generalize hLoc : ([] : List Loc) = locs at hS ⊢
    have hS : va_S A s.heap H locs := by rw [← hH]; exact hS
    have C0 : CX cX1_choose 5 none RX1 wsX1_choose D cy p s m _ meth c A := C0
    obtain ⟨hx, hb, hr, hml, hown, hts, hK, hA, hN, hlocks⟩ := id C0
    unfold h_X1_choose at hf
    refine lv_iload_n hx hb dX1_choose_0 rfl (lv_at hl 1 rfl) ?_
    refine lv_if_ge (tgt := 13) hx hb dX1_choose_1 (by decide) (fun hc1 => ?_) (fun hc1 => ?_)
    · have hf := ift hf hc1
      refine lv_aload_n hx hb dX1_choose_13 rfl (lv_at hl 0 rfl) ?_
      refine lv_iload_n hx hb dX1_choose_14 rfl (lv_at hl 1 rfl) ?_
      refine lv_iconst (v := (1 : Int32)) hx hb dX1_choose_15 (by decide) ?_
      refine lv_isub hx hb dX1_choose_16 ?_
      refine lv_iload_n hx hb dX1_choose_17 rfl (lv_at hl 2 rfl) ?_
      refine lv_iload_n hx hb dX1_choose_18 rfl (lv_at hl 3 rfl) ?_
      refine lv_iload hx hb dX1_choose_19 (lv_at hl 4 rfl) ?_
      obtain ⟨u2, eu2, hf⟩ := Option.bind_eq_some_iff.mp hf
      refine cq_v (wc' := fun (u : (Int32) × (Int32) × (Int32)) => (wX1 cy qHo Ho_tons Ho_worth Ho_apartBits Ho_loads Ho_room u.1 u.2.1 u.2.2)) (ws' := fun (u : (Int32) × (Int32) × (Int32)) => (wX1 cy qHo Ho_tons Ho_worth Ho_apartBits Ho_loads Ho_room u.1 u.2.1 u.2.2)) (wc := (wX1 cy qHo Ho_tons Ho_worth Ho_apartBits Ho_loads Ho_room Ho_bestBits Ho_bestTons Ho_bestWorth)) (wr := ([] : va_W)) C0 hP hD hS [0, 1, 2, 3] [] [0, 1, 2, 3] rfl rfl (by decide) (by decide) (by decide) (fun _ => rfl) (va_runV (As := [.int (x1 - (1 : Int32)), .int x2, .int x3, .int x4]) (rest := []) ⟨hx, hb, hml, hown, hts⟩ (hrec Ho_bestBits Ho_bestTons Ho_bestWorth H.size (x1 - (1 : Int32)) x2 x3 x4 u2 eu2) (cwV 4 hts gX1_choose_X1_choose rfl rfl rfl (by decide +kernel) ⟨by dsimp only; omega, by dsimp only; omega⟩) (pre_V (hP.sub (ws' := (wX1 cy qHo Ho_tons Ho_worth Ho_apartBits Ho_loads Ho_room Ho_bestBits Ho_bestTons Ho_bestWorth)) [0, 1, 2, 3] rfl) hK (hD.sub (ws' := (wX1 cy qHo Ho_tons Ho_worth Ho_apartBits Ho_loads Ho_room Ho_bestBits Ho_bestTons Ho_bestWorth)) [0, 1, 2, 3] (by decide) rfl) hN 1 0 rfl rfl) rfl rfl hl.1 rfl (lv_room (Nat.le_of_ble_eq_true rfl)) dX1_choose_21 ⟨Nat.zero_le _, Nat.zero_le _⟩) (fun u H locs hw hP hD hS => ?_)
      have hw := hw.symm
      subst hw
      have hP : va_P D vwCl (wX1 cy qHo Ho_tons Ho_worth Ho_apartBits Ho_loads Ho_room u2.1 u2.2.1 u2.2.2) H := hP
      have hD : va_D A (wX1 cy qHo Ho_tons Ho_worth Ho_apartBits Ho_loads Ho_room u2.1 u2.2.1 u2.2.2) := hD
      refine lv_iload_n hx hb dX1_choose_24 rfl (lv_at hl 3 rfl) ?_
      refine lv_aload_n hx hb dX1_choose_25 rfl (lv_at hl 0 rfl) ?_
      refine va_get (D := D) (ci := 1) (v := .ref (qHo 1)) (C := RX1) (T := TX1) (N := 8) hx hb hts i_X1_choose_X1 hown hK hP 0 rfl rfl 0 (by decide) (hts _ m_X1_choose_f9) (fun _ h9 => h9) rfl dX1_choose_26 ?_
      refine lv_iload_n hx hb dX1_choose_29 rfl (lv_at hl 1 rfl) ?_
      obtain ⟨hz3, hf⟩ := ifn hf
      refine va_iald hx hb hK hP 1 0 rfl rfl (inb_in hz3) dX1_choose_30 ?_
      refine lv_iadd hx hb dX1_choose_31 ?_
      refine lv_aload_n hx hb dX1_choose_32 rfl (lv_at hl 0 rfl) ?_
      refine va_get (D := D) (ci := 1) (v := .int Ho_room) (C := RX1) (T := TX1) (N := 8) hx hb hts i_X1_choose_X1 hown hK hP 0 rfl rfl 4 (by decide) (hts _ m_X1_choose_f37) (fun _ h9 => h9) rfl dX1_choose_33 ?_
      refine lv_icmp_gt (tgt := 79) hx hb dX1_choose_36 (by decide) (fun hc4 => ?_) (fun hc4 => ?_)
      · have hf := ift hf hc4
        exact rq_v C0 (u2.1, u2.2.1, u2.2.2) (Option.some.inj hf) hP hD hS dX1_choose_79
      · have hf := iff_ hf hc4
        refine lv_aload_n hx hb dX1_choose_39 rfl (lv_at hl 0 rfl) ?_
        refine va_get (D := D) (ci := 1) (v := .ref (qHo 3)) (C := RX1) (T := TX1) (N := 8) hx hb hts i_X1_choose_X1 hown hK hP 0 rfl rfl 2 (by decide) (hts _ m_X1_choose_f18) (fun _ h9 => h9) rfl dX1_choose_40 ?_
        refine lv_iload_n hx hb dX1_choose_43 rfl (lv_at hl 1 rfl) ?_
        refine va_iald hx hb hK hP 3 0 rfl rfl (inb_in hz3) dX1_choose_44 ?_
        refine lv_iload_n hx hb dX1_choose_45 rfl (lv_at hl 2 rfl) ?_
        refine lv_iand hx hb dX1_choose_46 ?_
        refine lv_if_ne (tgt := 79) hx hb dX1_choose_47 (by decide) (fun hc5 => ?_) (fun hc5 => ?_)
        · have hf := iff_ hf hc5
          exact rq_v C0 (u2.1, u2.2.1, u2.2.2) (Option.some.inj hf) hP hD hS dX1_choose_79
        · have hf := ift hf hc5
          refine lv_aload_n hx hb dX1_choose_50 rfl (lv_at hl 0 rfl) ?_
          refine lv_iload_n hx hb dX1_choose_51 rfl (lv_at hl 1 rfl) ?_
          refine lv_iconst (v := (1 : Int32)) hx hb dX1_choose_52 (by decide) ?_
          refine lv_isub hx hb dX1_choose_53 ?_
          refine lv_iload_n hx hb dX1_choose_54 rfl (lv_at hl 2 rfl) ?_
          refine lv_iconst (v := (1 : Int32)) hx hb dX1_choose_55 (by decide) ?_
          refine lv_iload_n hx hb dX1_choose_56 rfl (lv_at hl 1 rfl) ?_
          refine lv_ishl hx hb dX1_choose_57 ?_
          refine lv_ior hx hb dX1_choose_58 ?_
          refine lv_iload_n hx hb dX1_choose_59 rfl (lv_at hl 3 rfl) ?_
          refine lv_aload_n hx hb dX1_choose_60 rfl (lv_at hl 0 rfl) ?_
          refine va_get (D := D) (ci := 1) (v := .ref (qHo 1)) (C := RX1) (T := TX1) (N := 8) hx hb hts i_X1_choose_X1 hown hK hP 0 rfl rfl 0 (by decide) (hts _ m_X1_choose_f9) (fun _ h9 => h9) rfl dX1_choose_61 ?_
          refine lv_iload_n hx hb dX1_choose_64 rfl (lv_at hl 1 rfl) ?_
          refine va_iald hx hb hK hP 1 0 rfl rfl (inb_in hz3) dX1_choose_65 ?_
          refine lv_iadd hx hb dX1_choose_66 ?_
          refine lv_iload hx hb dX1_choose_67 (lv_at hl 4 rfl) ?_
          refine lv_aload_n hx hb dX1_choose_69 rfl (lv_at hl 0 rfl) ?_
          refine va_get (D := D) (ci := 1) (v := .ref (qHo 2)) (C := RX1) (T := TX1) (N := 8) hx hb hts i_X1_choose_X1 hown hK hP 0 rfl rfl 1 (by decide) (hts _ m_X1_choose_f15) (fun _ h9 => h9) rfl dX1_choose_70 ?_
          refine lv_iload_n hx hb dX1_choose_73 rfl (lv_at hl 1 rfl) ?_
          refine va_iald hx hb hK hP 2 0 rfl rfl (inb_in hz3) dX1_choose_74 ?_
          refine lv_iadd hx hb dX1_choose_75 ?_
          obtain ⟨u6, eu6, hf⟩ := Option.bind_eq_some_iff.mp hf
          refine cq_v (wc' := fun (u : (Int32) × (Int32) × (Int32)) => (wX1 cy qHo Ho_tons Ho_worth Ho_apartBits Ho_loads Ho_room u.1 u.2.1 u.2.2)) (ws' := fun (u : (Int32) × (Int32) × (Int32)) => (wX1 cy qHo Ho_tons Ho_worth Ho_apartBits Ho_loads Ho_room u.1 u.2.1 u.2.2)) (wc := (wX1 cy qHo Ho_tons Ho_worth Ho_apartBits Ho_loads Ho_room u2.1 u2.2.1 u2.2.2)) (wr := ([] : va_W)) C0 hP hD hS [0, 1, 2, 3] [] [0, 1, 2, 3] rfl rfl (by decide) (by decide) (by decide) (fun _ => rfl) (va_runV (As := [.int (x1 - (1 : Int32)), .int (x2 ||| ((1 : Int32) <<< (x1 &&& 31))), .int (x3 + (Ho_tons x1.toNatClampNeg)), .int (x4 + (Ho_worth x1.toNatClampNeg))]) (rest := []) ⟨hx, hb, hml, hown, hts⟩ (hrec u2.1 u2.2.1 u2.2.2 H.size (x1 - (1 : Int32)) (x2 ||| ((1 : Int32) <<< (x1 &&& 31))) (x3 + (Ho_tons x1.toNatClampNeg)) (x4 + (Ho_worth x1.toNatClampNeg)) u6 eu6) (cwV 4 hts gX1_choose_X1_choose rfl rfl rfl (by decide +kernel) ⟨by dsimp only; omega, by dsimp only; omega⟩) (pre_V (hP.sub (ws' := (wX1 cy qHo Ho_tons Ho_worth Ho_apartBits Ho_loads Ho_room u2.1 u2.2.1 u2.2.2)) [0, 1, 2, 3] rfl) hK (hD.sub (ws' := (wX1 cy qHo Ho_tons Ho_worth Ho_apartBits Ho_loads Ho_room u2.1 u2.2.1 u2.2.2)) [0, 1, 2, 3] (by decide) rfl) hN 1 0 rfl rfl) rfl rfl hl.1 rfl (lv_room (Nat.le_of_ble_eq_true rfl)) dX1_choose_76 ⟨Nat.zero_le _, Nat.zero_le _⟩) (fun u H locs hw hP hD hS => ?_)
          have hw := hw.symm
          subst hw
          have hP : va_P D vwCl (wX1 cy qHo Ho_tons Ho_worth Ho_apartBits Ho_loads Ho_room u6.1 u6.2.1 u6.2.2) H := hP
          have hD : va_D A (wX1 cy qHo Ho_tons Ho_worth Ho_apartBits Ho_loads Ho_room u6.1 u6.2.1 u6.2.2) := hD
          exact rq_v C0 (u6.1, u6.2.1, u6.2.2) (Option.some.inj hf) hP hD hS dX1_choose_79
    · have hf := iff_ hf hc1
      refine lv_aload_n hx hb dX1_choose_4 rfl (lv_at hl 0 rfl) ?_
      refine lv_iload_n hx hb dX1_choose_5 rfl (lv_at hl 2 rfl) ?_
      refine lv_iload_n hx hb dX1_choose_6 rfl (lv_at hl 3 rfl) ?_
      refine lv_iload hx hb dX1_choose_7 (lv_at hl 4 rfl) ?_
      obtain ⟨u7, eu7, hf⟩ := Option.bind_eq_some_iff.mp hf
      refine cq_v (wc' := fun (u : (Int32) × (Int32) × (Int32)) => (wX1 cy qHo Ho_tons Ho_worth Ho_apartBits Ho_loads Ho_room u.1 u.2.1 u.2.2)) (ws' := fun (u : (Int32) × (Int32) × (Int32)) => (wX1 cy qHo Ho_tons Ho_worth Ho_apartBits Ho_loads Ho_room u.1 u.2.1 u.2.2)) (wc := (wX1 cy qHo Ho_tons Ho_worth Ho_apartBits Ho_loads Ho_room Ho_bestBits Ho_bestTons Ho_bestWorth)) (wr := ([] : va_W)) C0 hP hD hS [0, 1, 2, 3] [] [0, 1, 2, 3] rfl rfl (by decide) (by decide) (by decide) (fun _ => rfl) (va_runV (As := [.int x2, .int x3, .int x4]) (rest := []) ⟨hx, hb, hml, hown, hts⟩ (c_X1_keepIfBetter l D cy qHo Ho_tons Ho_worth Ho_apartBits Ho_loads Ho_room Ho_bestBits Ho_bestTons Ho_bestWorth H.size x2 x3 x4 u7 eu7) (cwV 3 hts gX1_choose_X1_keepIfBetter rfl rfl rfl (by decide +kernel) ⟨by dsimp only; omega, by dsimp only; omega⟩) (pre_V (hP.sub (ws' := (wX1 cy qHo Ho_tons Ho_worth Ho_apartBits Ho_loads Ho_room Ho_bestBits Ho_bestTons Ho_bestWorth)) [0, 1, 2, 3] rfl) hK (hD.sub (ws' := (wX1 cy qHo Ho_tons Ho_worth Ho_apartBits Ho_loads Ho_room Ho_bestBits Ho_bestTons Ho_bestWorth)) [0, 1, 2, 3] (by decide) rfl) hN 1 0 rfl rfl) rfl rfl hl.1 rfl (lv_room (Nat.le_of_ble_eq_true rfl)) dX1_choose_9 ⟨Nat.zero_le _, Nat.zero_le _⟩) (fun u H locs hw hP hD hS => ?_)
      have hw := hw.symm
      subst hw
      have hP : va_P D vwCl (wX1 cy qHo Ho_tons Ho_worth Ho_apartBits Ho_loads Ho_room u7.1 u7.2.1 u7.2.2) H := hP
      have hD : va_D A (wX1 cy qHo Ho_tons Ho_worth Ho_apartBits Ho_loads Ho_room u7.1 u7.2.1 u7.2.2) := hD
      exact rq_v C0 (u7.1, u7.2.1, u7.2.2) (Option.some.inj hf) hP hD hS dX1_choose_12

theorem c_X1_choose (l : Launch) (nn : Nat) (D : va_G) (cy : Nat → ClassId) (qHo : Nat → Nat) (Ho_tons : Nat → Int32) (Ho_worth : Nat → Int32) (Ho_apartBits : Nat → Int32) (Ho_loads : Int32) (Ho_room : Int32) (Ho_bestBits : Int32) (Ho_bestTons : Int32) (Ho_bestWorth : Int32) (sz : Nat) (x1 : Int32) (x2 : Int32) (x3 : Int32) (x4 : Int32) (X : (Int32) × (Int32) × (Int32)) (hf : f_X1_choose nn Ho_tons Ho_worth Ho_apartBits Ho_room Ho_bestBits Ho_bestTons Ho_bestWorth x1 x2 x3 x4 = some X) : Met l yX1_choose wsX1_choose ({ frames := nn + 1, cells := 0, slots := 0, locals := nn * 24 + 23 } : Room) (va_Pc [.ref (qHo 0), .int x1, .int x2, .int x3, .int x4] (PW D cy (wX1 cy qHo Ho_tons Ho_worth Ho_apartBits Ho_loads Ho_room Ho_bestBits Ho_bestTons Ho_bestWorth) sz)) (va_Qv (fun (u : (Int32) × (Int32) × (Int32)) => u = X) (fun u t => BW D cy (va_A (wX1 cy qHo Ho_tons Ho_worth Ho_apartBits Ho_loads Ho_room Ho_bestBits Ho_bestTons Ho_bestWorth) sz) (wX1 cy qHo Ho_tons Ho_worth Ho_apartBits Ho_loads Ho_room u.1 u.2.1 u.2.2) t) (va_A (wX1 cy qHo Ho_tons Ho_worth Ho_apartBits Ho_loads Ho_room Ho_bestBits Ho_bestTons Ho_bestWorth) sz)) 0 0 (va_A (wX1 cy qHo Ho_tons Ho_worth Ho_apartBits Ho_loads Ho_room Ho_bestBits Ho_bestTons Ho_bestWorth) sz) := cr_X1_choose l D cy qHo Ho_tons Ho_worth Ho_apartBits Ho_loads Ho_room nn Ho_bestBits Ho_bestTons Ho_bestWorth sz x1 x2 x3 x4 X hf
theorem i_X1_fill_X1 : ∀ w ∈ wsX10, w ∈ wsX1_fill := by decide +kernel
theorem m_X1_fill_f37 : Cond.fieldLink RX1 37 "SailCargo$Hold" "room" "I" ∈ wsX1_fill := by decide +kernel
theorem m_X1_fill_f40 : Cond.fieldLink RX1 40 "SailCargo$Hold" "bestBits" "I" ∈ wsX1_fill := by decide +kernel
theorem m_X1_fill_f43 : Cond.fieldLink RX1 43 "SailCargo$Hold" "bestTons" "I" ∈ wsX1_fill := by decide +kernel
theorem m_X1_fill_f46 : Cond.fieldLink RX1 46 "SailCargo$Hold" "bestWorth" "I" ∈ wsX1_fill := by decide +kernel
theorem m_X1_fill_f21 : Cond.fieldLink RX1 21 "SailCargo$Hold" "loads" "I" ∈ wsX1_fill := by decide +kernel
set_option maxHeartbeats 4000000 in
set_option maxRecDepth 100000 in
theorem c_X1_fill (l : Launch) (D : va_G) (cy : Nat → ClassId) (qHo : Nat → Nat) (Ho_tons : Nat → Int32) (Ho_worth : Nat → Int32) (Ho_apartBits : Nat → Int32) (Ho_loads : Int32) (Ho_room : Int32) (Ho_bestBits : Int32) (Ho_bestTons : Int32) (Ho_bestWorth : Int32) (sz : Nat) (x1 : Int32) (X : (Int32) × (Int32) × (Int32) × (Int32)) (hf : f_X1_fill Ho_tons Ho_worth Ho_apartBits Ho_loads Ho_room Ho_bestBits Ho_bestTons Ho_bestWorth x1 = some X) : Met l yX1_fill wsX1_fill ({ frames := 16, cells := 0, slots := 0, locals := 383 } : Room) (va_Pc [.ref (qHo 0), .int x1] (PW D cy (wX1 cy qHo Ho_tons Ho_worth Ho_apartBits Ho_loads Ho_room Ho_bestBits Ho_bestTons Ho_bestWorth) sz)) (va_Qv (fun (u : (Int32) × (Int32) × (Int32) × (Int32)) => u = X) (fun u t => BW D cy (va_A (wX1 cy qHo Ho_tons Ho_worth Ho_apartBits Ho_loads Ho_room Ho_bestBits Ho_bestTons Ho_bestWorth) sz) (wX1 cy qHo Ho_tons Ho_worth Ho_apartBits Ho_loads u.1 u.2.1 u.2.2.1 u.2.2.2) t) (va_A (wX1 cy qHo Ho_tons Ho_worth Ho_apartBits Ho_loads Ho_room Ho_bestBits Ho_bestTons Ho_bestWorth) sz)) 0 0 (va_A (wX1 cy qHo Ho_tons Ho_worth Ho_apartBits Ho_loads Ho_room Ho_bestBits Ho_bestTons Ho_bestWorth) sz) := by
  refine met_enter (Qc := fun A => (va_Qv (fun (u : (Int32) × (Int32) × (Int32) × (Int32)) => u = X) (fun u t => BW D cy A (wX1 cy qHo Ho_tons Ho_worth Ho_apartBits Ho_loads u.1 u.2.1 u.2.2.1 u.2.2.2) t) A)) (lv0 := [(0, .ref (qHo 0)), (1, .int x1)]) (by decide) rfl (Nat.le_of_ble_eq_true rfl) rfl ?_
  intro p e s m below meth c A ls hnm C0 hP hD hS hl
  generalize hH : s.heap = H at hP ⊢
  generalize hLoc : ([] : List Loc) = locs at hS ⊢
  have hS : va_S A s.heap H locs := by rw [← hH]; exact hS
  have C0 : CX cX1_fill 2 none RX1 wsX1_fill D cy p s m _ meth c A := C0
  obtain ⟨hx, hb, hr, hml, hown, hts, hK, hA, hN, hlocks⟩ := id C0
  unfold f_X1_fill at hf
  refine lv_aload_n hx hb dX1_fill_0 rfl (lv_at hl 0 rfl) ?_
  refine lv_iload_n hx hb dX1_fill_1 rfl (lv_at hl 1 rfl) ?_
  refine va_put (D := D) (ci := 1) (v := .int x1) (ty := .int) (C := RX1) (T := TX1) (N := 8) hx hb hts i_X1_fill_X1 tyX1 tyX1_ok nmX1 hown hK hP hD hS 0 rfl rfl 4 (by decide) (hts _ m_X1_fill_f37) (fun _ h9 => h9) rfl (by decide +kernel) rfl rfl (Nat.le_of_ble_eq_true rfl) dX1_fill_2 (fun H locs hP hD hS => ?_)
  have hP : va_P D vwCl (wX1 cy qHo Ho_tons Ho_worth Ho_apartBits Ho_loads x1 Ho_bestBits Ho_bestTons Ho_bestWorth) H := hP
  have hD : va_D A (wX1 cy qHo Ho_tons Ho_worth Ho_apartBits Ho_loads x1 Ho_bestBits Ho_bestTons Ho_bestWorth) := hD
  refine lv_aload_n hx hb dX1_fill_5 rfl (lv_at hl 0 rfl) ?_
  refine lv_iconst (v := (0 : Int32)) hx hb dX1_fill_6 (by decide) ?_
  refine va_put (D := D) (ci := 1) (v := .int (0 : Int32)) (ty := .int) (C := RX1) (T := TX1) (N := 8) hx hb hts i_X1_fill_X1 tyX1 tyX1_ok nmX1 hown hK hP hD hS 0 rfl rfl 5 (by decide) (hts _ m_X1_fill_f40) (fun _ h9 => h9) rfl (by decide +kernel) rfl rfl (Nat.le_of_ble_eq_true rfl) dX1_fill_7 (fun H locs hP hD hS => ?_)
  have hP : va_P D vwCl (wX1 cy qHo Ho_tons Ho_worth Ho_apartBits Ho_loads x1 (0 : Int32) Ho_bestTons Ho_bestWorth) H := hP
  have hD : va_D A (wX1 cy qHo Ho_tons Ho_worth Ho_apartBits Ho_loads x1 (0 : Int32) Ho_bestTons Ho_bestWorth) := hD
  refine lv_aload_n hx hb dX1_fill_10 rfl (lv_at hl 0 rfl) ?_
  refine lv_iconst (v := (0 : Int32)) hx hb dX1_fill_11 (by decide) ?_
  refine va_put (D := D) (ci := 1) (v := .int (0 : Int32)) (ty := .int) (C := RX1) (T := TX1) (N := 8) hx hb hts i_X1_fill_X1 tyX1 tyX1_ok nmX1 hown hK hP hD hS 0 rfl rfl 6 (by decide) (hts _ m_X1_fill_f43) (fun _ h9 => h9) rfl (by decide +kernel) rfl rfl (Nat.le_of_ble_eq_true rfl) dX1_fill_12 (fun H locs hP hD hS => ?_)
  have hP : va_P D vwCl (wX1 cy qHo Ho_tons Ho_worth Ho_apartBits Ho_loads x1 (0 : Int32) (0 : Int32) Ho_bestWorth) H := hP
  have hD : va_D A (wX1 cy qHo Ho_tons Ho_worth Ho_apartBits Ho_loads x1 (0 : Int32) (0 : Int32) Ho_bestWorth) := hD
  refine lv_aload_n hx hb dX1_fill_15 rfl (lv_at hl 0 rfl) ?_
  refine lv_iconst (v := (0 : Int32)) hx hb dX1_fill_16 (by decide) ?_
  refine va_put (D := D) (ci := 1) (v := .int (0 : Int32)) (ty := .int) (C := RX1) (T := TX1) (N := 8) hx hb hts i_X1_fill_X1 tyX1 tyX1_ok nmX1 hown hK hP hD hS 0 rfl rfl 7 (by decide) (hts _ m_X1_fill_f46) (fun _ h9 => h9) rfl (by decide +kernel) rfl rfl (Nat.le_of_ble_eq_true rfl) dX1_fill_17 (fun H locs hP hD hS => ?_)
  have hP : va_P D vwCl (wX1 cy qHo Ho_tons Ho_worth Ho_apartBits Ho_loads x1 (0 : Int32) (0 : Int32) (0 : Int32)) H := hP
  have hD : va_D A (wX1 cy qHo Ho_tons Ho_worth Ho_apartBits Ho_loads x1 (0 : Int32) (0 : Int32) (0 : Int32)) := hD
  refine lv_aload_n hx hb dX1_fill_20 rfl (lv_at hl 0 rfl) ?_
  refine lv_aload_n hx hb dX1_fill_21 rfl (lv_at hl 0 rfl) ?_
  refine va_get (D := D) (ci := 1) (v := .int Ho_loads) (C := RX1) (T := TX1) (N := 8) hx hb hts i_X1_fill_X1 hown hK hP 0 rfl rfl 3 (by decide) (hts _ m_X1_fill_f21) (fun _ h9 => h9) rfl dX1_fill_22 ?_
  refine lv_iconst (v := (1 : Int32)) hx hb dX1_fill_25 (by decide) ?_
  refine lv_isub hx hb dX1_fill_26 ?_
  refine lv_iconst (v := (0 : Int32)) hx hb dX1_fill_27 (by decide) ?_
  refine lv_iconst (v := (0 : Int32)) hx hb dX1_fill_28 (by decide) ?_
  refine lv_iconst (v := (0 : Int32)) hx hb dX1_fill_29 (by decide) ?_
  obtain ⟨u1, eu1, hf⟩ := Option.bind_eq_some_iff.mp hf
  refine cq_v (wc' := fun (u : (Int32) × (Int32) × (Int32)) => (wX1 cy qHo Ho_tons Ho_worth Ho_apartBits Ho_loads x1 u.1 u.2.1 u.2.2)) (ws' := fun (u : (Int32) × (Int32) × (Int32)) => (wX1 cy qHo Ho_tons Ho_worth Ho_apartBits Ho_loads x1 u.1 u.2.1 u.2.2)) (wc := (wX1 cy qHo Ho_tons Ho_worth Ho_apartBits Ho_loads x1 (0 : Int32) (0 : Int32) (0 : Int32))) (wr := ([] : va_W)) C0 hP hD hS [0, 1, 2, 3] [] [0, 1, 2, 3] rfl rfl (by decide) (by decide) (by decide) (fun _ => rfl) (va_runV (As := [.int (Ho_loads - (1 : Int32)), .int (0 : Int32), .int (0 : Int32), .int (0 : Int32)]) (rest := []) ⟨hx, hb, hml, hown, hts⟩ (c_X1_choose l 14 D cy qHo Ho_tons Ho_worth Ho_apartBits Ho_loads x1 (0 : Int32) (0 : Int32) (0 : Int32) H.size (Ho_loads - (1 : Int32)) (0 : Int32) (0 : Int32) (0 : Int32) u1 eu1) (cwV 4 hts gX1_fill_X1_choose rfl rfl rfl (by decide +kernel) ⟨Nat.le_of_ble_eq_true rfl, Nat.le_of_ble_eq_true rfl⟩) (pre_V (hP.sub (ws' := (wX1 cy qHo Ho_tons Ho_worth Ho_apartBits Ho_loads x1 (0 : Int32) (0 : Int32) (0 : Int32))) [0, 1, 2, 3] rfl) hK (hD.sub (ws' := (wX1 cy qHo Ho_tons Ho_worth Ho_apartBits Ho_loads x1 (0 : Int32) (0 : Int32) (0 : Int32))) [0, 1, 2, 3] (by decide) rfl) hN 1 0 rfl rfl) rfl rfl hl.1 rfl (lv_room (Nat.le_of_ble_eq_true rfl)) dX1_fill_30 ⟨Nat.zero_le _, Nat.zero_le _⟩) (fun u H locs hw hP hD hS => ?_)
  have hw := hw.symm
  subst hw
  have hP : va_P D vwCl (wX1 cy qHo Ho_tons Ho_worth Ho_apartBits Ho_loads x1 u1.1 u1.2.1 u1.2.2) H := hP
  have hD : va_D A (wX1 cy qHo Ho_tons Ho_worth Ho_apartBits Ho_loads x1 u1.1 u1.2.1 u1.2.2) := hD
  exact rq_v C0 (x1, u1.1, u1.2.1, u1.2.2) (Option.some.inj hf) hP hD hS dX1_fill_33

