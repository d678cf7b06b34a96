theorem i_X6_has_X6 : ∀ w ∈ wsX60, w ∈ wsX6_has := by decide +kernel
theorem m_X6_has_f25 : Cond.fieldLink RX6 25 "SailCargo$Voyage" "legs" "I" ∈ wsX6_has := by decide +kernel
theorem m_X6_has_s_X8_isWithin : Cond.static yX8_isWithin ∈ wsX6_has := by decide +kernel
theorem m_X6_has_i_X8 : Cond.initialized RX8 ∈ wsX6_has := by decide +kernel
set_option maxHeartbeats 4000000 in
set_option maxRecDepth 100000 in
theorem c_X6_has (l : Launch) (D : va_G) (cy : Nat → ClassId) (qVo qHo : Nat → Nat) (Vo_legSmoke : Nat → Int32) (Vo_firstLeg : Nat → Int32) (Vo_lastLeg : Nat → Int32) (Vo_legs : Int32) (sz : Nat) (x1 : Int32) (X : Int32) (hf : f_X6_has Vo_legs x1 = some X) : Met l yX6_has wsX6_has ({ frames := 1, cells := 0, slots := 0, locals := 22 } : Room) (va_Pc [.ref (qVo 0), .int x1] (PW D cy (wX6 cy qVo (qHo 0) Vo_legSmoke Vo_firstLeg Vo_lastLeg Vo_legs) sz)) (va_Qi (fun (r : Int32) (_ : Unit) => r = X) (fun u t => BW D cy (va_A (wX6 cy qVo (qHo 0) Vo_legSmoke Vo_firstLeg Vo_lastLeg Vo_legs) sz) (wX6 cy qVo (qHo 0) Vo_legSmoke Vo_firstLeg Vo_lastLeg Vo_legs) t) (va_A (wX6 cy qVo (qHo 0) Vo_legSmoke Vo_firstLeg Vo_lastLeg Vo_legs) sz)) 0 0 (va_A (wX6 cy qVo (qHo 0) Vo_legSmoke Vo_firstLeg Vo_lastLeg Vo_legs) sz) := by
  refine met_enter (Qc := fun A => (va_Qi (fun (r : Int32) (_ : Unit) => r = X) (fun u t => BW D cy A (wX6 cy qVo (qHo 0) Vo_legSmoke Vo_firstLeg Vo_lastLeg Vo_legs) t) A)) (lv0 := [(0, .ref (qVo 0)), (1, .int x1)]) (by decide) rfl (Nat.le_of_ble_eq_true rfl) rfl ?_
  intro p e s m below meth c A ls hnm C0 hP hD hS hl
  generalize hH : s.heap = H at hP ⊢
  generalize hLoc : ([] : List Loc) = locs at hS ⊢
  have hS : va_S A s.heap H locs := by rw [← hH]; exact hS
  have C0 : CX cX6_has 2 (some .boolean) RX6 wsX6_has D cy p s m _ meth c A := C0
  obtain ⟨hx, hb, hr, hml, hown, hts, hK, hA, hN, hlocks⟩ := id C0
  unfold f_X6_has at hf
  refine lv_iload_n hx hb dX6_has_0 rfl (lv_at hl 1 rfl) ?_
  refine lv_iconst (v := (0 : Int32)) hx hb dX6_has_1 (by decide) ?_
  refine lv_aload_n hx hb dX6_has_2 rfl (lv_at hl 0 rfl) ?_
  refine va_get (D := D) (ci := 6) (v := .int Vo_legs) (C := RX6) (T := TX6) (N := 5) hx hb hts i_X6_has_X6 hown hK hP 0 rfl rfl 4 (by decide) (hts _ m_X6_has_f25) (fun _ h9 => h9) rfl dX6_has_3 ?_
  refine lv_iconst (v := (1 : Int32)) hx hb dX6_has_6 (by decide) ?_
  refine lv_isub hx hb dX6_has_7 ?_
  obtain ⟨u1, eu1, hf⟩ := Option.bind_eq_some_iff.mp hf
  refine cq_i (wc' := fun (u : Unit) => ([] : va_W)) (ws' := fun (u : Unit) => (wX6 cy qVo (qHo 0) Vo_legSmoke Vo_firstLeg Vo_lastLeg Vo_legs)) (wc := ([] : va_W)) (wr := (wX6 cy qVo (qHo 0) Vo_legSmoke Vo_firstLeg Vo_lastLeg Vo_legs)) C0 hP hD hS [] [0, 1, 2, 3] [0, 1, 2, 3] rfl rfl (by decide) (by decide) (by decide) (fun _ => rfl) (va_runSN (As := [.int x1, .int (0 : Int32), .int (Vo_legs - (1 : Int32))]) (rest := []) ⟨hx, hb, hml, hown, hts⟩ (c_X8_isWithin l D cy   H.size x1 (0 : Int32) (Vo_legs - (1 : Int32)) u1 eu1) ⟨va_cnB 3 hts gX6_has_X8_isWithin_n29 rfl rfl rfl (hN _ nw_X6_29) (hts _ m_X6_has_i_X8) (by decide +kernel) ⟨Nat.le_of_ble_eq_true rfl, Nat.le_of_ble_eq_true rfl⟩, hts _ m_X6_has_s_X8_isWithin, trivial⟩ (pre_S (hP.sub (ws' := ([] : va_W)) [] rfl) hK (hD.sub (ws' := ([] : va_W)) [] (by decide) rfl) hN) rfl rfl hl.1 rfl (lv_room (Nat.le_of_ble_eq_true rfl)) dX6_has_8 ⟨Nat.zero_le _, Nat.zero_le _⟩) (fun r u H locs hw hP hD hS => ?_)
  have hw := hw.symm
  subst hw
  have hP : va_P D vwCl (wX6 cy qVo (qHo 0) Vo_legSmoke Vo_firstLeg Vo_lastLeg Vo_legs) H := hP
  have hD : va_D A (wX6 cy qVo (qHo 0) Vo_legSmoke Vo_firstLeg Vo_lastLeg Vo_legs) := hD
  obtain ⟨hz2, hf⟩ := ifn hf
  exact rq_z C0 (isb_nar hz2) () (Option.some.inj hf) hP hD hS dX6_has_11

theorem m_X6_add_c33 : Cond.constant RX6 33 (100000) ∈ wsX6_add := by decide +kernel
theorem m_X6_add_s_X8_isWithin : Cond.static yX8_isWithin ∈ wsX6_add := by decide +kernel
theorem m_X6_add_i_X8 : Cond.initialized RX8 ∈ wsX6_add := by decide +kernel
theorem i_X6_add_X6 : ∀ w ∈ wsX60, w ∈ wsX6_add := by decide +kernel
theorem m_X6_add_f25 : Cond.fieldLink RX6 25 "SailCargo$Voyage" "legs" "I" ∈ wsX6_add := by decide +kernel
theorem m_X6_add_f11 : Cond.fieldLink RX6 11 "SailCargo$Voyage" "legSmoke" "[I" ∈ wsX6_add := by decide +kernel
set_option maxHeartbeats 4000000 in
set_option maxRecDepth 100000 in
theorem c_X6_add (l : Launch) (D : va_G) (cy : Nat → ClassId) (qVo qHo : Nat → Nat) (Vo_legSmoke : Nat → Int32) (Vo_firstLeg : Nat → Int32) (Vo_lastLeg : Nat → Int32) (Vo_legs : Int32) (sz : Nat) (x1 : Int32) (X : Int32 × (Nat → Int32) × (Int32)) (hf : f_X6_add Vo_legSmoke Vo_legs x1 = some X) : Met l yX6_add wsX6_add ({ frames := 1, cells := 0, slots := 0, locals := 22 } : Room) (va_Pc [.ref (qVo 0), .int x1] (PW D cy (wX6 cy qVo (qHo 0) Vo_legSmoke Vo_firstLeg Vo_lastLeg Vo_legs) sz)) (va_Qi (fun (r : Int32) (u : (Nat → Int32) × (Int32)) => r = X.1 ∧ u = X.2) (fun u t => BW D cy (va_A (wX6 cy qVo (qHo 0) Vo_legSmoke Vo_firstLeg Vo_lastLeg Vo_legs) sz) (wX6 cy qVo (qHo 0) u.1 Vo_firstLeg Vo_lastLeg u.2) t) (va_A (wX6 cy qVo (qHo 0) Vo_legSmoke Vo_firstLeg Vo_lastLeg Vo_legs) sz)) 0 0 (va_A (wX6 cy qVo (qHo 0) Vo_legSmoke Vo_firstLeg Vo_lastLeg Vo_legs) sz) := by
  refine met_enter (Qc := fun A => (va_Qi (fun (r : Int32) (u : (Nat → Int32) × (Int32)) => r = X.1 ∧ u = X.2) (fun u t => BW D cy A (wX6 cy qVo (qHo 0) u.1 Vo_firstLeg Vo_lastLeg u.2) t) A)) (lv0 := [(0, .ref (qVo 0)), (1, .int x1)]) (by decide) rfl (Nat.le_of_ble_eq_true rfl) rfl ?_
  intro p e s m below meth c A ls hnm C0 hP hD hS hl
  generalize hH : s.heap = H at hP ⊢
  generalize hLoc : ([] : List Loc) = locs at hS ⊢
  have hS : va_S A s.heap H locs := by rw [← hH]; exact hS
  have C0 : CX cX6_add 2 (some .int) RX6 wsX6_add D cy p s m _ meth c A := C0
  obtain ⟨hx, hb, hr, hml, hown, hts, hK, hA, hN, hlocks⟩ := id C0
  unfold f_X6_add at hf
  refine lv_iload_n hx hb dX6_add_0 rfl (lv_at hl 1 rfl) ?_
  refine lv_iconst (v := (0 : Int32)) hx hb dX6_add_1 (by decide) ?_
  refine lv_ldc (v := (100000 : Int32)) hx hb hown (hts _ m_X6_add_c33) dX6_add_2 ?_
  obtain ⟨u1, eu1, hf⟩ := Option.bind_eq_some_iff.mp hf
  refine cq_i (wc' := fun (u : Unit) => ([] : va_W)) (ws' := fun (u : Unit) => (wX6 cy qVo (qHo 0) Vo_legSmoke Vo_firstLeg Vo_lastLeg Vo_legs)) (wc := ([] : va_W)) (wr := (wX6 cy qVo (qHo 0) Vo_legSmoke Vo_firstLeg Vo_lastLeg Vo_legs)) C0 hP hD hS [] [0, 1, 2, 3] [0, 1, 2, 3] rfl rfl (by decide) (by decide) (by decide) (fun _ => rfl) (va_runSN (As := [.int x1, .int (0 : Int32), .int (100000 : Int32)]) (rest := []) ⟨hx, hb, hml, hown, hts⟩ (c_X8_isWithin l D cy   H.size x1 (0 : Int32) (100000 : Int32) u1 eu1) ⟨va_cnB 3 hts gX6_add_X8_isWithin_n29 rfl rfl rfl (hN _ nw_X6_29) (hts _ m_X6_add_i_X8) (by decide +kernel) ⟨Nat.le_of_ble_eq_true rfl, Nat.le_of_ble_eq_true rfl⟩, hts _ m_X6_add_s_X8_isWithin, trivial⟩ (pre_S (hP.sub (ws' := ([] : va_W)) [] rfl) hK (hD.sub (ws' := ([] : va_W)) [] (by decide) rfl) hN) rfl rfl hl.1 rfl (lv_room (Nat.le_of_ble_eq_true rfl)) dX6_add_4 ⟨Nat.zero_le _, Nat.zero_le _⟩) (fun r u H locs hw hP hD hS => ?_)
  have hw := hw.symm
  subst hw
  have hP : va_P D vwCl (wX6 cy qVo (qHo 0) Vo_legSmoke Vo_firstLeg Vo_lastLeg Vo_legs) H := hP
  have hD : va_D A (wX6 cy qVo (qHo 0) Vo_legSmoke Vo_firstLeg Vo_lastLeg Vo_legs) := hD
  refine lv_if_ne (tgt := 12) hx hb dX6_add_7 (by decide) (fun hc2 => ?_) (fun hc2 => ?_)
  · have hf := iff_ hf hc2
    refine lv_aload_n hx hb dX6_add_12 rfl (lv_at hl 0 rfl) ?_
    refine va_get (D := D) (ci := 6) (v := .int Vo_legs) (C := RX6) (T := TX6) (N := 5) hx hb hts i_X6_add_X6 hown hK hP 0 rfl rfl 4 (by decide) (hts _ m_X6_add_f25) (fun _ h9 => h9) rfl dX6_add_13 ?_
    refine lv_bipush (v := (10 : Int32)) hx hb dX6_add_16 (by decide) ?_
    refine lv_icmp_lt (tgt := 24) hx hb dX6_add_18 (by decide) (fun hc3 => ?_) (fun hc3 => ?_)
    · have hf := ift hf hc3
      refine lv_aload_n hx hb dX6_add_24 rfl (lv_at hl 0 rfl) ?_
      refine va_get (D := D) (ci := 6) (v := .ref (qVo 1)) (C := RX6) (T := TX6) (N := 5) hx hb hts i_X6_add_X6 hown hK hP 0 rfl rfl 1 (by decide) (hts _ m_X6_add_f11) (fun _ h9 => h9) rfl dX6_add_25 ?_
      refine lv_aload_n hx hb dX6_add_28 rfl (lv_at hl 0 rfl) ?_
      refine va_get (D := D) (ci := 6) (v := .int Vo_legs) (C := RX6) (T := TX6) (N := 5) hx hb hts i_X6_add_X6 hown hK hP 0 rfl rfl 4 (by decide) (hts _ m_X6_add_f25) (fun _ h9 => h9) rfl dX6_add_29 ?_
      refine lv_iload_n hx hb dX6_add_32 rfl (lv_at hl 1 rfl) ?_
      obtain ⟨hz4, hf⟩ := ifn hf
      refine va_iast hx hb hK hP hD hS 1 0 rfl rfl (inb_in hz4) dX6_add_33 (fun H locs hP hD hS => ?_)
      have hP : va_P D vwCl (wX6 cy qVo (qHo 0) (upd Vo_legSmoke Vo_legs.toNatClampNeg x1) Vo_firstLeg Vo_lastLeg Vo_legs) H := hP
      have hD : va_D A (wX6 cy qVo (qHo 0) (upd Vo_legSmoke Vo_legs.toNatClampNeg x1) Vo_firstLeg Vo_lastLeg Vo_legs) := hD
      refine lv_aload_n hx hb dX6_add_34 rfl (lv_at hl 0 rfl) ?_
      refine lv_dup hx hb dX6_add_35 rfl ?_
      refine va_get (D := D) (ci := 6) (v := .int Vo_legs) (C := RX6) (T := TX6) (N := 5) hx hb hts i_X6_add_X6 hown hK hP 0 rfl rfl 4 (by decide) (hts _ m_X6_add_f25) (fun _ h9 => h9) rfl dX6_add_36 ?_
      refine lv_iconst (v := (1 : Int32)) hx hb dX6_add_39 (by decide) ?_
      refine lv_iadd hx hb dX6_add_40 ?_
      refine va_put (D := D) (ci := 6) (v := .int (Vo_legs + (1 : Int32))) (ty := .int) (C := RX6) (T := TX6) (N := 5) hx hb hts i_X6_add_X6 tyX6 tyX6_ok nmX6 hown hK hP hD hS 0 rfl rfl 4 (by decide) (hts _ m_X6_add_f25) (fun _ h9 => h9) rfl (by decide +kernel) rfl rfl (Nat.le_of_ble_eq_true rfl) dX6_add_41 (fun H locs hP hD hS => ?_)
      have hP : va_P D vwCl (wX6 cy qVo (qHo 0) (upd Vo_legSmoke Vo_legs.toNatClampNeg x1) Vo_firstLeg Vo_lastLeg (Vo_legs + (1 : Int32))) H := hP
      have hD : va_D A (wX6 cy qVo (qHo 0) (upd Vo_legSmoke Vo_legs.toNatClampNeg x1) Vo_firstLeg Vo_lastLeg (Vo_legs + (1 : Int32))) := hD
      refine lv_aload_n hx hb dX6_add_44 rfl (lv_at hl 0 rfl) ?_
      refine va_get (D := D) (ci := 6) (v := .int (Vo_legs + (1 : Int32))) (C := RX6) (T := TX6) (N := 5) hx hb hts i_X6_add_X6 hown hK hP 0 rfl rfl 4 (by decide) (hts _ m_X6_add_f25) (fun _ h9 => h9) rfl dX6_add_45 ?_
      refine lv_iconst (v := (1 : Int32)) hx hb dX6_add_48 (by decide) ?_
      refine lv_isub hx hb dX6_add_49 ?_
      exact rq_i C0 ((upd Vo_legSmoke Vo_legs.toNatClampNeg x1), (Vo_legs + (1 : Int32))) (pr_2 hf) hP hD hS dX6_add_50
    · have hf := iff_ hf hc3
      refine lv_bipush (v := (-5 : Int32)) hx hb dX6_add_21 (by decide) ?_
      exact rq_i C0 (Vo_legSmoke, Vo_legs) (pr_2 hf) hP hD hS dX6_add_23
  · have hf := ift hf hc2
    refine lv_iconst (v := (-1 : Int32)) hx hb dX6_add_10 (by decide) ?_
    exact rq_i C0 (Vo_legSmoke, Vo_legs) (pr_2 hf) hP hD hS dX6_add_11

theorem i_X6_take_X6 : ∀ w ∈ wsX60, w ∈ wsX6_take := by decide +kernel
theorem m_X6_take_f21 : Cond.fieldLink RX6 21 "SailCargo$Voyage" "hold" "LSailCargo$Hold;" ∈ wsX6_take := by decide +kernel
theorem m_X6_take_f15 : Cond.fieldLink RX6 15 "SailCargo$Voyage" "firstLeg" "[I" ∈ wsX6_take := by decide +kernel
theorem m_X6_take_f18 : Cond.fieldLink RX6 18 "SailCargo$Voyage" "lastLeg" "[I" ∈ wsX6_take := by decide +kernel
set_option maxHeartbeats 4000000 in
set_option maxRecDepth 100000 in
theorem c_X6_take (l : Launch) (D : va_G) (cy : Nat → ClassId) (qHo qVo : Nat → Nat) (Ho_tons : Nat → Int32) (Ho_worth : Nat → Int32) (Ho_apartBits : Nat → Int32) (Ho_loads : Int32) (Ho_room : Int32) (Ho_bestBits : Int32) (Ho_bestTons : Int32) (Ho_bestWorth : Int32) (Vo_legSmoke : Nat → Int32) (Vo_firstLeg : Nat → Int32) (Vo_lastLeg : Nat → Int32) (Vo_legs : Int32) (sz : Nat) (x1 : Int32) (x2 : Int32) (x3 : Int32) (X : Int32 × (Nat → Int32) × (Nat → Int32)) (hf : f_X6_take Ho_loads Vo_firstLeg Vo_lastLeg Vo_legs x1 x2 x3 = some X) : Met l yX6_take wsX6_take ({ frames := 2, cells := 0, slots := 0, locals := 43 } : Room) (va_Pc [.ref (qVo 0), .int x1, .int x2, .int x3] (PW D cy (wX1 cy qHo Ho_tons Ho_worth Ho_apartBits Ho_loads Ho_room Ho_bestBits Ho_bestTons Ho_bestWorth ++ (wX6 cy qVo (qHo 0) Vo_legSmoke Vo_firstLeg Vo_lastLeg Vo_legs)) sz)) (va_Qi (fun (r : Int32) (u : (Nat → Int32) × (Nat → Int32)) => r = X.1 ∧ u = X.2) (fun u t => BW D cy (va_A (wX1 cy qHo Ho_tons Ho_worth Ho_apartBits Ho_loads Ho_room Ho_bestBits Ho_bestTons Ho_bestWorth ++ (wX6 cy qVo (qHo 0) Vo_legSmoke Vo_firstLeg Vo_lastLeg Vo_legs)) sz) (wX1 cy qHo Ho_tons Ho_worth Ho_apartBits Ho_loads Ho_room Ho_bestBits Ho_bestTons Ho_bestWorth ++ (wX6 cy qVo (qHo 0) Vo_legSmoke u.1 u.2 Vo_legs)) t) (va_A (wX1 cy qHo Ho_tons Ho_worth Ho_apartBits Ho_loads Ho_room Ho_bestBits Ho_bestTons Ho_bestWorth ++ (wX6 cy qVo (qHo 0) Vo_legSmoke Vo_firstLeg Vo_lastLeg Vo_legs)) sz)) 0 0 (va_A (wX1 cy qHo Ho_tons Ho_worth Ho_apartBits Ho_loads Ho_room Ho_bestBits Ho_bestTons Ho_bestWorth ++ (wX6 cy qVo (qHo 0) Vo_legSmoke Vo_firstLeg Vo_lastLeg Vo_legs)) sz) := by
  refine met_enter (Qc := fun A => (va_Qi (fun (r : Int32) (u : (Nat → Int32) × (Nat → Int32)) => r = X.1 ∧ u = X.2) (fun u t => BW D cy A (wX1 cy qHo Ho_tons Ho_worth Ho_apartBits Ho_loads Ho_room Ho_bestBits Ho_bestTons Ho_bestWorth ++ (wX6 cy qVo (qHo 0) Vo_legSmoke u.1 u.2 Vo_legs)) t) A)) (lv0 := [(0, .ref (qVo 0)), (1, .int x1), (2, .int x2), (3, .int x3)]) (by decide) rfl (Nat.le_of_ble_eq_true rfl) rfl ?_
  intro p e s m below meth c A ls hnm C0 hP hD hS hl
  generalize hH : s.heap = H at hP ⊢
  generalize hLoc : ([] : List Loc) = locs at hS ⊢
  have hS : va_S A s.heap H locs := by rw [← hH]; exact hS
  have C0 : CX cX6_take 4 (some .int) RX6 wsX6_take D cy p s m _ meth c A := C0
  obtain ⟨hx, hb, hr, hml, hown, hts, hK, hA, hN, hlocks⟩ := id C0
  unfold f_X6_take at hf
  refine lv_iload_n hx hb dX6_take_0 rfl (lv_at hl 3 rfl) ?_
  refine lv_iload_n hx hb dX6_take_1 rfl (lv_at hl 2 rfl) ?_
  refine lv_icmp_ge (tgt := 7) hx hb dX6_take_2 (by decide) (fun hc1 => ?_) (fun hc1 => ?_)
  · have hf := ift hf hc1
    refine lv_aload_n hx hb dX6_take_7 rfl (lv_at hl 0 rfl) ?_
    refine va_get (D := D) (ci := 6) (v := .ref (qHo 0)) (C := RX6) (T := TX6) (N := 5) hx hb hts i_X6_take_X6 hown hK hP 4 rfl rfl 0 (by decide) (hts _ m_X6_take_f21) (fun _ h9 => h9) rfl dX6_take_8 ?_
    refine lv_iload_n hx hb dX6_take_11 rfl (lv_at hl 1 rfl) ?_
    obtain ⟨u2, eu2, hf⟩ := Option.bind_eq_some_iff.mp hf
    refine cq_i (wc' := fun (u : Unit) => (wX1 cy qHo Ho_tons Ho_worth Ho_apartBits Ho_loads Ho_room Ho_bestBits Ho_bestTons Ho_bestWorth)) (ws' := fun (u : Unit) => (wX1 cy qHo Ho_tons Ho_worth Ho_apartBits Ho_loads Ho_room Ho_bestBits Ho_bestTons Ho_bestWorth ++ (wX6 cy qVo (qHo 0) Vo_legSmoke Vo_firstLeg Vo_lastLeg Vo_legs))) (wc := (wX1 cy qHo Ho_tons Ho_worth Ho_apartBits Ho_loads Ho_room Ho_bestBits Ho_bestTons Ho_bestWorth)) (wr := (wX6 cy qVo (qHo 0) Vo_legSmoke Vo_firstLeg Vo_lastLeg Vo_legs)) C0 hP hD hS [0, 1, 2, 3] [4, 5, 6, 7] [4, 5, 6, 7, 0, 1, 2, 3] rfl rfl (by decide) (by decide) (by decide) (fun _ => rfl) (va_runV (As := [.int x1]) (rest := []) ⟨hx, hb, hml, hown, hts⟩ (c_X1_has l D cy qHo Ho_tons Ho_worth Ho_apartBits Ho_loads Ho_room Ho_bestBits Ho_bestTons Ho_bestWorth H.size x1 u2 eu2) (cwV 1 hts gX6_take_X1_has rfl rfl rfl (by decide +kernel) ⟨Nat.le_of_ble_eq_true rfl, Nat.le_of_ble_eq_true rfl⟩) (pre_V (hP.sub (ws' := (wX1 cy qHo Ho_tons Ho_worth Ho_apartBits Ho_loads Ho_room Ho_bestBits Ho_bestTons Ho_bestWorth)) [0, 1, 2, 3] rfl) hK (hD.sub (ws' := (wX1 cy qHo Ho_tons Ho_worth Ho_apartBits Ho_loads Ho_room Ho_bestBits Ho_bestTons Ho_bestWorth)) [0, 1, 2, 3] (by decide) rfl) hN 1 0 rfl rfl) rfl rfl hl.1 rfl (lv_room (Nat.le_of_ble_eq_true rfl)) dX6_take_12 ⟨Nat.zero_le _, Nat.zero_le _⟩) (fun r u H locs hw hP hD hS => ?_)
    have hw := hw.symm
    subst hw
    have hP : va_P D vwCl (wX1 cy qHo Ho_tons Ho_worth Ho_apartBits Ho_loads Ho_room Ho_bestBits Ho_bestTons Ho_bestWorth ++ (wX6 cy qVo (qHo 0) Vo_legSmoke Vo_firstLeg Vo_lastLeg Vo_legs)) H := hP
    have hD : va_D A (wX1 cy qHo Ho_tons Ho_worth Ho_apartBits Ho_loads Ho_room Ho_bestBits Ho_bestTons Ho_bestWorth ++ (wX6 cy qVo (qHo 0) Vo_legSmoke Vo_firstLeg Vo_lastLeg Vo_legs)) := hD
    refine lv_if_eq (tgt := 34) hx hb dX6_take_15 (by decide) (fun hc3 => ?_) (fun hc3 => ?_)
    · have hf := ift hf hc3
      refine lv_bipush (v := (-2 : Int32)) hx hb dX6_take_34 (by decide) ?_
      exact rq_i C0 (Vo_firstLeg, Vo_lastLeg) (pr_2 hf) hP hD hS dX6_take_36
    · have hf := iff_ hf hc3
      refine lv_aload_n hx hb dX6_take_18 rfl (lv_at hl 0 rfl) ?_
      refine lv_iload_n hx hb dX6_take_19 rfl (lv_at hl 2 rfl) ?_
      obtain ⟨u4, eu4, hf⟩ := Option.bind_eq_some_iff.mp hf
      refine cq_i (wc' := fun (u : Unit) => (wX6 cy qVo (qHo 0) Vo_legSmoke Vo_firstLeg Vo_lastLeg Vo_legs)) (ws' := fun (u : Unit) => (wX1 cy qHo Ho_tons Ho_worth Ho_apartBits Ho_loads Ho_room Ho_bestBits Ho_bestTons Ho_bestWorth ++ (wX6 cy qVo (qHo 0) Vo_legSmoke Vo_firstLeg Vo_lastLeg Vo_legs))) (wc := (wX6 cy qVo (qHo 0) Vo_legSmoke Vo_firstLeg Vo_lastLeg Vo_legs)) (wr := (wX1 cy qHo Ho_tons Ho_worth Ho_apartBits Ho_loads Ho_room Ho_bestBits Ho_bestTons Ho_bestWorth)) C0 hP hD hS [4, 5, 6, 7] [0, 1, 2, 3] [0, 1, 2, 3, 4, 5, 6, 7] rfl rfl (by decide) (by decide) (by decide) (fun _ => rfl) (va_runV (As := [.int x2]) (rest := []) ⟨hx, hb, hml, hown, hts⟩ (c_X6_has l D cy qVo qHo Vo_legSmoke Vo_firstLeg Vo_lastLeg Vo_legs H.size x2 u4 eu4) (cwV 1 hts gX6_take_X6_has rfl rfl rfl (by decide +kernel) ⟨Nat.le_of_ble_eq_true rfl, Nat.le_of_ble_eq_true rfl⟩) (pre_V (hP.sub (ws' := (wX6 cy qVo (qHo 0) Vo_legSmoke Vo_firstLeg Vo_lastLeg Vo_legs)) [4, 5, 6, 7] rfl) hK (hD.sub (ws' := (wX6 cy qVo (qHo 0) Vo_legSmoke Vo_firstLeg Vo_lastLeg Vo_legs)) [4, 5, 6, 7] (by decide) rfl) hN 6 0 rfl rfl) rfl rfl hl.1 rfl (lv_room (Nat.le_of_ble_eq_true rfl)) dX6_take_20 ⟨Nat.zero_le _, Nat.zero_le _⟩) (fun r u H locs hw hP hD hS => ?_)
      have hw := hw.symm
      subst hw
      have hP : va_P D vwCl (wX1 cy qHo Ho_tons Ho_worth Ho_apartBits Ho_loads Ho_room Ho_bestBits Ho_bestTons Ho_bestWorth ++ (wX6 cy qVo (qHo 0) Vo_legSmoke Vo_firstLeg Vo_lastLeg Vo_legs)) H := hP
      have hD : va_D A (wX1 cy qHo Ho_tons Ho_worth Ho_apartBits Ho_loads Ho_room Ho_bestBits Ho_bestTons Ho_bestWorth ++ (wX6 cy qVo (qHo 0) Vo_legSmoke Vo_firstLeg Vo_lastLeg Vo_legs)) := hD
      refine lv_if_eq (tgt := 34) hx hb dX6_take_23 (by decide) (fun hc5 => ?_) (fun hc5 => ?_)
      · have hf := ift hf hc5
        refine lv_bipush (v := (-2 : Int32)) hx hb dX6_take_34 (by decide) ?_
        exact rq_i C0 (Vo_firstLeg, Vo_lastLeg) (pr_2 hf) hP hD hS dX6_take_36
      · have hf := iff_ hf hc5
        refine lv_aload_n hx hb dX6_take_26 rfl (lv_at hl 0 rfl) ?_
        refine lv_iload_n hx hb dX6_take_27 rfl (lv_at hl 3 rfl) ?_
        obtain ⟨u6, eu6, hf⟩ := Option.bind_eq_some_iff.mp hf
        refine cq_i (wc' := fun (u : Unit) => (wX6 cy qVo (qHo 0) Vo_legSmoke Vo_firstLeg Vo_lastLeg Vo_legs)) (ws' := fun (u : Unit) => (wX1 cy qHo Ho_tons Ho_worth Ho_apartBits Ho_loads Ho_room Ho_bestBits Ho_bestTons Ho_bestWorth ++ (wX6 cy qVo (qHo 0) Vo_legSmoke Vo_firstLeg Vo_lastLeg Vo_legs))) (wc := (wX6 cy qVo (qHo 0) Vo_legSmoke Vo_firstLeg Vo_lastLeg Vo_legs)) (wr := (wX1 cy qHo Ho_tons Ho_worth Ho_apartBits Ho_loads Ho_room Ho_bestBits Ho_bestTons Ho_bestWorth)) C0 hP hD hS [4, 5, 6, 7] [0, 1, 2, 3] [0, 1, 2, 3, 4, 5, 6, 7] rfl rfl (by decide) (by decide) (by decide) (fun _ => rfl) (va_runV (As := [.int x3]) (rest := []) ⟨hx, hb, hml, hown, hts⟩ (c_X6_has l D cy qVo qHo Vo_legSmoke Vo_firstLeg Vo_lastLeg Vo_legs H.size x3 u6 eu6) (cwV 1 hts gX6_take_X6_has rfl rfl rfl (by decide +kernel) ⟨Nat.le_of_ble_eq_true rfl, Nat.le_of_ble_eq_true rfl⟩) (pre_V (hP.sub (ws' := (wX6 cy qVo (qHo 0) Vo_legSmoke Vo_firstLeg Vo_lastLeg Vo_legs)) [4, 5, 6, 7] rfl) hK (hD.sub (ws' := (wX6 cy qVo (qHo 0) Vo_legSmoke Vo_firstLeg Vo_lastLeg Vo_legs)) [4, 5, 6, 7] (by decide) rfl) hN 6 0 rfl rfl) rfl rfl hl.1 rfl (lv_room (Nat.le_of_ble_eq_true rfl)) dX6_take_28 ⟨Nat.zero_le _, Nat.zero_le _⟩) (fun r u H locs hw hP hD hS => ?_)
        have hw := hw.symm
        subst hw
        have hP : va_P D vwCl (wX1 cy qHo Ho_tons Ho_worth Ho_apartBits Ho_loads Ho_room Ho_bestBits Ho_bestTons Ho_bestWorth ++ (wX6 cy qVo (qHo 0) Vo_legSmoke Vo_firstLeg Vo_lastLeg Vo_legs)) H := hP
        have hD : va_D A (wX1 cy qHo Ho_tons Ho_worth Ho_apartBits Ho_loads Ho_room Ho_bestBits Ho_bestTons Ho_bestWorth ++ (wX6 cy qVo (qHo 0) Vo_legSmoke Vo_firstLeg Vo_lastLeg Vo_legs)) := hD
        refine lv_if_ne (tgt := 37) hx hb dX6_take_31 (by decide) (fun hc7 => ?_) (fun hc7 => ?_)
        · have hf := iff_ hf hc7
          refine lv_aload_n hx hb dX6_take_37 rfl (lv_at hl 0 rfl) ?_
          refine va_get (D := D) (ci := 6) (v := .ref (qVo 2)) (C := RX6) (T := TX6) (N := 5) hx hb hts i_X6_take_X6 hown hK hP 4 rfl rfl 2 (by decide) (hts _ m_X6_take_f15) (fun _ h9 => h9) rfl dX6_take_38 ?_
          refine lv_iload_n hx hb dX6_take_41 rfl (lv_at hl 1 rfl) ?_
          refine lv_iload_n hx hb dX6_take_42 rfl (lv_at hl 2 rfl) ?_
          obtain ⟨hz8, hf⟩ := ifn hf
          refine va_iast hx hb hK hP hD hS 6 0 rfl rfl (inb_in hz8) dX6_take_43 (fun H locs hP hD hS => ?_)
          have hP : va_P D vwCl (wX1 cy qHo Ho_tons Ho_worth Ho_apartBits Ho_loads Ho_room Ho_bestBits Ho_bestTons Ho_bestWorth ++ (wX6 cy qVo (qHo 0) Vo_legSmoke (upd Vo_firstLeg x1.toNatClampNeg x2) Vo_lastLeg Vo_legs)) H := hP
          have hD : va_D A (wX1 cy qHo Ho_tons Ho_worth Ho_apartBits Ho_loads Ho_room Ho_bestBits Ho_bestTons Ho_bestWorth ++ (wX6 cy qVo (qHo 0) Vo_legSmoke (upd Vo_firstLeg x1.toNatClampNeg x2) Vo_lastLeg Vo_legs)) := hD
          refine lv_aload_n hx hb dX6_take_44 rfl (lv_at hl 0 rfl) ?_
          refine va_get (D := D) (ci := 6) (v := .ref (qVo 3)) (C := RX6) (T := TX6) (N := 5) hx hb hts i_X6_take_X6 hown hK hP 4 rfl rfl 3 (by decide) (hts _ m_X6_take_f18) (fun _ h9 => h9) rfl dX6_take_45 ?_
          refine lv_iload_n hx hb dX6_take_48 rfl (lv_at hl 1 rfl) ?_
          refine lv_iload_n hx hb dX6_take_49 rfl (lv_at hl 3 rfl) ?_
          refine va_iast hx hb hK hP hD hS 7 0 rfl rfl (inb_in hz8) dX6_take_50 (fun H locs hP hD hS => ?_)
          have hP : va_P D vwCl (wX1 cy qHo Ho_tons Ho_worth Ho_apartBits Ho_loads Ho_room Ho_bestBits Ho_bestTons Ho_bestWorth ++ (wX6 cy qVo (qHo 0) Vo_legSmoke (upd Vo_firstLeg x1.toNatClampNeg x2) (upd Vo_lastLeg x1.toNatClampNeg x3) Vo_legs)) H := hP
          have hD : va_D A (wX1 cy qHo Ho_tons Ho_worth Ho_apartBits Ho_loads Ho_room Ho_bestBits Ho_bestTons Ho_bestWorth ++ (wX6 cy qVo (qHo 0) Vo_legSmoke (upd Vo_firstLeg x1.toNatClampNeg x2) (upd Vo_lastLeg x1.toNatClampNeg x3) Vo_legs)) := hD
          refine lv_iconst (v := (0 : Int32)) hx hb dX6_take_51 (by decide) ?_
          exact rq_i C0 ((upd Vo_firstLeg x1.toNatClampNeg x2), (upd Vo_lastLeg x1.toNatClampNeg x3)) (pr_2 hf) hP hD hS dX6_take_52
        · have hf := ift hf hc7
          refine lv_bipush (v := (-2 : Int32)) hx hb dX6_take_34 (by decide) ?_
          exact rq_i C0 (Vo_firstLeg, Vo_lastLeg) (pr_2 hf) hP hD hS dX6_take_36
  · have hf := iff_ hf hc1
    refine lv_iconst (v := (-1 : Int32)) hx hb dX6_take_5 (by decide) ?_
    exact rq_i C0 (Vo_firstLeg, Vo_lastLeg) (pr_2 hf) hP hD hS dX6_take_6

theorem i_X6_isAboard_X6 : ∀ w ∈ wsX60, w ∈ wsX6_isAboard := by decide +kernel
theorem m_X6_isAboard_f15 : Cond.fieldLink RX6 15 "SailCargo$Voyage" "firstLeg" "[I" ∈ wsX6_isAboard := by decide +kernel
theorem m_X6_isAboard_f18 : Cond.fieldLink RX6 18 "SailCargo$Voyage" "lastLeg" "[I" ∈ wsX6_isAboard := by decide +kernel
set_option maxHeartbeats 4000000 in
set_option maxRecDepth 100000 in
theorem c_X6_isAboard (l : Launch) (D : va_G) (cy : Nat → ClassId) (qVo qHo : Nat → Nat) (Vo_legSmoke : Nat → Int32) (Vo_firstLeg : Nat → Int32) (Vo_lastLeg : Nat → Int32) (Vo_legs : Int32) (sz : Nat) (x1 : Int32) (x2 : Int32) (X : Int32) (hf : f_X6_isAboard Vo_firstLeg Vo_lastLeg x1 x2 = some X) : Met l yX6_isAboard wsX6_isAboard ({ frames := 0, cells := 0, slots := 0, locals := 0 } : Room) (va_Pc [.ref (qVo 0), .int x1, .int x2] (PW D cy (wX6 cy qVo (qHo 0) Vo_legSmoke Vo_firstLeg Vo_lastLeg Vo_legs) sz)) (va_Qi (fun (r : Int32) (_ : Unit) => r = X) (fun u t => BW D cy (va_A (wX6 cy qVo (qHo 0) Vo_legSmoke Vo_firstLeg Vo_lastLeg Vo_legs) sz) (wX6 cy qVo (qHo 0) Vo_legSmoke Vo_firstLeg Vo_lastLeg Vo_legs) t) (va_A (wX6 cy qVo (qHo 0) Vo_legSmoke Vo_firstLeg Vo_lastLeg Vo_legs) sz)) 0 0 (va_A (wX6 cy qVo (qHo 0) Vo_legSmoke Vo_firstLeg Vo_lastLeg Vo_legs) sz) := by
  refine met_enter (Qc := fun A => (va_Qi (fun (r : Int32) (_ : Unit) => r = X) (fun u t => BW D cy A (wX6 cy qVo (qHo 0) Vo_legSmoke Vo_firstLeg Vo_lastLeg Vo_legs) t) A)) (lv0 := [(0, .ref (qVo 0)), (1, .int x1), (2, .int x2)]) (by decide) rfl (Nat.le_of_ble_eq_true rfl) rfl ?_
  intro p e s m below meth c A ls hnm C0 hP hD hS hl
  generalize hH : s.heap = H at hP ⊢
  generalize hLoc : ([] : List Loc) = locs at hS ⊢
  have hS : va_S A s.heap H locs := by rw [← hH]; exact hS
  have C0 : CX cX6_isAboard 3 (some .boolean) RX6 wsX6_isAboard D cy p s m _ meth c A := C0
  obtain ⟨hx, hb, hr, hml, hown, hts, hK, hA, hN, hlocks⟩ := id C0
  unfold f_X6_isAboard at hf
  refine lv_aload_n hx hb dX6_isAboard_0 rfl (lv_at hl 0 rfl) ?_
  refine va_get (D := D) (ci := 6) (v := .ref (qVo 2)) (C := RX6) (T := TX6) (N := 5) hx hb hts i_X6_isAboard_X6 hown hK hP 0 rfl rfl 2 (by decide) (hts _ m_X6_isAboard_f15) (fun _ h9 => h9) rfl dX6_isAboard_1 ?_
  refine lv_iload_n hx hb dX6_isAboard_4 rfl (lv_at hl 1 rfl) ?_
  obtain ⟨hz1, hf⟩ := ifn hf
  refine va_iald hx hb hK hP 2 0 rfl rfl (inb_in hz1) dX6_isAboard_5 ?_
  refine lv_iload_n hx hb dX6_isAboard_6 rfl (lv_at hl 2 rfl) ?_
  refine lv_icmp_gt (tgt := 24) hx hb dX6_isAboard_7 (by decide) (fun hc2 => ?_) (fun hc2 => ?_)
  · have hf := ift hf hc2
    refine lv_iconst (v := (0 : Int32)) hx hb dX6_isAboard_24 (by decide) ?_
    exact rq_z C0 (by decide) () (Option.some.inj hf) hP hD hS dX6_isAboard_25
  · have hf := iff_ hf hc2
    refine lv_iload_n hx hb dX6_isAboard_10 rfl (lv_at hl 2 rfl) ?_
    refine lv_aload_n hx hb dX6_isAboard_11 rfl (lv_at hl 0 rfl) ?_
    refine va_get (D := D) (ci := 6) (v := .ref (qVo 3)) (C := RX6) (T := TX6) (N := 5) hx hb hts i_X6_isAboard_X6 hown hK hP 0 rfl rfl 3 (by decide) (hts _ m_X6_isAboard_f18) (fun _ h9 => h9) rfl dX6_isAboard_12 ?_
    refine lv_iload_n hx hb dX6_isAboard_15 rfl (lv_at hl 1 rfl) ?_
    refine va_iald hx hb hK hP 3 0 rfl rfl (inb_in hz1) dX6_isAboard_16 ?_
    refine lv_icmp_gt (tgt := 24) hx hb dX6_isAboard_17 (by decide) (fun hc3 => ?_) (fun hc3 => ?_)
    · have hf := ift hf hc3
      refine lv_iconst (v := (0 : Int32)) hx hb dX6_isAboard_24 (by decide) ?_
      exact rq_z C0 (by decide) () (Option.some.inj hf) hP hD hS dX6_isAboard_25
    · have hf := iff_ hf hc3
      refine lv_iconst (v := (1 : Int32)) hx hb dX6_isAboard_20 (by decide) ?_
      refine lv_goto (tgt := 25) hx hb dX6_isAboard_21 (by decide) ?_
      exact rq_z C0 (by decide) () (Option.some.inj hf) hP hD hS dX6_isAboard_25

theorem i_X6_tonsAboard_X6 : ∀ w ∈ wsX60, w ∈ wsX6_tonsAboard := by decide +kernel
theorem m_X6_tonsAboard_f21 : Cond.fieldLink RX6 21 "SailCargo$Voyage" "hold" "LSailCargo$Hold;" ∈ wsX6_tonsAboard := by decide +kernel
theorem i_X6_tonsAboard_X1 : ∀ w ∈ wsX10, w ∈ wsX6_tonsAboard := by decide +kernel
set_option maxHeartbeats 4000000 in
set_option maxRecDepth 100000 in
theorem w_X6_tonsAboard_36 {p : Program} {l : Launch} {e : Env} {s : State} {m : MethodId} {args : Array Value} {below : List Frame} {meth : Method} {c : Code} {A : Nat → Prop} {D : va_G} {cy : Nat → ClassId} {qHo qVo : Nat → Nat} {Ho_tons Ho_worth Ho_apartBits : Nat → Int32} {Ho_loads Ho_room Ho_bestBits Ho_bestTons Ho_bestWorth : Int32} {Vo_legSmoke Vo_firstLeg Vo_lastLeg : Nat → Int32} {Vo_legs : Int32} {X : Int32} {kh4 : Int32 → Int32 → Int32 → Option (Int32)} (C0 : CX cX6_tonsAboard 4 (some .int) RX6 wsX6_tonsAboard D cy p s m args meth c A) (hk4 : ∀  (x1 : Int32) (x2 : Int32) (x3 : Int32), kh4 x1 x2 x3 = some X → ∀ (H : Heap) (locs : List Loc) (ls : Array Slot), va_P D vwCl (wX1 cy qHo Ho_tons Ho_worth Ho_apartBits Ho_loads Ho_room Ho_bestBits Ho_bestTons Ho_bestWorth ++ (wX6 cy qVo (qHo 0) Vo_legSmoke Vo_firstLeg Vo_lastLeg Vo_legs)) H → va_D A (wX1 cy qHo Ho_tons Ho_worth Ho_apartBits Ho_loads Ho_room Ho_bestBits Ho_bestTons Ho_bestWorth ++ (wX6 cy qVo (qHo 0) Vo_legSmoke Vo_firstLeg Vo_lastLeg Vo_legs)) → va_S A s.heap H locs → lv_has ls 4 [(0, .ref (qVo 0)), (1, .int x1), (2, .int x2), (3, .int x3)] → W p l e ({ frames := 1, cells := 0, slots := 0, locals := 22 } : Room) s m args below meth c H locs 0 0 (MQ below (va_Qi (fun (r : Int32) (_ : Unit) => r = X) (fun u t => BW D cy A (wX1 cy qHo Ho_tons Ho_worth Ho_apartBits Ho_loads Ho_room Ho_bestBits Ho_bestTons Ho_bestWorth ++ (wX6 cy qVo (qHo 0) Vo_legSmoke Vo_firstLeg Vo_lastLeg Vo_legs)) t) A) args s 0 0 A) (F0 m 4 ls []))  (x1 : Int32) (x2 : Int32) (x3 : Int32) (hf : f_X6_tonsAboard_36 Ho_tons Ho_loads Vo_firstLeg Vo_lastLeg kh4 x1 x2 x3 = some X) : ∀ (H : Heap) (locs : List Loc) (ls : Array Slot), va_P D vwCl (wX1 cy qHo Ho_tons Ho_worth Ho_apartBits Ho_loads Ho_room Ho_bestBits Ho_bestTons Ho_bestWorth ++ (wX6 cy qVo (qHo 0) Vo_legSmoke Vo_firstLeg Vo_lastLeg Vo_legs)) H → va_D A (wX1 cy qHo Ho_tons Ho_worth Ho_apartBits Ho_loads Ho_room Ho_bestBits Ho_bestTons Ho_bestWorth ++ (wX6 cy qVo (qHo 0) Vo_legSmoke Vo_firstLeg Vo_lastLeg Vo_legs)) → va_S A s.heap H locs → lv_has ls 4 [(0, .ref (qVo 0)), (1, .int x1), (2, .int x2), (3, .int x3)] → W p l e ({ frames := 1, cells := 0, slots := 0, locals := 22 } : Room) s m args below meth c H locs 0 0 (MQ below (va_Qi (fun (r : Int32) (_ : Unit) => r = X) (fun u t => BW D cy A (wX1 cy qHo Ho_tons Ho_worth Ho_apartBits Ho_loads Ho_room Ho_bestBits Ho_bestTons Ho_bestWorth ++ (wX6 cy qVo (qHo 0) Vo_legSmoke Vo_firstLeg Vo_lastLeg Vo_legs)) t) A) args s 0 0 A) (F0 m 36 ls []) := by
  obtain ⟨hx, hb, hr, hml, hown, hts, hK, hA, hN, hlocks⟩ := id C0
  intro H locs ls hP hD hS hl
  unfold f_X6_tonsAboard_36 at hf
  refine lv_iinc (v := (x3 + 1)) (lv' := [(3, .int (x3 + 1)), (0, .ref (qVo 0)), (1, .int x1), (2, .int x2)]) hx hb dX6_tonsAboard_36 hl (k := 3) rfl rfl (by decide) rfl (fun ls hl => ?_)
  refine lv_goto (tgt := 4) hx hb dX6_tonsAboard_39 (by decide) ?_
  exact hk4 x1 x2 (x3 + 1) hf H locs ls hP hD hS (lv_sub hl [1, 2, 3, 0] rfl)

set_option maxHeartbeats 4000000 in
set_option maxRecDepth 100000 in
theorem w_X6_tonsAboard_4 {p : Program} {l : Launch} {e : Env} {s : State} {m : MethodId} {args : Array Value} {below : List Frame} {meth : Method} {c : Code} {A : Nat → Prop} {D : va_G} {cy : Nat → ClassId} {qHo qVo : Nat → Nat} {Ho_tons Ho_worth Ho_apartBits : Nat → Int32} {Ho_loads Ho_room Ho_bestBits Ho_bestTons Ho_bestWorth : Int32} {Vo_legSmoke Vo_firstLeg Vo_lastLeg : Nat → Int32} {Vo_legs : Int32} {X : Int32}  (C0 : CX cX6_tonsAboard 4 (some .int) RX6 wsX6_tonsAboard D cy p s m args meth c A)  : ∀ (n : Nat)  (x1 : Int32) (x2 : Int32) (x3 : Int32), g_X6_tonsAboard_4 Ho_tons Ho_loads Vo_firstLeg Vo_lastLeg n x1 x2 x3 = some X → ∀ (H : Heap) (locs : List Loc) (ls : Array Slot), va_P D vwCl (wX1 cy qHo Ho_tons Ho_worth Ho_apartBits Ho_loads Ho_room Ho_bestBits Ho_bestTons Ho_bestWorth ++ (wX6 cy qVo (qHo 0) Vo_legSmoke Vo_firstLeg Vo_lastLeg Vo_legs)) H → va_D A (wX1 cy qHo Ho_tons Ho_worth Ho_apartBits Ho_loads Ho_room Ho_bestBits Ho_bestTons Ho_bestWorth ++ (wX6 cy qVo (qHo 0) Vo_legSmoke Vo_firstLeg Vo_lastLeg Vo_legs)) → va_S A s.heap H locs → lv_has ls 4 [(0, .ref (qVo 0)), (1, .int x1), (2, .int x2), (3, .int x3)] → W p l e ({ frames := 1, cells := 0, slots := 0, locals := 22 } : Room) s m args below meth c H locs 0 0 (MQ below (va_Qi (fun (r : Int32) (_ : Unit) => r = X) (fun u t => BW D cy A (wX1 cy qHo Ho_tons Ho_worth Ho_apartBits Ho_loads Ho_room Ho_bestBits Ho_bestTons Ho_bestWorth ++ (wX6 cy qVo (qHo 0) Vo_legSmoke Vo_firstLeg Vo_lastLeg Vo_legs)) t) A) args s 0 0 A) (F0 m 4 ls []) := by
  obtain ⟨hx, hb, hr, hml, hown, hts, hK, hA, hN, hlocks⟩ := id C0
  intro n
  induction n with
  | zero => intro x1 x2 x3 hf; exact (no_some hf).elim
  | succ n hk4 =>
    intro x1 x2 x3 hf H locs ls hP hD hS hl
    have hf : f_X6_tonsAboard_4 Ho_tons Ho_loads Vo_firstLeg Vo_lastLeg (fun x1 x2 x3 => g_X6_tonsAboard_4 Ho_tons Ho_loads Vo_firstLeg Vo_lastLeg n x1 x2 x3) x1 x2 x3 = some X := hf
    unfold f_X6_tonsAboard_4 at hf
    refine lv_iload_n hx hb dX6_tonsAboard_4 rfl (lv_at hl 3 rfl) ?_
    refine lv_aload_n hx hb dX6_tonsAboard_5 rfl (lv_at hl 0 rfl) ?_
    refine va_get (D := D) (ci := 6) (v := .ref (qHo 0)) (C := RX6) (T := TX6) (N := 5) hx hb hts i_X6_tonsAboard_X6 hown hK hP 4 rfl rfl 0 (by decide) (hts _ m_X6_tonsAboard_f21) (fun _ h9 => h9) rfl dX6_tonsAboard_6 ?_
    refine va_getN (D := D) (ci := 1) (v := .int Ho_loads) (C := RX1) (T := TX1) (N := 8) hx hb hts i_X6_tonsAboard_X1 hown hK hP 0 rfl rfl 3 (by decide) (va_Nw.use rfl (hN _ nw_X6_52)) (fun _ h9 => h9) rfl dX6_tonsAboard_9 ?_
    refine lv_icmp_ge (tgt := 42) hx hb dX6_tonsAboard_12 (by decide) (fun hc1 => ?_) (fun hc1 => ?_)
    · have hf := ift hf hc1
      refine lv_iload_n hx hb dX6_tonsAboard_42 rfl (lv_at hl 2 rfl) ?_
      exact rq_i C0 () (Option.some.inj hf) hP hD hS dX6_tonsAboard_43
    · have hf := iff_ hf hc1
      refine lv_aload_n hx hb dX6_tonsAboard_15 rfl (lv_at hl 0 rfl) ?_
      refine lv_iload_n hx hb dX6_tonsAboard_16 rfl (lv_at hl 3 rfl) ?_
      refine lv_iload_n hx hb dX6_tonsAboard_17 rfl (lv_at hl 1 rfl) ?_
      obtain ⟨u2, eu2, hf⟩ := Option.bind_eq_some_iff.mp hf
      refine cq_i (wc' := fun (u : Unit) => (wX6 cy qVo (qHo 0) Vo_legSmoke Vo_firstLeg Vo_lastLeg Vo_legs)) (ws' := fun (u : Unit) => (wX1 cy qHo Ho_tons Ho_worth Ho_apartBits Ho_loads Ho_room Ho_bestBits Ho_bestTons Ho_bestWorth ++ (wX6 cy qVo (qHo 0) Vo_legSmoke Vo_firstLeg Vo_lastLeg Vo_legs))) (wc := (wX6 cy qVo (qHo 0) Vo_legSmoke Vo_firstLeg Vo_lastLeg Vo_legs)) (wr := (wX1 cy qHo Ho_tons Ho_worth Ho_apartBits Ho_loads Ho_room Ho_bestBits Ho_bestTons Ho_bestWorth)) C0 hP hD hS [4, 5, 6, 7] [0, 1, 2, 3] [0, 1, 2, 3, 4, 5, 6, 7] rfl rfl (by decide) (by decide) (by decide) (fun _ => rfl) (va_runV (As := [.int x3, .int x1]) (rest := []) ⟨hx, hb, hml, hown, hts⟩ (c_X6_isAboard l D cy qVo qHo Vo_legSmoke Vo_firstLeg Vo_lastLeg Vo_legs H.size x3 x1 u2 eu2) (cwV 2 hts gX6_tonsAboard_X6_isAboard rfl rfl rfl (by decide +kernel) ⟨Nat.le_of_ble_eq_true rfl, Nat.le_of_ble_eq_true rfl⟩) (pre_V (hP.sub (ws' := (wX6 cy qVo (qHo 0) Vo_legSmoke Vo_firstLeg Vo_lastLeg Vo_legs)) [4, 5, 6, 7] rfl) hK (hD.sub (ws' := (wX6 cy qVo (qHo 0) Vo_legSmoke Vo_firstLeg Vo_lastLeg Vo_legs)) [4, 5, 6, 7] (by decide) rfl) hN 6 0 rfl rfl) rfl rfl hl.1 rfl (lv_room (Nat.le_of_ble_eq_true rfl)) dX6_tonsAboard_18 ⟨Nat.zero_le _, Nat.zero_le _⟩) (fun r u H locs hw hP hD hS => ?_)
      have hw := hw.symm
      subst hw
      have hP : va_P D vwCl (wX1 cy qHo Ho_tons Ho_worth Ho_apartBits Ho_loads Ho_room Ho_bestBits Ho_bestTons Ho_bestWorth ++ (wX6 cy qVo (qHo 0) Vo_legSmoke Vo_firstLeg Vo_lastLeg Vo_legs)) H := hP
      have hD : va_D A (wX1 cy qHo Ho_tons Ho_worth Ho_apartBits Ho_loads Ho_room Ho_bestBits Ho_bestTons Ho_bestWorth ++ (wX6 cy qVo (qHo 0) Vo_legSmoke Vo_firstLeg Vo_lastLeg Vo_legs)) := hD
      refine lv_if_eq (tgt := 36) hx hb dX6_tonsAboard_21 (by decide) (fun hc3 => ?_) (fun hc3 => ?_)
      · have hf := ift hf hc3
        exact w_X6_tonsAboard_36 C0 hk4 x1 x2 x3 hf H locs ls hP hD hS (lv_sub hl [0, 1, 2, 3] rfl)
      · have hf := iff_ hf hc3
        refine lv_iload_n hx hb dX6_tonsAboard_24 rfl (lv_at hl 2 rfl) ?_
        refine lv_aload_n hx hb dX6_tonsAboard_25 rfl (lv_at hl 0 rfl) ?_
        refine va_get (D := D) (ci := 6) (v := .ref (qHo 0)) (C := RX6) (T := TX6) (N := 5) hx hb hts i_X6_tonsAboard_X6 hown hK hP 4 rfl rfl 0 (by decide) (hts _ m_X6_tonsAboard_f21) (fun _ h9 => h9) rfl dX6_tonsAboard_26 ?_
        refine va_getN (D := D) (ci := 1) (v := .ref (qHo 1)) (C := RX1) (T := TX1) (N := 8) hx hb hts i_X6_tonsAboard_X1 hown hK hP 0 rfl rfl 0 (by decide) (va_Nw.use rfl (hN _ nw_X6_49)) (fun _ h9 => h9) rfl dX6_tonsAboard_29 ?_
        refine lv_iload_n hx hb dX6_tonsAboard_32 rfl (lv_at hl 3 rfl) ?_
        obtain ⟨hz4, hf⟩ := ifn hf
        refine va_iald hx hb hK hP 1 0 rfl rfl (inb_in hz4) dX6_tonsAboard_33 ?_
        refine lv_iadd hx hb dX6_tonsAboard_34 ?_
        refine lv_istore_n (lv' := [(2, .int (x2 + (Ho_tons x3.toNatClampNeg))), (0, .ref (qVo 0)), (1, .int x1), (3, .int x3)]) hx hb dX6_tonsAboard_35 rfl hl (by decide) rfl (fun ls hl => ?_)
        exact w_X6_tonsAboard_36 C0 hk4 x1 (x2 + (Ho_tons x3.toNatClampNeg)) x3 hf H locs ls hP hD hS (lv_sub hl [1, 2, 0, 3] rfl)

set_option maxHeartbeats 4000000 in
set_option maxRecDepth 100000 in
theorem c_X6_tonsAboard (l : Launch) (D : va_G) (cy : Nat → ClassId) (qHo qVo : Nat → Nat) (Ho_tons : Nat → Int32) (Ho_worth : Nat → Int32) (Ho_apartBits : Nat → Int32) (Ho_loads : Int32) (Ho_room : Int32) (Ho_bestBits : Int32) (Ho_bestTons : Int32) (Ho_bestWorth : Int32) (Vo_legSmoke : Nat → Int32) (Vo_firstLeg : Nat → Int32) (Vo_lastLeg : Nat → Int32) (Vo_legs : Int32) (sz : Nat) (x1 : Int32) (X : Int32) (hf : f_X6_tonsAboard Ho_tons Ho_loads Vo_firstLeg Vo_lastLeg x1 = some X) : Met l yX6_tonsAboard wsX6_tonsAboard ({ frames := 1, cells := 0, slots := 0, locals := 22 } : Room) (va_Pc [.ref (qVo 0), .int x1] (PW D cy (wX1 cy qHo Ho_tons Ho_worth Ho_apartBits Ho_loads Ho_room Ho_bestBits Ho_bestTons Ho_bestWorth ++ (wX6 cy qVo (qHo 0) Vo_legSmoke Vo_firstLeg Vo_lastLeg Vo_legs)) sz)) (va_Qi (fun (r : Int32) (_ : Unit) => r = X) (fun u t => BW D cy (va_A (wX1 cy qHo Ho_tons Ho_worth Ho_apartBits Ho_loads Ho_room Ho_bestBits Ho_bestTons Ho_bestWorth ++ (wX6 cy qVo (qHo 0) Vo_legSmoke Vo_firstLeg Vo_lastLeg Vo_legs)) sz) (wX1 cy qHo Ho_tons Ho_worth Ho_apartBits Ho_loads Ho_room Ho_bestBits Ho_bestTons Ho_bestWorth ++ (wX6 cy qVo (qHo 0) Vo_legSmoke Vo_firstLeg Vo_lastLeg Vo_legs)) t) (va_A (wX1 cy qHo Ho_tons Ho_worth Ho_apartBits Ho_loads Ho_room Ho_bestBits Ho_bestTons Ho_bestWorth ++ (wX6 cy qVo (qHo 0) Vo_legSmoke Vo_firstLeg Vo_lastLeg Vo_legs)) sz)) 0 0 (va_A (wX1 cy qHo Ho_tons Ho_worth Ho_apartBits Ho_loads Ho_room Ho_bestBits Ho_bestTons Ho_bestWorth ++ (wX6 cy qVo (qHo 0) Vo_legSmoke Vo_firstLeg Vo_lastLeg Vo_legs)) sz) := by
  refine met_enter (Qc := fun A => (va_Qi (fun (r : Int32) (_ : Unit) => r = X) (fun u t => BW D cy A (wX1 cy qHo Ho_tons Ho_worth Ho_apartBits Ho_loads Ho_room Ho_bestBits Ho_bestTons Ho_bestWorth ++ (wX6 cy qVo (qHo 0) Vo_legSmoke Vo_firstLeg Vo_lastLeg Vo_legs)) t) A)) (lv0 := [(0, .ref (qVo 0)), (1, .int x1)]) (by decide) rfl (Nat.le_of_ble_eq_true rfl) rfl ?_
  intro p e s m below meth c A ls hnm C0 hP hD hS hl
  generalize hH : s.heap = H at hP ⊢
  generalize hLoc : ([] : List Loc) = locs at hS ⊢
  have hS : va_S A s.heap H locs := by rw [← hH]; exact hS
  have C0 : CX cX6_tonsAboard 4 (some .int) RX6 wsX6_tonsAboard D cy p s m _ meth c A := C0
  obtain ⟨hx, hb, hr, hml, hown, hts, hK, hA, hN, hlocks⟩ := id C0
  unfold f_X6_tonsAboard at hf
  refine lv_iconst (v := (0 : Int32)) hx hb dX6_tonsAboard_0 (by decide) ?_
  refine lv_istore_n (lv' := [(2, .int (0 : Int32)), (0, .ref (qVo 0)), (1, .int x1)]) hx hb dX6_tonsAboard_1 rfl hl (by decide) rfl (fun ls hl => ?_)
  refine lv_iconst (v := (0 : Int32)) hx hb dX6_tonsAboard_2 (by decide) ?_
  refine lv_istore_n (lv' := [(3, .int (0 : Int32)), (2, .int (0 : Int32)), (0, .ref (qVo 0)), (1, .int x1)]) hx hb dX6_tonsAboard_3 rfl hl (by decide) rfl (fun ls hl => ?_)
  exact w_X6_tonsAboard_4 C0  FU x1 (0 : Int32) (0 : Int32) hf H locs ls hP hD hS (lv_sub hl [2, 3, 1, 0] rfl)

set_option maxHeartbeats 4000000 in
set_option maxRecDepth 100000 in
theorem c_X6_isServedFirst (l : Launch) (D : va_G) (cy : Nat → ClassId)   (sz : Nat) (x0 : Int32) (x1 : Int32) (x2 : Int32) (x3 : Int32) (X : Int32) (hf : f_X6_isServedFirst x0 x1 x2 x3 = some X) : Met l yX6_isServedFirst wsX6_isServedFirst ({ frames := 0, cells := 0, slots := 0, locals := 0 } : Room) (va_Pc [.int x0, .int x1, .int x2, .int x3] (PW D cy ([] : va_W) sz)) (va_Qi (fun (r : Int32) (_ : Unit) => r = X) (fun u t => BW D cy (va_A ([] : va_W) sz) ([] : va_W) t) (va_A ([] : va_W) sz)) 0 0 (va_A ([] : va_W) sz) := by
  refine met_enter (Qc := fun A => (va_Qi (fun (r : Int32) (_ : Unit) => r = X) (fun u t => BW D cy A ([] : va_W) t) A)) (lv0 := [(0, .int x0), (1, .int x1), (2, .int x2), (3, .int x3)]) (by decide) rfl (Nat.le_of_ble_eq_true rfl) rfl ?_
  intro p e s m below meth c A ls hnm C0 hP hD hS hl
  generalize hH : s.heap = H at hP ⊢
  generalize hLoc : ([] : List Loc) = locs at hS ⊢
  have hS : va_S A s.heap H locs := by rw [← hH]; exact hS
  have C0 : CX cX6_isServedFirst 4 (some .boolean) RX6 wsX6_isServedFirst D cy p s m _ meth c A := C0
  obtain ⟨hx, hb, hr, hml, hown, hts, hK, hA, hN, hlocks⟩ := id C0
  unfold f_X6_isServedFirst at hf
  refine lv_iload_n hx hb dX6_isServedFirst_0 rfl (lv_at hl 0 rfl) ?_
  refine lv_iload_n hx hb dX6_isServedFirst_1 rfl (lv_at hl 2 rfl) ?_
  refine lv_icmp_gt (tgt := 15) hx hb dX6_isServedFirst_2 (by decide) (fun hc1 => ?_) (fun hc1 => ?_)
  · have hf := ift hf hc1
    refine lv_iconst (v := (1 : Int32)) hx hb dX6_isServedFirst_15 (by decide) ?_
    refine lv_goto (tgt := 20) hx hb dX6_isServedFirst_16 (by decide) ?_
    exact rq_z C0 (by decide) () (Option.some.inj hf) hP hD hS dX6_isServedFirst_20
  · have hf := iff_ hf hc1
    refine lv_iload_n hx hb dX6_isServedFirst_5 rfl (lv_at hl 0 rfl) ?_
    refine lv_iload_n hx hb dX6_isServedFirst_6 rfl (lv_at hl 2 rfl) ?_
    refine lv_icmp_ne (tgt := 19) hx hb dX6_isServedFirst_7 (by decide) (fun hc2 => ?_) (fun hc2 => ?_)
    · have hf := iff_ hf hc2
      refine lv_iconst (v := (0 : Int32)) hx hb dX6_isServedFirst_19 (by decide) ?_
      exact rq_z C0 (by decide) () (Option.some.inj hf) hP hD hS dX6_isServedFirst_20
    · have hf := ift hf hc2
      refine lv_iload_n hx hb dX6_isServedFirst_10 rfl (lv_at hl 1 rfl) ?_
      refine lv_iload_n hx hb dX6_isServedFirst_11 rfl (lv_at hl 3 rfl) ?_
      refine lv_icmp_ge (tgt := 19) hx hb dX6_isServedFirst_12 (by decide) (fun hc3 => ?_) (fun hc3 => ?_)
      · have hf := ift hf hc3
        refine lv_iconst (v := (0 : Int32)) hx hb dX6_isServedFirst_19 (by decide) ?_
        exact rq_z C0 (by decide) () (Option.some.inj hf) hP hD hS dX6_isServedFirst_20
      · have hf := iff_ hf hc3
        refine lv_iconst (v := (1 : Int32)) hx hb dX6_isServedFirst_15 (by decide) ?_
        refine lv_goto (tgt := 20) hx hb dX6_isServedFirst_16 (by decide) ?_
        exact rq_z C0 (by decide) () (Option.some.inj hf) hP hD hS dX6_isServedFirst_20

theorem i_X6_partOf_X6 : ∀ w ∈ wsX60, w ∈ wsX6_partOf := by decide +kernel
theorem m_X6_partOf_f21 : Cond.fieldLink RX6 21 "SailCargo$Voyage" "hold" "LSailCargo$Hold;" ∈ wsX6_partOf := by decide +kernel
theorem i_X6_partOf_X1 : ∀ w ∈ wsX10, w ∈ wsX6_partOf := by decide +kernel
theorem m_X6_partOf_f11 : Cond.fieldLink RX6 11 "SailCargo$Voyage" "legSmoke" "[I" ∈ wsX6_partOf := by decide +kernel
set_option maxHeartbeats 4000000 in
set_option maxRecDepth 100000 in
theorem w_X6_partOf_123 {p : Program} {l : Launch} {e : Env} {s : State} {m : MethodId} {args : Array Value} {below : List Frame} {meth : Method} {c : Code} {A : Nat → Prop} {D : va_G} {cy : Nat → ClassId} {qHo qVo : Nat → Nat} {Ho_tons Ho_worth Ho_apartBits : Nat → Int32} {Ho_loads Ho_room Ho_bestBits Ho_bestTons Ho_bestWorth : Int32} {Vo_legSmoke Vo_firstLeg Vo_lastLeg : Nat → Int32} {Vo_legs : Int32} {X : Int32} {kh53 : Int32 → Int32 → Int32 → Int32 → Int32 → Int32 → Int32 → Option (Int32)} (C0 : CX cX6_partOf 9 (some .int) RX6 wsX6_partOf D cy p s m args meth c A) (hk53 : ∀  (x1 : Int32) (x2 : Int32) (x3 : Int32) (x4 : Int32) (x5 : Int32) (x6 : Int32) (x7 : Int32), kh53 x1 x2 x3 x4 x5 x6 x7 = some X → ∀ (H : Heap) (locs : List Loc) (ls : Array Slot), va_P D vwCl (wX1 cy qHo Ho_tons Ho_worth Ho_apartBits Ho_loads Ho_room Ho_bestBits Ho_bestTons Ho_bestWorth ++ (wX6 cy qVo (qHo 0) Vo_legSmoke Vo_firstLeg Vo_lastLeg Vo_legs)) H → va_D A (wX1 cy qHo Ho_tons Ho_worth Ho_apartBits Ho_loads Ho_room Ho_bestBits Ho_bestTons Ho_bestWorth ++ (wX6 cy qVo (qHo 0) Vo_legSmoke Vo_firstLeg Vo_lastLeg Vo_legs)) → va_S A s.heap H locs → lv_has ls 9 [(0, .ref (qVo 0)), (1, .int x1), (2, .int x2), (3, .int x3), (4, .int x4), (5, .int x5), (6, .int x6), (7, .int x7)] → W p l e ({ frames := 2, cells := 0, slots := 0, locals := 45 } : Room) s m args below meth c H locs 0 0 (MQ below (va_Qi (fun (r : Int32) (_ : Unit) => r = X) (fun u t => BW D cy A (wX1 cy qHo Ho_tons Ho_worth Ho_apartBits Ho_loads Ho_room Ho_bestBits Ho_bestTons Ho_bestWorth ++ (wX6 cy qVo (qHo 0) Vo_legSmoke Vo_firstLeg Vo_lastLeg Vo_legs)) t) A) args s 0 0 A) (F0 m 53 ls []))  (x1 : Int32) (x2 : Int32) (x3 : Int32) (x4 : Int32) (x5 : Int32) (x6 : Int32) (x7 : Int32) (hf : f_X6_partOf_123 Ho_tons Ho_loads Vo_legSmoke Vo_firstLeg Vo_lastLeg kh53 x1 x2 x3 x4 x5 x6 x7 = some X) : ∀ (H : Heap) (locs : List Loc) (ls : Array Slot), va_P D vwCl (wX1 cy qHo Ho_tons Ho_worth Ho_apartBits Ho_loads Ho_room Ho_bestBits Ho_bestTons Ho_bestWorth ++ (wX6 cy qVo (qHo 0) Vo_legSmoke Vo_firstLeg Vo_lastLeg Vo_legs)) H → va_D A (wX1 cy qHo Ho_tons Ho_worth Ho_apartBits Ho_loads Ho_room Ho_bestBits Ho_bestTons Ho_bestWorth ++ (wX6 cy qVo (qHo 0) Vo_legSmoke Vo_firstLeg Vo_lastLeg Vo_legs)) → va_S A s.heap H locs → lv_has ls 9 [(0, .ref (qVo 0)), (1, .int x1), (2, .int x2), (3, .int x3), (4, .int x4), (5, .int x5), (6, .int x6), (7, .int x7)] → W p l e ({ frames := 2, cells := 0, slots := 0, locals := 45 } : Room) s m args below meth c H locs 0 0 (MQ below (va_Qi (fun (r : Int32) (_ : Unit) => r = X) (fun u t => BW D cy A (wX1 cy qHo Ho_tons Ho_worth Ho_apartBits Ho_loads Ho_room Ho_bestBits Ho_bestTons Ho_bestWorth ++ (wX6 cy qVo (qHo 0) Vo_legSmoke Vo_firstLeg Vo_lastLeg Vo_legs)) t) A) args s 0 0 A) (F0 m 123 ls []) := by
  obtain ⟨hx, hb, hr, hml, hown, hts, hK, hA, hN, hlocks⟩ := id C0
  intro H locs ls hP hD hS hl
  unfold f_X6_partOf_123 at hf
  refine lv_iinc (v := (x7 + 1)) (lv' := [(7, .int (x7 + 1)), (0, .ref (qVo 0)), (1, .int x1), (2, .int x2), (3, .int x3), (4, .int x4), (5, .int x5), (6, .int x6)]) hx hb dX6_partOf_123 hl (k := 7) rfl rfl (by decide) rfl (fun ls hl => ?_)
  refine lv_goto (tgt := 53) hx hb dX6_partOf_126 (by decide) ?_
  exact hk53 x1 x2 x3 x4 x5 x6 (x7 + 1) hf H locs ls hP hD hS (lv_sub hl [1, 2, 3, 4, 5, 6, 7, 0] rfl)

set_option maxHeartbeats 4000000 in
set_option maxRecDepth 100000 in
theorem w_X6_partOf_145 {p : Program} {l : Launch} {e : Env} {s : State} {m : MethodId} {args : Array Value} {below : List Frame} {meth : Method} {c : Code} {A : Nat → Prop} {D : va_G} {cy : Nat → ClassId} {qHo qVo : Nat → Nat} {Ho_tons Ho_worth Ho_apartBits : Nat → Int32} {Ho_loads Ho_room Ho_bestBits Ho_bestTons Ho_bestWorth : Int32} {Vo_legSmoke Vo_firstLeg Vo_lastLeg : Nat → Int32} {Vo_legs : Int32} {X : Int32}  (C0 : CX cX6_partOf 9 (some .int) RX6 wsX6_partOf D cy p s m args meth c A)   (t0 : Int32) (t1 : Int32) (hf : f_X6_partOf_145 Ho_tons Ho_loads Vo_legSmoke Vo_firstLeg Vo_lastLeg t0 t1 = some X) : ∀ (H : Heap) (locs : List Loc) (ls : Array Slot), va_P D vwCl (wX1 cy qHo Ho_tons Ho_worth Ho_apartBits Ho_loads Ho_room Ho_bestBits Ho_bestTons Ho_bestWorth ++ (wX6 cy qVo (qHo 0) Vo_legSmoke Vo_firstLeg Vo_lastLeg Vo_legs)) H → va_D A (wX1 cy qHo Ho_tons Ho_worth Ho_apartBits Ho_loads Ho_room Ho_bestBits Ho_bestTons Ho_bestWorth ++ (wX6 cy qVo (qHo 0) Vo_legSmoke Vo_firstLeg Vo_lastLeg Vo_legs)) → va_S A s.heap H locs → lv_has ls 9 [] → W p l e ({ frames := 2, cells := 0, slots := 0, locals := 45 } : Room) s m args below meth c H locs 0 0 (MQ below (va_Qi (fun (r : Int32) (_ : Unit) => r = X) (fun u t => BW D cy A (wX1 cy qHo Ho_tons Ho_worth Ho_apartBits Ho_loads Ho_room Ho_bestBits Ho_bestTons Ho_bestWorth ++ (wX6 cy qVo (qHo 0) Vo_legSmoke Vo_firstLeg Vo_lastLeg Vo_legs)) t) A) args s 0 0 A) (F0 m 145 ls [.int t1, .int t0]) := by
  obtain ⟨hx, hb, hr, hml, hown, hts, hK, hA, hN, hlocks⟩ := id C0
  intro H locs ls hP hD hS hl
  unfold f_X6_partOf_145 at hf
  refine lv_iadd hx hb dX6_partOf_145 ?_
  exact rq_i C0 () (Option.some.inj hf) hP hD hS dX6_partOf_146

set_option maxHeartbeats 4000000 in
set_option maxRecDepth 100000 in
theorem w_X6_partOf_53 {p : Program} {l : Launch} {e : Env} {s : State} {m : MethodId} {args : Array Value} {below : List Frame} {meth : Method} {c : Code} {A : Nat → Prop} {D : va_G} {cy : Nat → ClassId} {qHo qVo : Nat → Nat} {Ho_tons Ho_worth Ho_apartBits : Nat → Int32} {Ho_loads Ho_room Ho_bestBits Ho_bestTons Ho_bestWorth : Int32} {Vo_legSmoke Vo_firstLeg Vo_lastLeg : Nat → Int32} {Vo_legs : Int32} {X : Int32}  (C0 : CX cX6_partOf 9 (some .int) RX6 wsX6_partOf D cy p s m args meth c A)  : ∀ (n : Nat)  (x1 : Int32) (x2 : Int32) (x3 : Int32) (x4 : Int32) (x5 : Int32) (x6 : Int32) (x7 : Int32), g_X6_partOf_53 Ho_tons Ho_loads Vo_legSmoke Vo_firstLeg Vo_lastLeg n x1 x2 x3 x4 x5 x6 x7 = some X → ∀ (H : Heap) (locs : List Loc) (ls : Array Slot), va_P D vwCl (wX1 cy qHo Ho_tons Ho_worth Ho_apartBits Ho_loads Ho_room Ho_bestBits Ho_bestTons Ho_bestWorth ++ (wX6 cy qVo (qHo 0) Vo_legSmoke Vo_firstLeg Vo_lastLeg Vo_legs)) H → va_D A (wX1 cy qHo Ho_tons Ho_worth Ho_apartBits Ho_loads Ho_room Ho_bestBits Ho_bestTons Ho_bestWorth ++ (wX6 cy qVo (qHo 0) Vo_legSmoke Vo_firstLeg Vo_lastLeg Vo_legs)) → va_S A s.heap H locs → lv_has ls 9 [(0, .ref (qVo 0)), (1, .int x1), (2, .int x2), (3, .int x3), (4, .int x4), (5, .int x5), (6, .int x6), (7, .int x7)] → W p l e ({ frames := 2, cells := 0, slots := 0, locals := 45 } : Room) s m args below meth c H locs 0 0 (MQ below (va_Qi (fun (r : Int32) (_ : Unit) => r = X) (fun u t => BW D cy A (wX1 cy qHo Ho_tons Ho_worth Ho_apartBits Ho_loads Ho_room Ho_bestBits Ho_bestTons Ho_bestWorth ++ (wX6 cy qVo (qHo 0) Vo_legSmoke Vo_firstLeg Vo_lastLeg Vo_legs)) t) A) args s 0 0 A) (F0 m 53 ls []) := by
  obtain ⟨hx, hb, hr, hml, hown, hts, hK, hA, hN, hlocks⟩ := id C0
  intro n
  induction n with
  | zero => intro x1 x2 x3 x4 x5 x6 x7 hf; exact (no_some hf).elim
  | succ n hk53 =>
    intro x1 x2 x3 x4 x5 x6 x7 hf H locs ls hP hD hS hl
    have hf : f_X6_partOf_53 Ho_tons Ho_loads Vo_legSmoke Vo_firstLeg Vo_lastLeg (fun x1 x2 x3 x4 x5 x6 x7 => g_X6_partOf_53 Ho_tons Ho_loads Vo_legSmoke Vo_firstLeg Vo_lastLeg n x1 x2 x3 x4 x5 x6 x7) x1 x2 x3 x4 x5 x6 x7 = some X := hf
    unfold f_X6_partOf_53 at hf
    refine lv_iload hx hb dX6_partOf_53 (lv_at hl 7 rfl) ?_
    refine lv_aload_n hx hb dX6_partOf_55 rfl (lv_at hl 0 rfl) ?_
    refine va_get (D := D) (ci := 6) (v := .ref (qHo 0)) (C := RX6) (T := TX6) (N := 5) hx hb hts i_X6_partOf_X6 hown hK hP 4 rfl rfl 0 (by decide) (hts _ m_X6_partOf_f21) (fun _ h9 => h9) rfl dX6_partOf_56 ?_
    refine va_getN (D := D) (ci := 1) (v := .int Ho_loads) (C := RX1) (T := TX1) (N := 8) hx hb hts i_X6_partOf_X1 hown hK hP 0 rfl rfl 3 (by decide) (va_Nw.use rfl (hN _ nw_X6_52)) (fun _ h9 => h9) rfl dX6_partOf_59 ?_
    refine lv_icmp_ge (tgt := 129) hx hb dX6_partOf_62 (by decide) (fun hc1 => ?_) (fun hc1 => ?_)
    · have hf := ift hf hc1
      refine lv_iload hx hb dX6_partOf_129 (lv_at hl 4 rfl) ?_
      refine lv_iload_n hx hb dX6_partOf_131 rfl (lv_at hl 3 rfl) ?_
      obtain ⟨hz2, hf⟩ := ifz hf
      refine lv_idiv hx hb dX6_partOf_132 hz2 ?_
      refine lv_iload hx hb dX6_partOf_133 (lv_at hl 6 rfl) ?_
      refine lv_iload hx hb dX6_partOf_135 (lv_at hl 5 rfl) ?_
      refine lv_icmp_ge (tgt := 144) hx hb dX6_partOf_137 (by decide) (fun hc3 => ?_) (fun hc3 => ?_)
      · have hf := ift hf hc3
        refine lv_iconst (v := (0 : Int32)) hx hb dX6_partOf_144 (by decide) ?_
        exact w_X6_partOf_145 C0  (x4 / x3) (0 : Int32) hf H locs ls hP hD hS (lv_sub hl [] rfl)
      · have hf := iff_ hf hc3
        refine lv_iconst (v := (1 : Int32)) hx hb dX6_partOf_140 (by decide) ?_
        refine lv_goto (tgt := 145) hx hb dX6_partOf_141 (by decide) ?_
        exact w_X6_partOf_145 C0  (x4 / x3) (1 : Int32) hf H locs ls hP hD hS (lv_sub hl [] rfl)
    · have hf := iff_ hf hc1
      refine lv_aload_n hx hb dX6_partOf_65 rfl (lv_at hl 0 rfl) ?_
      refine lv_iload hx hb dX6_partOf_66 (lv_at hl 7 rfl) ?_
      refine lv_iload_n hx hb dX6_partOf_68 rfl (lv_at hl 2 rfl) ?_
      obtain ⟨u4, eu4, hf⟩ := Option.bind_eq_some_iff.mp hf
      refine cq_i (wc' := fun (u : Unit) => (wX6 cy qVo (qHo 0) Vo_legSmoke Vo_firstLeg Vo_lastLeg Vo_legs)) (ws' := fun (u : Unit) => (wX1 cy qHo Ho_tons Ho_worth Ho_apartBits Ho_loads Ho_room Ho_bestBits Ho_bestTons Ho_bestWorth ++ (wX6 cy qVo (qHo 0) Vo_legSmoke Vo_firstLeg Vo_lastLeg Vo_legs))) (wc := (wX6 cy qVo (qHo 0) Vo_legSmoke Vo_firstLeg Vo_lastLeg Vo_legs)) (wr := (wX1 cy qHo Ho_tons Ho_worth Ho_apartBits Ho_loads Ho_room Ho_bestBits Ho_bestTons Ho_bestWorth)) C0 hP hD hS [4, 5, 6, 7] [0, 1, 2, 3] [0, 1, 2, 3, 4, 5, 6, 7] rfl rfl (by decide) (by decide) (by decide) (fun _ => rfl) (va_runV (As := [.int x7, .int x2]) (rest := []) ⟨hx, hb, hml, hown, hts⟩ (c_X6_isAboard l D cy qVo qHo Vo_legSmoke Vo_firstLeg Vo_lastLeg Vo_legs H.size x7 x2 u4 eu4) (cwV 2 hts gX6_partOf_X6_isAboard rfl rfl rfl (by decide +kernel) ⟨Nat.le_of_ble_eq_true rfl, Nat.le_of_ble_eq_true rfl⟩) (pre_V (hP.sub (ws' := (wX6 cy qVo (qHo 0) Vo_legSmoke Vo_firstLeg Vo_lastLeg Vo_legs)) [4, 5, 6, 7] rfl) hK (hD.sub (ws' := (wX6 cy qVo (qHo 0) Vo_legSmoke Vo_firstLeg Vo_lastLeg Vo_legs)) [4, 5, 6, 7] (by decide) rfl) hN 6 0 rfl rfl) rfl rfl hl.1 rfl (lv_room (Nat.le_of_ble_eq_true rfl)) dX6_partOf_69 ⟨Nat.zero_le _, Nat.zero_le _⟩) (fun r u H locs hw hP hD hS => ?_)
      have hw := hw.symm
      subst hw
      have hP : va_P D vwCl (wX1 cy qHo Ho_tons Ho_worth Ho_apartBits Ho_loads Ho_room Ho_bestBits Ho_bestTons Ho_bestWorth ++ (wX6 cy qVo (qHo 0) Vo_legSmoke Vo_firstLeg Vo_lastLeg Vo_legs)) H := hP
      have hD : va_D A (wX1 cy qHo Ho_tons Ho_worth Ho_apartBits Ho_loads Ho_room Ho_bestBits Ho_bestTons Ho_bestWorth ++ (wX6 cy qVo (qHo 0) Vo_legSmoke Vo_firstLeg Vo_lastLeg Vo_legs)) := hD
      refine lv_if_eq (tgt := 123) hx hb dX6_partOf_72 (by decide) (fun hc5 => ?_) (fun hc5 => ?_)
      · have hf := ift hf hc5
        exact w_X6_partOf_123 C0 hk53 x1 x2 x3 x4 x5 x6 x7 hf H locs ls hP hD hS (lv_sub hl [0, 1, 2, 3, 4, 5, 6, 7] rfl)
      · have hf := iff_ hf hc5
        refine lv_aload_n hx hb dX6_partOf_75 rfl (lv_at hl 0 rfl) ?_
        refine va_get (D := D) (ci := 6) (v := .ref (qVo 1)) (C := RX6) (T := TX6) (N := 5) hx hb hts i_X6_partOf_X6 hown hK hP 4 rfl rfl 1 (by decide) (hts _ m_X6_partOf_f11) (fun _ h9 => h9) rfl dX6_partOf_76 ?_
        refine lv_iload_n hx hb dX6_partOf_79 rfl (lv_at hl 2 rfl) ?_
        obtain ⟨hz6, hf⟩ := ifn hf
        refine va_iald hx hb hK hP 5 0 rfl rfl (inb_in hz6) dX6_partOf_80 ?_
        refine lv_aload_n hx hb dX6_partOf_81 rfl (lv_at hl 0 rfl) ?_
        refine va_get (D := D) (ci := 6) (v := .ref (qHo 0)) (C := RX6) (T := TX6) (N := 5) hx hb hts i_X6_partOf_X6 hown hK hP 4 rfl rfl 0 (by decide) (hts _ m_X6_partOf_f21) (fun _ h9 => h9) rfl dX6_partOf_82 ?_
        refine va_getN (D := D) (ci := 1) (v := .ref (qHo 1)) (C := RX1) (T := TX1) (N := 8) hx hb hts i_X6_partOf_X1 hown hK hP 0 rfl rfl 0 (by decide) (va_Nw.use rfl (hN _ nw_X6_49)) (fun _ h9 => h9) rfl dX6_partOf_85 ?_
        refine lv_iload hx hb dX6_partOf_88 (lv_at hl 7 rfl) ?_
        obtain ⟨hz7, hf⟩ := ifn hf
        refine va_iald hx hb hK hP 1 0 rfl rfl (inb_in hz7) dX6_partOf_90 ?_
        refine lv_imul hx hb dX6_partOf_91 ?_
        refine lv_istore (lv' := [(8, .int ((Vo_legSmoke x2.toNatClampNeg) * (Ho_tons x7.toNatClampNeg))), (0, .ref (qVo 0)), (1, .int x1), (2, .int x2), (3, .int x3), (4, .int x4), (5, .int x5), (6, .int x6), (7, .int x7)]) hx hb dX6_partOf_92 hl (by decide) rfl (fun ls hl => ?_)
        refine lv_iload hx hb dX6_partOf_94 (lv_at hl 6 rfl) ?_
        refine lv_iload hx hb dX6_partOf_96 (lv_at hl 0 rfl) ?_
        refine lv_iload_n hx hb dX6_partOf_98 rfl (lv_at hl 4 rfl) ?_
        obtain ⟨hz8, hf⟩ := ifz hf
        refine lv_idiv hx hb dX6_partOf_99 hz8 ?_
        refine lv_isub hx hb dX6_partOf_100 ?_
        refine lv_istore (lv' := [(5, .int (x5 - (((Vo_legSmoke x2.toNatClampNeg) * (Ho_tons x7.toNatClampNeg)) / x3))), (8, .int ((Vo_legSmoke x2.toNatClampNeg) * (Ho_tons x7.toNatClampNeg))), (0, .ref (qVo 0)), (1, .int x1), (2, .int x2), (3, .int x3), (4, .int x4), (6, .int x6), (7, .int x7)]) hx hb dX6_partOf_101 hl (by decide) rfl (fun ls hl => ?_)
        refine lv_iload hx hb dX6_partOf_103 (lv_at hl 1 rfl) ?_
        refine lv_iload_n hx hb dX6_partOf_105 rfl (lv_at hl 5 rfl) ?_
        refine lv_irem hx hb dX6_partOf_106 hz8 ?_
        refine lv_iload hx hb dX6_partOf_107 (lv_at hl 8 rfl) ?_
        refine lv_iload hx hb dX6_partOf_109 (lv_at hl 6 rfl) ?_
        refine lv_iload_n hx hb dX6_partOf_111 rfl (lv_at hl 5 rfl) ?_
        refine lv_irem hx hb dX6_partOf_112 hz8 ?_
        refine lv_iload_n hx hb dX6_partOf_113 rfl (lv_at hl 3 rfl) ?_
        obtain ⟨u9, eu9, hf⟩ := Option.bind_eq_some_iff.mp hf
        refine cq_i (wc' := fun (u : Unit) => ([] : va_W)) (ws' := fun (u : Unit) => (wX1 cy qHo Ho_tons Ho_worth Ho_apartBits Ho_loads Ho_room Ho_bestBits Ho_bestTons Ho_bestWorth ++ (wX6 cy qVo (qHo 0) Vo_legSmoke Vo_firstLeg Vo_lastLeg Vo_legs))) (wc := ([] : va_W)) (wr := (wX1 cy qHo Ho_tons Ho_worth Ho_apartBits Ho_loads Ho_room Ho_bestBits Ho_bestTons Ho_bestWorth ++ (wX6 cy qVo (qHo 0) Vo_legSmoke Vo_firstLeg Vo_lastLeg Vo_legs))) C0 hP hD hS [] [0, 1, 2, 3, 4, 5, 6, 7] [0, 1, 2, 3, 4, 5, 6, 7] rfl rfl (by decide) (by decide) (by decide) (fun _ => rfl) (va_runS (As := [.int (((Vo_legSmoke x2.toNatClampNeg) * (Ho_tons x7.toNatClampNeg)) - ((Vo_legSmoke x2.toNatClampNeg) * (Ho_tons x7.toNatClampNeg)) / x3 * x3), .int x7, .int (x4 - x4 / x3 * x3), .int x1]) (rest := []) ⟨hx, hb, hml, hown, hts⟩ (c_X6_isServedFirst l D cy   H.size (((Vo_legSmoke x2.toNatClampNeg) * (Ho_tons x7.toNatClampNeg)) - ((Vo_legSmoke x2.toNatClampNeg) * (Ho_tons x7.toNatClampNeg)) / x3 * x3) x7 (x4 - x4 / x3 * x3) x1 u9 eu9) (va_cwS 4 hts gX6_partOf_X6_isServedFirst rfl rfl rfl (by decide +kernel) ⟨Nat.le_of_ble_eq_true rfl, Nat.le_of_ble_eq_true rfl⟩) (pre_S (hP.sub (ws' := ([] : va_W)) [] rfl) hK (hD.sub (ws' := ([] : va_W)) [] (by decide) rfl) hN) rfl rfl hl.1 rfl (lv_room (Nat.le_of_ble_eq_true rfl)) dX6_partOf_114 ⟨Nat.zero_le _, Nat.zero_le _⟩) (fun r u H locs hw hP hD hS => ?_)
        have hw := hw.symm
        subst hw
        have hP : va_P D vwCl (wX1 cy qHo Ho_tons Ho_worth Ho_apartBits Ho_loads Ho_room Ho_bestBits Ho_bestTons Ho_bestWorth ++ (wX6 cy qVo (qHo 0) Vo_legSmoke Vo_firstLeg Vo_lastLeg Vo_legs)) H := hP
        have hD : va_D A (wX1 cy qHo Ho_tons Ho_worth Ho_apartBits Ho_loads Ho_room Ho_bestBits Ho_bestTons Ho_bestWorth ++ (wX6 cy qVo (qHo 0) Vo_legSmoke Vo_firstLeg Vo_lastLeg Vo_legs)) := hD
        refine lv_if_eq (tgt := 123) hx hb dX6_partOf_117 (by decide) (fun hc10 => ?_) (fun hc10 => ?_)
        · have hf := ift hf hc10
          exact w_X6_partOf_123 C0 hk53 x1 x2 x3 x4 (x5 - (((Vo_legSmoke x2.toNatClampNeg) * (Ho_tons x7.toNatClampNeg)) / x3)) x6 x7 hf H locs ls hP hD hS (lv_sub hl [2, 3, 4, 5, 6, 0, 7, 8] rfl)
        · have hf := iff_ hf hc10
          refine lv_iinc (v := (x6 + 1)) (lv' := [(6, .int (x6 + 1)), (5, .int (x5 - (((Vo_legSmoke x2.toNatClampNeg) * (Ho_tons x7.toNatClampNeg)) / x3))), (8, .int ((Vo_legSmoke x2.toNatClampNeg) * (Ho_tons x7.toNatClampNeg))), (0, .ref (qVo 0)), (1, .int x1), (2, .int x2), (3, .int x3), (4, .int x4), (7, .int x7)]) hx hb dX6_partOf_120 hl (k := 7) rfl rfl (by decide) rfl (fun ls hl => ?_)
          exact w_X6_partOf_123 C0 hk53 x1 x2 x3 x4 (x5 - (((Vo_legSmoke x2.toNatClampNeg) * (Ho_tons x7.toNatClampNeg)) / x3)) (x6 + 1) x7 hf H locs ls hP hD hS (lv_sub hl [3, 4, 5, 6, 7, 1, 0, 8] rfl)

set_option maxHeartbeats 4000000 in
set_option maxRecDepth 100000 in
theorem c_X6_partOf (l : Launch) (D : va_G) (cy : Nat → ClassId) (qHo qVo : Nat → Nat) (Ho_tons : Nat → Int32) (Ho_worth : Nat → Int32) (Ho_apartBits : Nat → Int32) (Ho_loads : Int32) (Ho_room : Int32) (Ho_bestBits : Int32) (Ho_bestTons : Int32) (Ho_bestWorth : Int32) (Vo_legSmoke : Nat → Int32) (Vo_firstLeg : Nat → Int32) (Vo_lastLeg : Nat → Int32) (Vo_legs : Int32) (sz : Nat) (x1 : Int32) (x2 : Int32) (X : Int32) (hf : f_X6_partOf Ho_tons Ho_loads Vo_legSmoke Vo_firstLeg Vo_lastLeg x1 x2 = some X) : Met l yX6_partOf wsX6_partOf ({ frames := 2, cells := 0, slots := 0, locals := 45 } : Room) (va_Pc [.ref (qVo 0), .int x1, .int x2] (PW D cy (wX1 cy qHo Ho_tons Ho_worth Ho_apartBits Ho_loads Ho_room Ho_bestBits Ho_bestTons Ho_bestWorth ++ (wX6 cy qVo (qHo 0) Vo_legSmoke Vo_firstLeg Vo_lastLeg Vo_legs)) sz)) (va_Qi (fun (r : Int32) (_ : Unit) => r = X) (fun u t => BW D cy (va_A (wX1 cy qHo Ho_tons Ho_worth Ho_apartBits Ho_loads Ho_room Ho_bestBits Ho_bestTons Ho_bestWorth ++ (wX6 cy qVo (qHo 0) Vo_legSmoke Vo_firstLeg Vo_lastLeg Vo_legs)) sz) (wX1 cy qHo Ho_tons Ho_worth Ho_apartBits Ho_loads Ho_room Ho_bestBits Ho_bestTons Ho_bestWorth ++ (wX6 cy qVo (qHo 0) Vo_legSmoke Vo_firstLeg Vo_lastLeg Vo_legs)) t) (va_A (wX1 cy qHo Ho_tons Ho_worth Ho_apartBits Ho_loads Ho_room Ho_bestBits Ho_bestTons Ho_bestWorth ++ (wX6 cy qVo (qHo 0) Vo_legSmoke Vo_firstLeg Vo_lastLeg Vo_legs)) sz)) 0 0 (va_A (wX1 cy qHo Ho_tons Ho_worth Ho_apartBits Ho_loads Ho_room Ho_bestBits Ho_bestTons Ho_bestWorth ++ (wX6 cy qVo (qHo 0) Vo_legSmoke Vo_firstLeg Vo_lastLeg Vo_legs)) sz) := by
  refine met_enter (Qc := fun A => (va_Qi (fun (r : Int32) (_ : Unit) => r = X) (fun u t => BW D cy A (wX1 cy qHo Ho_tons Ho_worth Ho_apartBits Ho_loads Ho_room Ho_bestBits Ho_bestTons Ho_bestWorth ++ (wX6 cy qVo (qHo 0) Vo_legSmoke Vo_firstLeg Vo_lastLeg Vo_legs)) t) A)) (lv0 := [(0, .ref (qVo 0)), (1, .int x1), (2, .int x2)]) (by decide) rfl (Nat.le_of_ble_eq_true rfl) rfl ?_
  intro p e s m below meth c A ls hnm C0 hP hD hS hl
  generalize hH : s.heap = H at hP ⊢
  generalize hLoc : ([] : List Loc) = locs at hS ⊢
  have hS : va_S A s.heap H locs := by rw [← hH]; exact hS
  have C0 : CX cX6_partOf 9 (some .int) RX6 wsX6_partOf D cy p s m _ meth c A := C0
  obtain ⟨hx, hb, hr, hml, hown, hts, hK, hA, hN, hlocks⟩ := id C0
  unfold f_X6_partOf at hf
  refine lv_aload_n hx hb dX6_partOf_0 rfl (lv_at hl 0 rfl) ?_
  refine lv_iload_n hx hb dX6_partOf_1 rfl (lv_at hl 2 rfl) ?_
  obtain ⟨u11, eu11, hf⟩ := Option.bind_eq_some_iff.mp hf
  refine cq_i (wc' := fun (u : Unit) => (wX1 cy qHo Ho_tons Ho_worth Ho_apartBits Ho_loads Ho_room Ho_bestBits Ho_bestTons Ho_bestWorth ++ (wX6 cy qVo (qHo 0) Vo_legSmoke Vo_firstLeg Vo_lastLeg Vo_legs))) (ws' := fun (u : Unit) => (wX1 cy qHo Ho_tons Ho_worth Ho_apartBits Ho_loads Ho_room Ho_bestBits Ho_bestTons Ho_bestWorth ++ (wX6 cy qVo (qHo 0) Vo_legSmoke Vo_firstLeg Vo_lastLeg Vo_legs))) (wc := (wX1 cy qHo Ho_tons Ho_worth Ho_apartBits Ho_loads Ho_room Ho_bestBits Ho_bestTons Ho_bestWorth ++ (wX6 cy qVo (qHo 0) Vo_legSmoke Vo_firstLeg Vo_lastLeg Vo_legs))) (wr := ([] : va_W)) C0 hP hD hS [0, 1, 2, 3, 4, 5, 6, 7] [] [0, 1, 2, 3, 4, 5, 6, 7] rfl rfl (by decide) (by decide) (by decide) (fun _ => rfl) (va_runV (As := [.int x2]) (rest := []) ⟨hx, hb, hml, hown, hts⟩ (c_X6_tonsAboard l D cy qHo qVo Ho_tons Ho_worth Ho_apartBits Ho_loads Ho_room Ho_bestBits Ho_bestTons Ho_bestWorth Vo_legSmoke Vo_firstLeg Vo_lastLeg Vo_legs H.size x2 u11 eu11) (cwV 1 hts gX6_partOf_X6_tonsAboard rfl rfl rfl (by decide +kernel) ⟨Nat.le_of_ble_eq_true rfl, Nat.le_of_ble_eq_true rfl⟩) (pre_V (hP.sub (ws' := (wX1 cy qHo Ho_tons Ho_worth Ho_apartBits Ho_loads Ho_room Ho_bestBits Ho_bestTons Ho_bestWorth ++ (wX6 cy qVo (qHo 0) Vo_legSmoke Vo_firstLeg Vo_lastLeg Vo_legs))) [0, 1, 2, 3, 4, 5, 6, 7] rfl) hK (hD.sub (ws' := (wX1 cy qHo Ho_tons Ho_worth Ho_apartBits Ho_loads Ho_room Ho_bestBits Ho_bestTons Ho_bestWorth ++ (wX6 cy qVo (qHo 0) Vo_legSmoke Vo_firstLeg Vo_lastLeg Vo_legs))) [0, 1, 2, 3, 4, 5, 6, 7] (by decide) rfl) hN 6 4 rfl rfl) rfl rfl hl.1 rfl (lv_room (Nat.le_of_ble_eq_true rfl)) dX6_partOf_2 ⟨Nat.zero_le _, Nat.zero_le _⟩) (fun r u H locs hw hP hD hS => ?_)
  have hw := hw.symm
  subst hw
  have hP : va_P D vwCl (wX1 cy qHo Ho_tons Ho_worth Ho_apartBits Ho_loads Ho_room Ho_bestBits Ho_bestTons Ho_bestWorth ++ (wX6 cy qVo (qHo 0) Vo_legSmoke Vo_firstLeg Vo_lastLeg Vo_legs)) H := hP
  have hD : va_D A (wX1 cy qHo Ho_tons Ho_worth Ho_apartBits Ho_loads Ho_room Ho_bestBits Ho_bestTons Ho_bestWorth ++ (wX6 cy qVo (qHo 0) Vo_legSmoke Vo_firstLeg Vo_lastLeg Vo_legs)) := hD
  refine lv_istore_n (lv' := [(3, .int u11), (0, .ref (qVo 0)), (1, .int x1), (2, .int x2)]) hx hb dX6_partOf_5 rfl hl (by decide) rfl (fun ls hl => ?_)
  refine lv_iload_n hx hb dX6_partOf_6 rfl (lv_at hl 0 rfl) ?_
  refine lv_if_eq (tgt := 19) hx hb dX6_partOf_7 (by decide) (fun hc12 => ?_) (fun hc12 => ?_)
  · have hf := ift hf hc12
    refine lv_iconst (v := (0 : Int32)) hx hb dX6_partOf_19 (by decide) ?_
    exact rq_i C0 () (Option.some.inj hf) hP hD hS dX6_partOf_20
  · have hf := iff_ hf hc12
    refine lv_aload_n hx hb dX6_partOf_10 rfl (lv_at hl 1 rfl) ?_
    refine lv_iload_n hx hb dX6_partOf_11 rfl (lv_at hl 2 rfl) ?_
    refine lv_iload_n hx hb dX6_partOf_12 rfl (lv_at hl 3 rfl) ?_
    obtain ⟨u13, eu13, hf⟩ := Option.bind_eq_some_iff.mp hf
    refine cq_i (wc' := fun (u : Unit) => (wX6 cy qVo (qHo 0) Vo_legSmoke Vo_firstLeg Vo_lastLeg Vo_legs)) (ws' := fun (u : Unit) => (wX1 cy qHo Ho_tons Ho_worth Ho_apartBits Ho_loads Ho_room Ho_bestBits Ho_bestTons Ho_bestWorth ++ (wX6 cy qVo (qHo 0) Vo_legSmoke Vo_firstLeg Vo_lastLeg Vo_legs))) (wc := (wX6 cy qVo (qHo 0) Vo_legSmoke Vo_firstLeg Vo_lastLeg Vo_legs)) (wr := (wX1 cy qHo Ho_tons Ho_worth Ho_apartBits Ho_loads Ho_room Ho_bestBits Ho_bestTons Ho_bestWorth)) C0 hP hD hS [4, 5, 6, 7] [0, 1, 2, 3] [0, 1, 2, 3, 4, 5, 6, 7] rfl rfl (by decide) (by decide) (by decide) (fun _ => rfl) (va_runV (As := [.int x1, .int x2]) (rest := []) ⟨hx, hb, hml, hown, hts⟩ (c_X6_isAboard l D cy qVo qHo Vo_legSmoke Vo_firstLeg Vo_lastLeg Vo_legs H.size x1 x2 u13 eu13) (cwV 2 hts gX6_partOf_X6_isAboard rfl rfl rfl (by decide +kernel) ⟨Nat.le_of_ble_eq_true rfl, Nat.le_of_ble_eq_true rfl⟩) (pre_V (hP.sub (ws' := (wX6 cy qVo (qHo 0) Vo_legSmoke Vo_firstLeg Vo_lastLeg Vo_legs)) [4, 5, 6, 7] rfl) hK (hD.sub (ws' := (wX6 cy qVo (qHo 0) Vo_legSmoke Vo_firstLeg Vo_lastLeg Vo_legs)) [4, 5, 6, 7] (by decide) rfl) hN 6 0 rfl rfl) rfl rfl hl.1 rfl (lv_room (Nat.le_of_ble_eq_true rfl)) dX6_partOf_13 ⟨Nat.zero_le _, Nat.zero_le _⟩) (fun r u H locs hw hP hD hS => ?_)
    have hw := hw.symm
    subst hw
    have hP : va_P D vwCl (wX1 cy qHo Ho_tons Ho_worth Ho_apartBits Ho_loads Ho_room Ho_bestBits Ho_bestTons Ho_bestWorth ++ (wX6 cy qVo (qHo 0) Vo_legSmoke Vo_firstLeg Vo_lastLeg Vo_legs)) H := hP
    have hD : va_D A (wX1 cy qHo Ho_tons Ho_worth Ho_apartBits Ho_loads Ho_room Ho_bestBits Ho_bestTons Ho_bestWorth ++ (wX6 cy qVo (qHo 0) Vo_legSmoke Vo_firstLeg Vo_lastLeg Vo_legs)) := hD
    refine lv_if_ne (tgt := 21) hx hb dX6_partOf_16 (by decide) (fun hc14 => ?_) (fun hc14 => ?_)
    · have hf := iff_ hf hc14
      refine lv_aload_n hx hb dX6_partOf_21 rfl (lv_at hl 1 rfl) ?_
      refine va_get (D := D) (ci := 6) (v := .ref (qVo 1)) (C := RX6) (T := TX6) (N := 5) hx hb hts i_X6_partOf_X6 hown hK hP 4 rfl rfl 1 (by decide) (hts _ m_X6_partOf_f11) (fun _ h9 => h9) rfl dX6_partOf_22 ?_
      refine lv_iload_n hx hb dX6_partOf_25 rfl (lv_at hl 3 rfl) ?_
      obtain ⟨hz15, hf⟩ := ifn hf
      refine va_iald hx hb hK hP 5 0 rfl rfl (inb_in hz15) dX6_partOf_26 ?_
      refine lv_aload_n hx hb dX6_partOf_27 rfl (lv_at hl 1 rfl) ?_
      refine va_get (D := D) (ci := 6) (v := .ref (qHo 0)) (C := RX6) (T := TX6) (N := 5) hx hb hts i_X6_partOf_X6 hown hK hP 4 rfl rfl 0 (by decide) (hts _ m_X6_partOf_f21) (fun _ h9 => h9) rfl dX6_partOf_28 ?_
      refine va_getN (D := D) (ci := 1) (v := .ref (qHo 1)) (C := RX1) (T := TX1) (N := 8) hx hb hts i_X6_partOf_X1 hown hK hP 0 rfl rfl 0 (by decide) (va_Nw.use rfl (hN _ nw_X6_49)) (fun _ h9 => h9) rfl dX6_partOf_31 ?_
      refine lv_iload_n hx hb dX6_partOf_34 rfl (lv_at hl 2 rfl) ?_
      obtain ⟨hz16, hf⟩ := ifn hf
      refine va_iald hx hb hK hP 1 0 rfl rfl (inb_in hz16) dX6_partOf_35 ?_
      refine lv_imul hx hb dX6_partOf_36 ?_
      refine lv_istore (lv' := [(4, .int ((Vo_legSmoke x2.toNatClampNeg) * (Ho_tons x1.toNatClampNeg))), (3, .int u11), (0, .ref (qVo 0)), (1, .int x1), (2, .int x2)]) hx hb dX6_partOf_37 hl (by decide) rfl (fun ls hl => ?_)
      refine lv_aload_n hx hb dX6_partOf_39 rfl (lv_at hl 2 rfl) ?_
      refine va_get (D := D) (ci := 6) (v := .ref (qVo 1)) (C := RX6) (T := TX6) (N := 5) hx hb hts i_X6_partOf_X6 hown hK hP 4 rfl rfl 1 (by decide) (hts _ m_X6_partOf_f11) (fun _ h9 => h9) rfl dX6_partOf_40 ?_
      refine lv_iload_n hx hb dX6_partOf_43 rfl (lv_at hl 4 rfl) ?_
      refine va_iald hx hb hK hP 5 0 rfl rfl (inb_in hz15) dX6_partOf_44 ?_
      refine lv_istore (lv' := [(5, .int (Vo_legSmoke x2.toNatClampNeg)), (4, .int ((Vo_legSmoke x2.toNatClampNeg) * (Ho_tons x1.toNatClampNeg))), (3, .int u11), (0, .ref (qVo 0)), (1, .int x1), (2, .int x2)]) hx hb dX6_partOf_45 hl (by decide) rfl (fun ls hl => ?_)
      refine lv_iconst (v := (0 : Int32)) hx hb dX6_partOf_47 (by decide) ?_
      refine lv_istore (lv' := [(6, .int (0 : Int32)), (5, .int (Vo_legSmoke x2.toNatClampNeg)), (4, .int ((Vo_legSmoke x2.toNatClampNeg) * (Ho_tons x1.toNatClampNeg))), (3, .int u11), (0, .ref (qVo 0)), (1, .int x1), (2, .int x2)]) hx hb dX6_partOf_48 hl (by decide) rfl (fun ls hl => ?_)
      refine lv_iconst (v := (0 : Int32)) hx hb dX6_partOf_50 (by decide) ?_
      refine lv_istore (lv' := [(7, .int (0 : Int32)), (6, .int (0 : Int32)), (5, .int (Vo_legSmoke x2.toNatClampNeg)), (4, .int ((Vo_legSmoke x2.toNatClampNeg) * (Ho_tons x1.toNatClampNeg))), (3, .int u11), (0, .ref (qVo 0)), (1, .int x1), (2, .int x2)]) hx hb dX6_partOf_51 hl (by decide) rfl (fun ls hl => ?_)
      exact w_X6_partOf_53 C0  FU x1 x2 u11 ((Vo_legSmoke x2.toNatClampNeg) * (Ho_tons x1.toNatClampNeg)) (Vo_legSmoke x2.toNatClampNeg) (0 : Int32) (0 : Int32) hf H locs ls hP hD hS (lv_sub hl [5, 6, 7, 4, 3, 2, 1, 0] rfl)
    · have hf := ift hf hc14
      refine lv_iconst (v := (0 : Int32)) hx hb dX6_partOf_19 (by decide) ?_
      exact rq_i C0 () (Option.some.inj hf) hP hD hS dX6_partOf_20

theorem i_X6_smokeOf_X6 : ∀ w ∈ wsX60, w ∈ wsX6_smokeOf := by decide +kernel
theorem m_X6_smokeOf_f25 : Cond.fieldLink RX6 25 "SailCargo$Voyage" "legs" "I" ∈ wsX6_smokeOf := by decide +kernel
set_option maxHeartbeats 4000000 in
set_option maxRecDepth 100000 in
theorem w_X6_smokeOf_4 {p : Program} {l : Launch} {e : Env} {s : State} {m : MethodId} {args : Array Value} {below : List Frame} {meth : Method} {c : Code} {A : Nat → Prop} {D : va_G} {cy : Nat → ClassId} {qHo qVo : Nat → Nat} {Ho_tons Ho_worth Ho_apartBits : Nat → Int32} {Ho_loads Ho_room Ho_bestBits Ho_bestTons Ho_bestWorth : Int32} {Vo_legSmoke Vo_firstLeg Vo_lastLeg : Nat → Int32} {Vo_legs : Int32} {X : Int32}  (C0 : CX cX6_smokeOf 4 (some .int) RX6 wsX6_smokeOf D cy p s m args meth c A)  : ∀ (n : Nat)  (x1 : Int32) (x2 : Int32) (x3 : Int32), g_X6_smokeOf_4 Ho_tons Ho_loads Vo_legSmoke Vo_firstLeg Vo_lastLeg Vo_legs n x1 x2 x3 = some X → ∀ (H : Heap) (locs : List Loc) (ls : Array Slot), va_P D vwCl (wX1 cy qHo Ho_tons Ho_worth Ho_apartBits Ho_loads Ho_room Ho_bestBits Ho_bestTons Ho_bestWorth ++ (wX6 cy qVo (qHo 0) Vo_legSmoke Vo_firstLeg Vo_lastLeg Vo_legs)) H → va_D A (wX1 cy qHo Ho_tons Ho_worth Ho_apartBits Ho_loads Ho_room Ho_bestBits Ho_bestTons Ho_bestWorth ++ (wX6 cy qVo (qHo 0) Vo_legSmoke Vo_firstLeg Vo_lastLeg Vo_legs)) → va_S A s.heap H locs → lv_has ls 4 [(0, .ref (qVo 0)), (1, .int x1), (2, .int x2), (3, .int x3)] → W p l e ({ frames := 3, cells := 0, slots := 0, locals := 73 } : Room) s m args below meth c H locs 0 0 (MQ below (va_Qi (fun (r : Int32) (_ : Unit) => r = X) (fun u t => BW D cy A (wX1 cy qHo Ho_tons Ho_worth Ho_apartBits Ho_loads Ho_room Ho_bestBits Ho_bestTons Ho_bestWorth ++ (wX6 cy qVo (qHo 0) Vo_legSmoke Vo_firstLeg Vo_lastLeg Vo_legs)) t) A) args s 0 0 A) (F0 m 4 ls []) := by
  obtain ⟨hx, hb, hr, hml, hown, hts, hK, hA, hN, hlocks⟩ := id C0
  intro n
  induction n with
  | zero => intro x1 x2 x3 hf; exact (no_some hf).elim
  | succ n hk4 =>
    intro x1 x2 x3 hf H locs ls hP hD hS hl
    have hf : f_X6_smokeOf_4 Ho_tons Ho_loads Vo_legSmoke Vo_firstLeg Vo_lastLeg Vo_legs (fun x1 x2 x3 => g_X6_smokeOf_4 Ho_tons Ho_loads Vo_legSmoke Vo_firstLeg Vo_lastLeg Vo_legs n x1 x2 x3) x1 x2 x3 = some X := hf
    unfold f_X6_smokeOf_4 at hf
    refine lv_iload_n hx hb dX6_smokeOf_4 rfl (lv_at hl 3 rfl) ?_
    refine lv_aload_n hx hb dX6_smokeOf_5 rfl (lv_at hl 0 rfl) ?_
    refine va_get (D := D) (ci := 6) (v := .int Vo_legs) (C := RX6) (T := TX6) (N := 5) hx hb hts i_X6_smokeOf_X6 hown hK hP 4 rfl rfl 4 (by decide) (hts _ m_X6_smokeOf_f25) (fun _ h9 => h9) rfl dX6_smokeOf_6 ?_
    refine lv_icmp_ge (tgt := 27) hx hb dX6_smokeOf_9 (by decide) (fun hc1 => ?_) (fun hc1 => ?_)
    · have hf := ift hf hc1
      refine lv_iload_n hx hb dX6_smokeOf_27 rfl (lv_at hl 2 rfl) ?_
      exact rq_i C0 () (Option.some.inj hf) hP hD hS dX6_smokeOf_28
    · have hf := iff_ hf hc1
      refine lv_iload_n hx hb dX6_smokeOf_12 rfl (lv_at hl 2 rfl) ?_
      refine lv_aload_n hx hb dX6_smokeOf_13 rfl (lv_at hl 0 rfl) ?_
      refine lv_iload_n hx hb dX6_smokeOf_14 rfl (lv_at hl 1 rfl) ?_
      refine lv_iload_n hx hb dX6_smokeOf_15 rfl (lv_at hl 3 rfl) ?_
      obtain ⟨u2, eu2, hf⟩ := Option.bind_eq_some_iff.mp hf
      refine cq_i (wc' := fun (u : Unit) => (wX1 cy qHo Ho_tons Ho_worth Ho_apartBits Ho_loads Ho_room Ho_bestBits Ho_bestTons Ho_bestWorth ++ (wX6 cy qVo (qHo 0) Vo_legSmoke Vo_firstLeg Vo_lastLeg Vo_legs))) (ws' := fun (u : Unit) => (wX1 cy qHo Ho_tons Ho_worth Ho_apartBits Ho_loads Ho_room Ho_bestBits Ho_bestTons Ho_bestWorth ++ (wX6 cy qVo (qHo 0) Vo_legSmoke Vo_firstLeg Vo_lastLeg Vo_legs))) (wc := (wX1 cy qHo Ho_tons Ho_worth Ho_apartBits Ho_loads Ho_room Ho_bestBits Ho_bestTons Ho_bestWorth ++ (wX6 cy qVo (qHo 0) Vo_legSmoke Vo_firstLeg Vo_lastLeg Vo_legs))) (wr := ([] : va_W)) C0 hP hD hS [0, 1, 2, 3, 4, 5, 6, 7] [] [0, 1, 2, 3, 4, 5, 6, 7] rfl rfl (by decide) (by decide) (by decide) (fun _ => rfl) (va_runV (As := [.int x1, .int x3]) (rest := [.int x2]) ⟨hx, hb, hml, hown, hts⟩ (c_X6_partOf l D cy qHo qVo Ho_tons Ho_worth Ho_apartBits Ho_loads Ho_room Ho_bestBits Ho_bestTons Ho_bestWorth Vo_legSmoke Vo_firstLeg Vo_lastLeg Vo_legs H.size x1 x3 u2 eu2) (cwV 2 hts gX6_smokeOf_X6_partOf rfl rfl rfl (by decide +kernel) ⟨Nat.le_of_ble_eq_true rfl, Nat.le_of_ble_eq_true rfl⟩) (pre_V (hP.sub (ws' := (wX1 cy qHo Ho_tons Ho_worth Ho_apartBits Ho_loads Ho_room Ho_bestBits Ho_bestTons Ho_bestWorth ++ (wX6 cy qVo (qHo 0) Vo_legSmoke Vo_firstLeg Vo_lastLeg Vo_legs))) [0, 1, 2, 3, 4, 5, 6, 7] rfl) hK (hD.sub (ws' := (wX1 cy qHo Ho_tons Ho_worth Ho_apartBits Ho_loads Ho_room Ho_bestBits Ho_bestTons Ho_bestWorth ++ (wX6 cy qVo (qHo 0) Vo_legSmoke Vo_firstLeg Vo_lastLeg Vo_legs))) [0, 1, 2, 3, 4, 5, 6, 7] (by decide) rfl) hN 6 4 rfl rfl) rfl rfl hl.1 rfl (lv_room (Nat.le_of_ble_eq_true rfl)) dX6_smokeOf_16 ⟨Nat.zero_le _, Nat.zero_le _⟩) (fun r u H locs hw hP hD hS => ?_)
      have hw := hw.symm
      subst hw
      have hP : va_P D vwCl (wX1 cy qHo Ho_tons Ho_worth Ho_apartBits Ho_loads Ho_room Ho_bestBits Ho_bestTons Ho_bestWorth ++ (wX6 cy qVo (qHo 0) Vo_legSmoke Vo_firstLeg Vo_lastLeg Vo_legs)) H := hP
      have hD : va_D A (wX1 cy qHo Ho_tons Ho_worth Ho_apartBits Ho_loads Ho_room Ho_bestBits Ho_bestTons Ho_bestWorth ++ (wX6 cy qVo (qHo 0) Vo_legSmoke Vo_firstLeg Vo_lastLeg Vo_legs)) := hD
      refine lv_iadd hx hb dX6_smokeOf_19 ?_
      refine lv_istore_n (lv' := [(2, .int (x2 + u2)), (0, .ref (qVo 0)), (1, .int x1), (3, .int x3)]) hx hb dX6_smokeOf_20 rfl hl (by decide) rfl (fun ls hl => ?_)
      refine lv_iinc (v := (x3 + 1)) (lv' := [(3, .int (x3 + 1)), (2, .int (x2 + u2)), (0, .ref (qVo 0)), (1, .int x1)]) hx hb dX6_smokeOf_21 hl (k := 3) rfl rfl (by decide) rfl (fun ls hl => ?_)
      refine lv_goto (tgt := 4) hx hb dX6_smokeOf_24 (by decide) ?_
      exact hk4 x1 (x2 + u2) (x3 + 1) hf H locs ls hP hD hS (lv_sub hl [2, 3, 1, 0] rfl)

set_option maxHeartbeats 4000000 in
set_option maxRecDepth 100000 in
theorem c_X6_smokeOf (l : Launch) (D : va_G) (cy : Nat → ClassId) (qHo qVo : Nat → Nat) (Ho_tons : Nat → Int32) (Ho_worth : Nat → Int32) (Ho_apartBits : Nat → Int32) (Ho_loads : Int32) (Ho_room : Int32) (Ho_bestBits : Int32) (Ho_bestTons : Int32) (Ho_bestWorth : Int32) (Vo_legSmoke : Nat → Int32) (Vo_firstLeg : Nat → Int32) (Vo_lastLeg : Nat → Int32) (Vo_legs : Int32) (sz : Nat) (x1 : Int32) (X : Int32) (hf : f_X6_smokeOf Ho_tons Ho_loads Vo_legSmoke Vo_firstLeg Vo_lastLeg Vo_legs x1 = some X) : Met l yX6_smokeOf wsX6_smokeOf ({ frames := 3, cells := 0, slots := 0, locals := 73 } : Room) (va_Pc [.ref (qVo 0), .int x1] (PW D cy (wX1 cy qHo Ho_tons Ho_worth Ho_apartBits Ho_loads Ho_room Ho_bestBits Ho_bestTons Ho_bestWorth ++ (wX6 cy qVo (qHo 0) Vo_legSmoke Vo_firstLeg Vo_lastLeg Vo_legs)) sz)) (va_Qi (fun (r : Int32) (_ : Unit) => r = X) (fun u t => BW D cy (va_A (wX1 cy qHo Ho_tons Ho_worth Ho_apartBits Ho_loads Ho_room Ho_bestBits Ho_bestTons Ho_bestWorth ++ (wX6 cy qVo (qHo 0) Vo_legSmoke Vo_firstLeg Vo_lastLeg Vo_legs)) sz) (wX1 cy qHo Ho_tons Ho_worth Ho_apartBits Ho_loads Ho_room Ho_bestBits Ho_bestTons Ho_bestWorth ++ (wX6 cy qVo (qHo 0) Vo_legSmoke Vo_firstLeg Vo_lastLeg Vo_legs)) t) (va_A (wX1 cy qHo Ho_tons Ho_worth Ho_apartBits Ho_loads Ho_room Ho_bestBits Ho_bestTons Ho_bestWorth ++ (wX6 cy qVo (qHo 0) Vo_legSmoke Vo_firstLeg Vo_lastLeg Vo_legs)) sz)) 0 0 (va_A (wX1 cy qHo Ho_tons Ho_worth Ho_apartBits Ho_loads Ho_room Ho_bestBits Ho_bestTons Ho_bestWorth ++ (wX6 cy qVo (qHo 0) Vo_legSmoke Vo_firstLeg Vo_lastLeg Vo_legs)) sz) := by
  refine met_enter (Qc := fun A => (va_Qi (fun (r : Int32) (_ : Unit) => r = X) (fun u t => BW D cy A (wX1 cy qHo Ho_tons Ho_worth Ho_apartBits Ho_loads Ho_room Ho_bestBits Ho_bestTons Ho_bestWorth ++ (wX6 cy qVo (qHo 0) Vo_legSmoke Vo_firstLeg Vo_lastLeg Vo_legs)) t) A)) (lv0 := [(0, .ref (qVo 0)), (1, .int x1)]) (by decide) rfl (Nat.le_of_ble_eq_true rfl) rfl ?_
  intro p e s m below meth c A ls hnm C0 hP hD hS hl
  generalize hH : s.heap = H at hP ⊢
  generalize hLoc : ([] : List Loc) = locs at hS ⊢
  have hS : va_S A s.heap H locs := by rw [← hH]; exact hS
  have C0 : CX cX6_smokeOf 4 (some .int) RX6 wsX6_smokeOf D cy p s m _ meth c A := C0
  obtain ⟨hx, hb, hr, hml, hown, hts, hK, hA, hN, hlocks⟩ := id C0
  unfold f_X6_smokeOf at hf
  refine lv_iconst (v := (0 : Int32)) hx hb dX6_smokeOf_0 (by decide) ?_
  refine lv_istore_n (lv' := [(2, .int (0 : Int32)), (0, .ref (qVo 0)), (1, .int x1)]) hx hb dX6_smokeOf_1 rfl hl (by decide) rfl (fun ls hl => ?_)
  refine lv_iconst (v := (0 : Int32)) hx hb dX6_smokeOf_2 (by decide) ?_
  refine lv_istore_n (lv' := [(3, .int (0 : Int32)), (2, .int (0 : Int32)), (0, .ref (qVo 0)), (1, .int x1)]) hx hb dX6_smokeOf_3 rfl hl (by decide) rfl (fun ls hl => ?_)
  exact w_X6_smokeOf_4 C0  FU x1 (0 : Int32) (0 : Int32) hf H locs ls hP hD hS (lv_sub hl [2, 3, 1, 0] rfl)

theorem i_X6_ownSmoke_X6 : ∀ w ∈ wsX60, w ∈ wsX6_ownSmoke := by decide +kernel
theorem m_X6_ownSmoke_f25 : Cond.fieldLink RX6 25 "SailCargo$Voyage" "legs" "I" ∈ wsX6_ownSmoke := by decide +kernel
theorem m_X6_ownSmoke_f11 : Cond.fieldLink RX6 11 "SailCargo$Voyage" "legSmoke" "[I" ∈ wsX6_ownSmoke := by decide +kernel
set_option maxHeartbeats 4000000 in
set_option maxRecDepth 100000 in
theorem w_X6_ownSmoke_29 {p : Program} {l : Launch} {e : Env} {s : State} {m : MethodId} {args : Array Value} {below : List Frame} {meth : Method} {c : Code} {A : Nat → Prop} {D : va_G} {cy : Nat → ClassId} {qHo qVo : Nat → Nat} {Ho_tons Ho_worth Ho_apartBits : Nat → Int32} {Ho_loads Ho_room Ho_bestBits Ho_bestTons Ho_bestWorth : Int32} {Vo_legSmoke Vo_firstLeg Vo_lastLeg : Nat → Int32} {Vo_legs : Int32} {X : Int32} {kh4 : Int32 → Int32 → Option (Int32)} (C0 : CX cX6_ownSmoke 3 (some .int) RX6 wsX6_ownSmoke D cy p s m args meth c A) (hk4 : ∀  (x1 : Int32) (x2 : Int32), kh4 x1 x2 = some X → ∀ (H : Heap) (locs : List Loc) (ls : Array Slot), va_P D vwCl (wX1 cy qHo Ho_tons Ho_worth Ho_apartBits Ho_loads Ho_room Ho_bestBits Ho_bestTons Ho_bestWorth ++ (wX6 cy qVo (qHo 0) Vo_legSmoke Vo_firstLeg Vo_lastLeg Vo_legs)) H → va_D A (wX1 cy qHo Ho_tons Ho_worth Ho_apartBits Ho_loads Ho_room Ho_bestBits Ho_bestTons Ho_bestWorth ++ (wX6 cy qVo (qHo 0) Vo_legSmoke Vo_firstLeg Vo_lastLeg Vo_legs)) → va_S A s.heap H locs → lv_has ls 3 [(0, .ref (qVo 0)), (1, .int x1), (2, .int x2)] → W p l e ({ frames := 2, cells := 0, slots := 0, locals := 45 } : Room) s m args below meth c H locs 0 0 (MQ below (va_Qi (fun (r : Int32) (_ : Unit) => r = X) (fun u t => BW D cy A (wX1 cy qHo Ho_tons Ho_worth Ho_apartBits Ho_loads Ho_room Ho_bestBits Ho_bestTons Ho_bestWorth ++ (wX6 cy qVo (qHo 0) Vo_legSmoke Vo_firstLeg Vo_lastLeg Vo_legs)) t) A) args s 0 0 A) (F0 m 4 ls []))  (x1 : Int32) (x2 : Int32) (hf : f_X6_ownSmoke_29 Ho_tons Ho_loads Vo_legSmoke Vo_firstLeg Vo_lastLeg Vo_legs kh4 x1 x2 = some X) : ∀ (H : Heap) (locs : List Loc) (ls : Array Slot), va_P D vwCl (wX1 cy qHo Ho_tons Ho_worth Ho_apartBits Ho_loads Ho_room Ho_bestBits Ho_bestTons Ho_bestWorth ++ (wX6 cy qVo (qHo 0) Vo_legSmoke Vo_firstLeg Vo_lastLeg Vo_legs)) H → va_D A (wX1 cy qHo Ho_tons Ho_worth Ho_apartBits Ho_loads Ho_room Ho_bestBits Ho_bestTons Ho_bestWorth ++ (wX6 cy qVo (qHo 0) Vo_legSmoke Vo_firstLeg Vo_lastLeg Vo_legs)) → va_S A s.heap H locs → lv_has ls 3 [(0, .ref (qVo 0)), (1, .int x1), (2, .int x2)] → W p l e ({ frames := 2, cells := 0, slots := 0, locals := 45 } : Room) s m args below meth c H locs 0 0 (MQ below (va_Qi (fun (r : Int32) (_ : Unit) => r = X) (fun u t => BW D cy A (wX1 cy qHo Ho_tons Ho_worth Ho_apartBits Ho_loads Ho_room Ho_bestBits Ho_bestTons Ho_bestWorth ++ (wX6 cy qVo (qHo 0) Vo_legSmoke Vo_firstLeg Vo_lastLeg Vo_legs)) t) A) args s 0 0 A) (F0 m 29 ls []) := by
  obtain ⟨hx, hb, hr, hml, hown, hts, hK, hA, hN, hlocks⟩ := id C0
  intro H locs ls hP hD hS hl
  unfold f_X6_ownSmoke_29 at hf
  refine lv_iinc (v := (x2 + 1)) (lv' := [(2, .int (x2 + 1)), (0, .ref (qVo 0)), (1, .int x1)]) hx hb dX6_ownSmoke_29 hl (k := 2) rfl rfl (by decide) rfl (fun ls hl => ?_)
  refine lv_goto (tgt := 4) hx hb dX6_ownSmoke_32 (by decide) ?_
  exact hk4 x1 (x2 + 1) hf H locs ls hP hD hS (lv_sub hl [1, 2, 0] rfl)

set_option maxHeartbeats 4000000 in
set_option maxRecDepth 100000 in
theorem w_X6_ownSmoke_4 {p : Program} {l : Launch} {e : Env} {s : State} {m : MethodId} {args : Array Value} {below : List Frame} {meth : Method} {c : Code} {A : Nat → Prop} {D : va_G} {cy : Nat → ClassId} {qHo qVo : Nat → Nat} {Ho_tons Ho_worth Ho_apartBits : Nat → Int32} {Ho_loads Ho_room Ho_bestBits Ho_bestTons Ho_bestWorth : Int32} {Vo_legSmoke Vo_firstLeg Vo_lastLeg : Nat → Int32} {Vo_legs : Int32} {X : Int32}  (C0 : CX cX6_ownSmoke 3 (some .int) RX6 wsX6_ownSmoke D cy p s m args meth c A)  : ∀ (n : Nat)  (x1 : Int32) (x2 : Int32), g_X6_ownSmoke_4 Ho_tons Ho_loads Vo_legSmoke Vo_firstLeg Vo_lastLeg Vo_legs n x1 x2 = some X → ∀ (H : Heap) (locs : List Loc) (ls : Array Slot), va_P D vwCl (wX1 cy qHo Ho_tons Ho_worth Ho_apartBits Ho_loads Ho_room Ho_bestBits Ho_bestTons Ho_bestWorth ++ (wX6 cy qVo (qHo 0) Vo_legSmoke Vo_firstLeg Vo_lastLeg Vo_legs)) H → va_D A (wX1 cy qHo Ho_tons Ho_worth Ho_apartBits Ho_loads Ho_room Ho_bestBits Ho_bestTons Ho_bestWorth ++ (wX6 cy qVo (qHo 0) Vo_legSmoke Vo_firstLeg Vo_lastLeg Vo_legs)) → va_S A s.heap H locs → lv_has ls 3 [(0, .ref (qVo 0)), (1, .int x1), (2, .int x2)] → W p l e ({ frames := 2, cells := 0, slots := 0, locals := 45 } : Room) s m args below meth c H locs 0 0 (MQ below (va_Qi (fun (r : Int32) (_ : Unit) => r = X) (fun u t => BW D cy A (wX1 cy qHo Ho_tons Ho_worth Ho_apartBits Ho_loads Ho_room Ho_bestBits Ho_bestTons Ho_bestWorth ++ (wX6 cy qVo (qHo 0) Vo_legSmoke Vo_firstLeg Vo_lastLeg Vo_legs)) t) A) args s 0 0 A) (F0 m 4 ls []) := by
  obtain ⟨hx, hb, hr, hml, hown, hts, hK, hA, hN, hlocks⟩ := id C0
  intro n
  induction n with
  | zero => intro x1 x2 hf; exact (no_some hf).elim
  | succ n hk4 =>
    intro x1 x2 hf H locs ls hP hD hS hl
    have hf : f_X6_ownSmoke_4 Ho_tons Ho_loads Vo_legSmoke Vo_firstLeg Vo_lastLeg Vo_legs (fun x1 x2 => g_X6_ownSmoke_4 Ho_tons Ho_loads Vo_legSmoke Vo_firstLeg Vo_lastLeg Vo_legs n x1 x2) x1 x2 = some X := hf
    unfold f_X6_ownSmoke_4 at hf
    refine lv_iload_n hx hb dX6_ownSmoke_4 rfl (lv_at hl 2 rfl) ?_
    refine lv_aload_n hx hb dX6_ownSmoke_5 rfl (lv_at hl 0 rfl) ?_
    refine va_get (D := D) (ci := 6) (v := .int Vo_legs) (C := RX6) (T := TX6) (N := 5) hx hb hts i_X6_ownSmoke_X6 hown hK hP 4 rfl rfl 4 (by decide) (hts _ m_X6_ownSmoke_f25) (fun _ h9 => h9) rfl dX6_ownSmoke_6 ?_
    refine lv_icmp_ge (tgt := 35) hx hb dX6_ownSmoke_9 (by decide) (fun hc1 => ?_) (fun hc1 => ?_)
    · have hf := ift hf hc1
      refine lv_iload_n hx hb dX6_ownSmoke_35 rfl (lv_at hl 1 rfl) ?_
      exact rq_i C0 () (Option.some.inj hf) hP hD hS dX6_ownSmoke_36
    · have hf := iff_ hf hc1
      refine lv_aload_n hx hb dX6_ownSmoke_12 rfl (lv_at hl 0 rfl) ?_
      refine lv_iload_n hx hb dX6_ownSmoke_13 rfl (lv_at hl 2 rfl) ?_
      obtain ⟨u2, eu2, hf⟩ := Option.bind_eq_some_iff.mp hf
      refine cq_i (wc' := fun (u : Unit) => (wX1 cy qHo Ho_tons Ho_worth Ho_apartBits Ho_loads Ho_room Ho_bestBits Ho_bestTons Ho_bestWorth ++ (wX6 cy qVo (qHo 0) Vo_legSmoke Vo_firstLeg Vo_lastLeg Vo_legs))) (ws' := fun (u : Unit) => (wX1 cy qHo Ho_tons Ho_worth Ho_apartBits Ho_loads Ho_room Ho_bestBits Ho_bestTons Ho_bestWorth ++ (wX6 cy qVo (qHo 0) Vo_legSmoke Vo_firstLeg Vo_lastLeg Vo_legs))) (wc := (wX1 cy qHo Ho_tons Ho_worth Ho_apartBits Ho_loads Ho_room Ho_bestBits Ho_bestTons Ho_bestWorth ++ (wX6 cy qVo (qHo 0) Vo_legSmoke Vo_firstLeg Vo_lastLeg Vo_legs))) (wr := ([] : va_W)) C0 hP hD hS [0, 1, 2, 3, 4, 5, 6, 7] [] [0, 1, 2, 3, 4, 5, 6, 7] rfl rfl (by decide) (by decide) (by decide) (fun _ => rfl) (va_runV (As := [.int x2]) (rest := []) ⟨hx, hb, hml, hown, hts⟩ (c_X6_tonsAboard l D cy qHo qVo Ho_tons Ho_worth Ho_apartBits Ho_loads Ho_room Ho_bestBits Ho_bestTons Ho_bestWorth Vo_legSmoke Vo_firstLeg Vo_lastLeg Vo_legs H.size x2 u2 eu2) (cwV 1 hts gX6_ownSmoke_X6_tonsAboard rfl rfl rfl (by decide +kernel) ⟨Nat.le_of_ble_eq_true rfl, Nat.le_of_ble_eq_true rfl⟩) (pre_V (hP.sub (ws' := (wX1 cy qHo Ho_tons Ho_worth Ho_apartBits Ho_loads Ho_room Ho_bestBits Ho_bestTons Ho_bestWorth ++ (wX6 cy qVo (qHo 0) Vo_legSmoke Vo_firstLeg Vo_lastLeg Vo_legs))) [0, 1, 2, 3, 4, 5, 6, 7] rfl) hK (hD.sub (ws' := (wX1 cy qHo Ho_tons Ho_worth Ho_apartBits Ho_loads Ho_room Ho_bestBits Ho_bestTons Ho_bestWorth ++ (wX6 cy qVo (qHo 0) Vo_legSmoke Vo_firstLeg Vo_lastLeg Vo_legs))) [0, 1, 2, 3, 4, 5, 6, 7] (by decide) rfl) hN 6 4 rfl rfl) rfl rfl hl.1 rfl (lv_room (Nat.le_of_ble_eq_true rfl)) dX6_ownSmoke_14 ⟨Nat.zero_le _, Nat.zero_le _⟩) (fun r u H locs hw hP hD hS => ?_)
      have hw := hw.symm
      subst hw
      have hP : va_P D vwCl (wX1 cy qHo Ho_tons Ho_worth Ho_apartBits Ho_loads Ho_room Ho_bestBits Ho_bestTons Ho_bestWorth ++ (wX6 cy qVo (qHo 0) Vo_legSmoke Vo_firstLeg Vo_lastLeg Vo_legs)) H := hP
      have hD : va_D A (wX1 cy qHo Ho_tons Ho_worth Ho_apartBits Ho_loads Ho_room Ho_bestBits Ho_bestTons Ho_bestWorth ++ (wX6 cy qVo (qHo 0) Vo_legSmoke Vo_firstLeg Vo_lastLeg Vo_legs)) := hD
      refine lv_if_ne (tgt := 29) hx hb dX6_ownSmoke_17 (by decide) (fun hc3 => ?_) (fun hc3 => ?_)
      · have hf := iff_ hf hc3
        exact w_X6_ownSmoke_29 C0 hk4 x1 x2 hf H locs ls hP hD hS (lv_sub hl [0, 1, 2] rfl)
      · have hf := ift hf hc3
        refine lv_iload_n hx hb dX6_ownSmoke_20 rfl (lv_at hl 1 rfl) ?_
        refine lv_aload_n hx hb dX6_ownSmoke_21 rfl (lv_at hl 0 rfl) ?_
        refine va_get (D := D) (ci := 6) (v := .ref (qVo 1)) (C := RX6) (T := TX6) (N := 5) hx hb hts i_X6_ownSmoke_X6 hown hK hP 4 rfl rfl 1 (by decide) (hts _ m_X6_ownSmoke_f11) (fun _ h9 => h9) rfl dX6_ownSmoke_22 ?_
        refine lv_iload_n hx hb dX6_ownSmoke_25 rfl (lv_at hl 2 rfl) ?_
        obtain ⟨hz4, hf⟩ := ifn hf
        refine va_iald hx hb hK hP 5 0 rfl rfl (inb_in hz4) dX6_ownSmoke_26 ?_
        refine lv_iadd hx hb dX6_ownSmoke_27 ?_
        refine lv_istore_n (lv' := [(1, .int (x1 + (Vo_legSmoke x2.toNatClampNeg))), (0, .ref (qVo 0)), (2, .int x2)]) hx hb dX6_ownSmoke_28 rfl hl (by decide) rfl (fun ls hl => ?_)
        exact w_X6_ownSmoke_29 C0 hk4 (x1 + (Vo_legSmoke x2.toNatClampNeg)) x2 hf H locs ls hP hD hS (lv_sub hl [1, 0, 2] rfl)

set_option maxHeartbeats 4000000 in
set_option maxRecDepth 100000 in
theorem c_X6_ownSmoke (l : Launch) (D : va_G) (cy : Nat → ClassId) (qHo qVo : Nat → Nat) (Ho_tons : Nat → Int32) (Ho_worth : Nat → Int32) (Ho_apartBits : Nat → Int32) (Ho_loads : Int32) (Ho_room : Int32) (Ho_bestBits : Int32) (Ho_bestTons : Int32) (Ho_bestWorth : Int32) (Vo_legSmoke : Nat → Int32) (Vo_firstLeg : Nat → Int32) (Vo_lastLeg : Nat → Int32) (Vo_legs : Int32) (sz : Nat)  (X : Int32) (hf : f_X6_ownSmoke Ho_tons Ho_loads Vo_legSmoke Vo_firstLeg Vo_lastLeg Vo_legs = some X) : Met l yX6_ownSmoke wsX6_ownSmoke ({ frames := 2, cells := 0, slots := 0, locals := 45 } : Room) (va_Pc [.ref (qVo 0)] (PW D cy (wX1 cy qHo Ho_tons Ho_worth Ho_apartBits Ho_loads Ho_room Ho_bestBits Ho_bestTons Ho_bestWorth ++ (wX6 cy qVo (qHo 0) Vo_legSmoke Vo_firstLeg Vo_lastLeg Vo_legs)) sz)) (va_Qi (fun (r : Int32) (_ : Unit) => r = X) (fun u t => BW D cy (va_A (wX1 cy qHo Ho_tons Ho_worth Ho_apartBits Ho_loads Ho_room Ho_bestBits Ho_bestTons Ho_bestWorth ++ (wX6 cy qVo (qHo 0) Vo_legSmoke Vo_firstLeg Vo_lastLeg Vo_legs)) sz) (wX1 cy qHo Ho_tons Ho_worth Ho_apartBits Ho_loads Ho_room Ho_bestBits Ho_bestTons Ho_bestWorth ++ (wX6 cy qVo (qHo 0) Vo_legSmoke Vo_firstLeg Vo_lastLeg Vo_legs)) t) (va_A (wX1 cy qHo Ho_tons Ho_worth Ho_apartBits Ho_loads Ho_room Ho_bestBits Ho_bestTons Ho_bestWorth ++ (wX6 cy qVo (qHo 0) Vo_legSmoke Vo_firstLeg Vo_lastLeg Vo_legs)) sz)) 0 0 (va_A (wX1 cy qHo Ho_tons Ho_worth Ho_apartBits Ho_loads Ho_room Ho_bestBits Ho_bestTons Ho_bestWorth ++ (wX6 cy qVo (qHo 0) Vo_legSmoke Vo_firstLeg Vo_lastLeg Vo_legs)) sz) := by
  refine met_enter (Qc := fun A => (va_Qi (fun (r : Int32) (_ : Unit) => r = X) (fun u t => BW D cy A (wX1 cy qHo Ho_tons Ho_worth Ho_apartBits Ho_loads Ho_room Ho_bestBits Ho_bestTons Ho_bestWorth ++ (wX6 cy qVo (qHo 0) Vo_legSmoke Vo_firstLeg Vo_lastLeg Vo_legs)) t) A)) (lv0 := [(0, .ref (qVo 0))]) (by decide) rfl (Nat.le_of_ble_eq_true rfl) rfl ?_
  intro p e s m below meth c A ls hnm C0 hP hD hS hl
  generalize hH : s.heap = H at hP ⊢
  generalize hLoc : ([] : List Loc) = locs at hS ⊢
  have hS : va_S A s.heap H locs := by rw [← hH]; exact hS
  have C0 : CX cX6_ownSmoke 3 (some .int) RX6 wsX6_ownSmoke D cy p s m _ meth c A := C0
  obtain ⟨hx, hb, hr, hml, hown, hts, hK, hA, hN, hlocks⟩ := id C0
  unfold f_X6_ownSmoke at hf
  refine lv_iconst (v := (0 : Int32)) hx hb dX6_ownSmoke_0 (by decide) ?_
  refine lv_istore_n (lv' := [(1, .int (0 : Int32)), (0, .ref (qVo 0))]) hx hb dX6_ownSmoke_1 rfl hl (by decide) rfl (fun ls hl => ?_)
  refine lv_iconst (v := (0 : Int32)) hx hb dX6_ownSmoke_2 (by decide) ?_
  refine lv_istore_n (lv' := [(2, .int (0 : Int32)), (1, .int (0 : Int32)), (0, .ref (qVo 0))]) hx hb dX6_ownSmoke_3 rfl hl (by decide) rfl (fun ls hl => ?_)
  exact w_X6_ownSmoke_4 C0  FU (0 : Int32) (0 : Int32) hf H locs ls hP hD hS (lv_sub hl [2, 1, 0] rfl)

theorem m_X7_isWeight_s_X8_isWithin : Cond.static yX8_isWithin ∈ wsX7_isWeight := by decide +kernel
theorem m_X7_isWeight_i_X8 : Cond.initialized RX8 ∈ wsX7_isWeight := by decide +kernel
set_option maxHeartbeats 4000000 in
set_option maxRecDepth 100000 in
theorem c_X7_isWeight (l : Launch) (D : va_G) (cy : Nat → ClassId)   (sz : Nat) (x0 : Int32) (X : Int32) (hf : f_X7_isWeight x0 = some X) : Met l yX7_isWeight wsX7_isWeight ({ frames := 1, cells := 0, slots := 0, locals := 22 } : Room) (va_Pc [.int x0] (PW D cy ([] : va_W) sz)) (va_Qi (fun (r : Int32) (_ : Unit) => r = X) (fun u t => BW D cy (va_A ([] : va_W) sz) ([] : va_W) t) (va_A ([] : va_W) sz)) 0 0 (va_A ([] : va_W) sz) := by
  refine met_enter (Qc := fun A => (va_Qi (fun (r : Int32) (_ : Unit) => r = X) (fun u t => BW D cy A ([] : va_W) t) A)) (lv0 := [(0, .int x0)]) (by decide) rfl (Nat.le_of_ble_eq_true rfl) rfl ?_
  intro p e s m below meth c A ls hnm C0 hP hD hS hl
  generalize hH : s.heap = H at hP ⊢
  generalize hLoc : ([] : List Loc) = locs at hS ⊢
  have hS : va_S A s.heap H locs := by rw [← hH]; exact hS
  have C0 : CX cX7_isWeight 1 (some .boolean) RX7 wsX7_isWeight D cy p s m _ meth c A := C0
  obtain ⟨hx, hb, hr, hml, hown, hts, hK, hA, hN, hlocks⟩ := id C0
  unfold f_X7_isWeight at hf
  refine lv_iload_n hx hb dX7_isWeight_0 rfl (lv_at hl 0 rfl) ?_
  refine lv_iconst (v := (0 : Int32)) hx hb dX7_isWeight_1 (by decide) ?_
  refine lv_bipush (v := (16 : Int32)) hx hb dX7_isWeight_2 (by decide) ?_
  obtain ⟨u1, eu1, hf⟩ := Option.bind_eq_some_iff.mp hf
  refine cq_i (wc' := fun (u : Unit) => ([] : va_W)) (ws' := fun (u : Unit) => ([] : va_W)) (wc := ([] : va_W)) (wr := ([] : va_W)) C0 hP hD hS [] [] [] rfl rfl (by decide) (by decide) (by decide) (fun _ => rfl) (va_runSN (As := [.int x0, .int (0 : Int32), .int (16 : Int32)]) (rest := []) ⟨hx, hb, hml, hown, hts⟩ (c_X8_isWithin l D cy   H.size x0 (0 : Int32) (16 : Int32) u1 eu1) ⟨va_cnB 3 hts gX7_isWeight_X8_isWithin_n29 rfl rfl rfl (hN _ nw_X7_29) (hts _ m_X7_isWeight_i_X8) (by decide +kernel) ⟨Nat.le_of_ble_eq_true rfl, Nat.le_of_ble_eq_true rfl⟩, hts _ m_X7_isWeight_s_X8_isWithin, trivial⟩ (pre_S (hP.sub (ws' := ([] : va_W)) [] rfl) hK (hD.sub (ws' := ([] : va_W)) [] (by decide) rfl) hN) rfl rfl hl.1 rfl (lv_room (Nat.le_of_ble_eq_true rfl)) dX7_isWeight_4 ⟨Nat.zero_le _, Nat.zero_le _⟩) (fun r u H locs hw hP hD hS => ?_)
  have hw := hw.symm
  subst hw
  have hP : va_P D vwCl ([] : va_W) H := hP
  have hD : va_D A ([] : va_W) := hD
  obtain ⟨hz2, hf⟩ := ifn hf
  exact rq_z C0 (isb_nar hz2) () (Option.some.inj hf) hP hD hS dX7_isWeight_7

set_option maxHeartbeats 4000000 in
set_option maxRecDepth 100000 in
theorem c_X8_isKnownDay (l : Launch) (D : va_G) (cy : Nat → ClassId)   (sz : Nat) (x0 : Int32) (X : Int32) (hf : f_X8_isKnownDay x0 = some X) : Met l yX8_isKnownDay wsX8_isKnownDay ({ frames := 1, cells := 0, slots := 0, locals := 22 } : Room) (va_Pc [.int x0] (PW D cy ([] : va_W) sz)) (va_Qi (fun (r : Int32) (_ : Unit) => r = X) (fun u t => BW D cy (va_A ([] : va_W) sz) ([] : va_W) t) (va_A ([] : va_W) sz)) 0 0 (va_A ([] : va_W) sz) := by
  refine met_enter (Qc := fun A => (va_Qi (fun (r : Int32) (_ : Unit) => r = X) (fun u t => BW D cy A ([] : va_W) t) A)) (lv0 := [(0, .int x0)]) (by decide) rfl (Nat.le_of_ble_eq_true rfl) rfl ?_
  intro p e s m below meth c A ls hnm C0 hP hD hS hl
  generalize hH : s.heap = H at hP ⊢
  generalize hLoc : ([] : List Loc) = locs at hS ⊢
  have hS : va_S A s.heap H locs := by rw [← hH]; exact hS
  have C0 : CX cX8_isKnownDay 1 (some .boolean) RX8 wsX8_isKnownDay D cy p s m _ meth c A := C0
  obtain ⟨hx, hb, hr, hml, hown, hts, hK, hA, hN, hlocks⟩ := id C0
  unfold f_X8_isKnownDay at hf
  refine lv_iload_n hx hb dX8_isKnownDay_0 rfl (lv_at hl 0 rfl) ?_
  refine lv_iconst (v := (0 : Int32)) hx hb dX8_isKnownDay_1 (by decide) ?_
  refine lv_sipush (v := (1000 : Int32)) hx hb dX8_isKnownDay_2 (by decide) ?_
  obtain ⟨u1, eu1, hf⟩ := Option.bind_eq_some_iff.mp hf
  refine cq_i (wc' := fun (u : Unit) => ([] : va_W)) (ws' := fun (u : Unit) => ([] : va_W)) (wc := ([] : va_W)) (wr := ([] : va_W)) C0 hP hD hS [] [] [] rfl rfl (by decide) (by decide) (by decide) (fun _ => rfl) (va_runS (As := [.int x0, .int (0 : Int32), .int (1000 : Int32)]) (rest := []) ⟨hx, hb, hml, hown, hts⟩ (c_X8_isWithin l D cy   H.size x0 (0 : Int32) (1000 : Int32) u1 eu1) (va_cwS 3 hts gX8_isKnownDay_X8_isWithin rfl rfl rfl (by decide +kernel) ⟨Nat.le_of_ble_eq_true rfl, Nat.le_of_ble_eq_true rfl⟩) (pre_S (hP.sub (ws' := ([] : va_W)) [] rfl) hK (hD.sub (ws' := ([] : va_W)) [] (by decide) rfl) hN) rfl rfl hl.1 rfl (lv_room (Nat.le_of_ble_eq_true rfl)) dX8_isKnownDay_5 ⟨Nat.zero_le _, Nat.zero_le _⟩) (fun r u H locs hw hP hD hS => ?_)
  have hw := hw.symm
  subst hw
  have hP : va_P D vwCl ([] : va_W) H := hP
  have hD : va_D A ([] : va_W) := hD
  obtain ⟨hz2, hf⟩ := ifn hf
  exact rq_z C0 (isb_nar hz2) () (Option.some.inj hf) hP hD hS dX8_isKnownDay_8

theorem m_X7_tell_s_X8_isKnownDay : Cond.static yX8_isKnownDay ∈ wsX7_tell := by decide +kernel
theorem m_X7_tell_i_X8 : Cond.initialized RX8 ∈ wsX7_tell := by decide +kernel
theorem i_X7_tell_X7 : ∀ w ∈ wsX70, w ∈ wsX7_tell := by decide +kernel
theorem m_X7_tell_f25 : Cond.fieldLink RX7 25 "SailCargo$Weather" "told" "I" ∈ wsX7_tell := by decide +kernel
theorem m_X7_tell_f11 : Cond.fieldLink RX7 11 "SailCargo$Weather" "weights" "[I" ∈ wsX7_tell := by decide +kernel
theorem m_X7_tell_f15 : Cond.fieldLink RX7 15 "SailCargo$Weather" "knownFrom" "[I" ∈ wsX7_tell := by decide +kernel
set_option maxHeartbeats 4000000 in
set_option maxRecDepth 100000 in
theorem c_X7_tell (l : Launch) (D : va_G) (cy : Nat → ClassId) (qWe : Nat → Nat) (We_weights : Nat → Int32) (We_knownFrom : Nat → Int32) (We_told : Int32) (sz : Nat) (x1 : Int32) (x2 : Int32) (x3 : Int32) (x4 : Int32) (x5 : Int32) (X : Int32 × (Nat → Int32) × (Nat → Int32) × (Int32)) (hf : f_X7_tell We_weights We_knownFrom We_told x1 x2 x3 x4 x5 = some X) : Met l yX7_tell wsX7_tell ({ frames := 2, cells := 0, slots := 0, locals := 42 } : Room) (va_Pc [.ref (qWe 0), .int x1, .int x2, .int x3, .int x4, .int x5] (PW D cy (wX7 cy qWe We_weights We_knownFrom We_told) sz)) (va_Qi (fun (r : Int32) (u : (Nat → Int32) × (Nat → Int32) × (Int32)) => r = X.1 ∧ u = X.2) (fun u t => BW D cy (va_A (wX7 cy qWe We_weights We_knownFrom We_told) sz) (wX7 cy qWe u.1 u.2.1 u.2.2) t) (va_A (wX7 cy qWe We_weights We_knownFrom We_told) sz)) 0 0 (va_A (wX7 cy qWe We_weights We_knownFrom We_told) sz) := by
  refine met_enter (Qc := fun A => (va_Qi (fun (r : Int32) (u : (Nat → Int32) × (Nat → Int32) × (Int32)) => r = X.1 ∧ u = X.2) (fun u t => BW D cy A (wX7 cy qWe u.1 u.2.1 u.2.2) t) A)) (lv0 := [(0, .ref (qWe 0)), (1, .int x1), (2, .int x2), (3, .int x3), (4, .int x4), (5, .int x5)]) (by decide) rfl (Nat.le_of_ble_eq_true rfl) rfl ?_
  intro p e s m below meth c A ls hnm C0 hP hD hS hl
  generalize hH : s.heap = H at hP ⊢
  generalize hLoc : ([] : List Loc) = locs at hS ⊢
  have hS : va_S A s.heap H locs := by rw [← hH]; exact hS
  have C0 : CX cX7_tell 7 (some .int) RX7 wsX7_tell D cy p s m _ meth c A := C0
  obtain ⟨hx, hb, hr, hml, hown, hts, hK, hA, hN, hlocks⟩ := id C0
  unfold f_X7_tell at hf
  refine lv_iload_n hx hb dX7_tell_0 rfl (lv_at hl 1 rfl) ?_
  obtain ⟨u1, eu1, hf⟩ := Option.bind_eq_some_iff.mp hf
  refine cq_i (wc' := fun (u : Unit) => ([] : va_W)) (ws' := fun (u : Unit) => (wX7 cy qWe We_weights We_knownFrom We_told)) (wc := ([] : va_W)) (wr := (wX7 cy qWe We_weights We_knownFrom We_told)) C0 hP hD hS [] [0, 1, 2] [0, 1, 2] rfl rfl (by decide) (by decide) (by decide) (fun _ => rfl) (va_runS (As := [.int x1]) (rest := []) ⟨hx, hb, hml, hown, hts⟩ (c_X7_isWeight l D cy   H.size x1 u1 eu1) (va_cwS 1 hts gX7_tell_X7_isWeight rfl rfl rfl (by decide +kernel) ⟨Nat.le_of_ble_eq_true rfl, Nat.le_of_ble_eq_true rfl⟩) (pre_S (hP.sub (ws' := ([] : va_W)) [] rfl) hK (hD.sub (ws' := ([] : va_W)) [] (by decide) rfl) hN) rfl rfl hl.1 rfl (lv_room (Nat.le_of_ble_eq_true rfl)) dX7_tell_1 ⟨Nat.zero_le _, Nat.zero_le _⟩) (fun r u H locs hw hP hD hS => ?_)
  have hw := hw.symm
  subst hw
  have hP : va_P D vwCl (wX7 cy qWe We_weights We_knownFrom We_told) H := hP
  have hD : va_D A (wX7 cy qWe We_weights We_knownFrom We_told) := hD
  refine lv_if_eq (tgt := 50) hx hb dX7_tell_4 (by decide) (fun hc2 => ?_) (fun hc2 => ?_)
  · have hf := ift hf hc2
    refine lv_iconst (v := (-1 : Int32)) hx hb dX7_tell_50 (by decide) ?_
    exact rq_i C0 (We_weights, We_knownFrom, We_told) (pr_2 hf) hP hD hS dX7_tell_51
  · have hf := iff_ hf hc2
    refine lv_iload_n hx hb dX7_tell_7 rfl (lv_at hl 2 rfl) ?_
    obtain ⟨u3, eu3, hf⟩ := Option.bind_eq_some_iff.mp hf
    refine cq_i (wc' := fun (u : Unit) => ([] : va_W)) (ws' := fun (u : Unit) => (wX7 cy qWe We_weights We_knownFrom We_told)) (wc := ([] : va_W)) (wr := (wX7 cy qWe We_weights We_knownFrom We_told)) C0 hP hD hS [] [0, 1, 2] [0, 1, 2] rfl rfl (by decide) (by decide) (by decide) (fun _ => rfl) (va_runS (As := [.int x2]) (rest := []) ⟨hx, hb, hml, hown, hts⟩ (c_X7_isWeight l D cy   H.size x2 u3 eu3) (va_cwS 1 hts gX7_tell_X7_isWeight rfl rfl rfl (by decide +kernel) ⟨Nat.le_of_ble_eq_true rfl, Nat.le_of_ble_eq_true rfl⟩) (pre_S (hP.sub (ws' := ([] : va_W)) [] rfl) hK (hD.sub (ws' := ([] : va_W)) [] (by decide) rfl) hN) rfl rfl hl.1 rfl (lv_room (Nat.le_of_ble_eq_true rfl)) dX7_tell_8 ⟨Nat.zero_le _, Nat.zero_le _⟩) (fun r u H locs hw hP hD hS => ?_)
    have hw := hw.symm
    subst hw
    have hP : va_P D vwCl (wX7 cy qWe We_weights We_knownFrom We_told) H := hP
    have hD : va_D A (wX7 cy qWe We_weights We_knownFrom We_told) := hD
    refine lv_if_eq (tgt := 50) hx hb dX7_tell_11 (by decide) (fun hc4 => ?_) (fun hc4 => ?_)
    · have hf := ift hf hc4
      refine lv_iconst (v := (-1 : Int32)) hx hb dX7_tell_50 (by decide) ?_
      exact rq_i C0 (We_weights, We_knownFrom, We_told) (pr_2 hf) hP hD hS dX7_tell_51
    · have hf := iff_ hf hc4
      refine lv_iload_n hx hb dX7_tell_14 rfl (lv_at hl 3 rfl) ?_
      obtain ⟨u5, eu5, hf⟩ := Option.bind_eq_some_iff.mp hf
      refine cq_i (wc' := fun (u : Unit) => ([] : va_W)) (ws' := fun (u : Unit) => (wX7 cy qWe We_weights We_knownFrom We_told)) (wc := ([] : va_W)) (wr := (wX7 cy qWe We_weights We_knownFrom We_told)) C0 hP hD hS [] [0, 1, 2] [0, 1, 2] rfl rfl (by decide) (by decide) (by decide) (fun _ => rfl) (va_runS (As := [.int x3]) (rest := []) ⟨hx, hb, hml, hown, hts⟩ (c_X7_isWeight l D cy   H.size x3 u5 eu5) (va_cwS 1 hts gX7_tell_X7_isWeight rfl rfl rfl (by decide +kernel) ⟨Nat.le_of_ble_eq_true rfl, Nat.le_of_ble_eq_true rfl⟩) (pre_S (hP.sub (ws' := ([] : va_W)) [] rfl) hK (hD.sub (ws' := ([] : va_W)) [] (by decide) rfl) hN) rfl rfl hl.1 rfl (lv_room (Nat.le_of_ble_eq_true rfl)) dX7_tell_15 ⟨Nat.zero_le _, Nat.zero_le _⟩) (fun r u H locs hw hP hD hS => ?_)
      have hw := hw.symm
      subst hw
      have hP : va_P D vwCl (wX7 cy qWe We_weights We_knownFrom We_told) H := hP
      have hD : va_D A (wX7 cy qWe We_weights We_knownFrom We_told) := hD
      refine lv_if_eq (tgt := 50) hx hb dX7_tell_18 (by decide) (fun hc6 => ?_) (fun hc6 => ?_)
      · have hf := ift hf hc6
        refine lv_iconst (v := (-1 : Int32)) hx hb dX7_tell_50 (by decide) ?_
        exact rq_i C0 (We_weights, We_knownFrom, We_told) (pr_2 hf) hP hD hS dX7_tell_51
      · have hf := iff_ hf hc6
        refine lv_iload hx hb dX7_tell_21 (lv_at hl 4 rfl) ?_
        obtain ⟨u7, eu7, hf⟩ := Option.bind_eq_some_iff.mp hf
        refine cq_i (wc' := fun (u : Unit) => ([] : va_W)) (ws' := fun (u : Unit) => (wX7 cy qWe We_weights We_knownFrom We_told)) (wc := ([] : va_W)) (wr := (wX7 cy qWe We_weights We_knownFrom We_told)) C0 hP hD hS [] [0, 1, 2] [0, 1, 2] rfl rfl (by decide) (by decide) (by decide) (fun _ => rfl) (va_runS (As := [.int x4]) (rest := []) ⟨hx, hb, hml, hown, hts⟩ (c_X7_isWeight l D cy   H.size x4 u7 eu7) (va_cwS 1 hts gX7_tell_X7_isWeight rfl rfl rfl (by decide +kernel) ⟨Nat.le_of_ble_eq_true rfl, Nat.le_of_ble_eq_true rfl⟩) (pre_S (hP.sub (ws' := ([] : va_W)) [] rfl) hK (hD.sub (ws' := ([] : va_W)) [] (by decide) rfl) hN) rfl rfl hl.1 rfl (lv_room (Nat.le_of_ble_eq_true rfl)) dX7_tell_23 ⟨Nat.zero_le _, Nat.zero_le _⟩) (fun r u H locs hw hP hD hS => ?_)
        have hw := hw.symm
        subst hw
        have hP : va_P D vwCl (wX7 cy qWe We_weights We_knownFrom We_told) H := hP
        have hD : va_D A (wX7 cy qWe We_weights We_knownFrom We_told) := hD
        refine lv_if_eq (tgt := 50) hx hb dX7_tell_26 (by decide) (fun hc8 => ?_) (fun hc8 => ?_)
        · have hf := ift hf hc8
          refine lv_iconst (v := (-1 : Int32)) hx hb dX7_tell_50 (by decide) ?_
          exact rq_i C0 (We_weights, We_knownFrom, We_told) (pr_2 hf) hP hD hS dX7_tell_51
        · have hf := iff_ hf hc8
          refine lv_iload_n hx hb dX7_tell_29 rfl (lv_at hl 1 rfl) ?_
          refine lv_iload_n hx hb dX7_tell_30 rfl (lv_at hl 2 rfl) ?_
          refine lv_iadd hx hb dX7_tell_31 ?_
          refine lv_iload_n hx hb dX7_tell_32 rfl (lv_at hl 3 rfl) ?_
          refine lv_iadd hx hb dX7_tell_33 ?_
          refine lv_iload hx hb dX7_tell_34 (lv_at hl 4 rfl) ?_
          refine lv_iadd hx hb dX7_tell_36 ?_
          refine lv_bipush (v := (16 : Int32)) hx hb dX7_tell_37 (by decide) ?_
          refine lv_icmp_ne (tgt := 50) hx hb dX7_tell_39 (by decide) (fun hc9 => ?_) (fun hc9 => ?_)
          · have hf := iff_ hf hc9
            refine lv_iconst (v := (-1 : Int32)) hx hb dX7_tell_50 (by decide) ?_
            exact rq_i C0 (We_weights, We_knownFrom, We_told) (pr_2 hf) hP hD hS dX7_tell_51
          · have hf := ift hf hc9
            refine lv_iload hx hb dX7_tell_42 (lv_at hl 5 rfl) ?_
            obtain ⟨u10, eu10, hf⟩ := Option.bind_eq_some_iff.mp hf
            refine cq_i (wc' := fun (u : Unit) => ([] : va_W)) (ws' := fun (u : Unit) => (wX7 cy qWe We_weights We_knownFrom We_told)) (wc := ([] : va_W)) (wr := (wX7 cy qWe We_weights We_knownFrom We_told)) C0 hP hD hS [] [0, 1, 2] [0, 1, 2] rfl rfl (by decide) (by decide) (by decide) (fun _ => rfl) (va_runSN (As := [.int x5]) (rest := []) ⟨hx, hb, hml, hown, hts⟩ (c_X8_isKnownDay l D cy   H.size x5 u10 eu10) ⟨va_cnB 1 hts gX7_tell_X8_isKnownDay_n22 rfl rfl rfl (hN _ nw_X7_22) (hts _ m_X7_tell_i_X8) (by decide +kernel) ⟨Nat.le_of_ble_eq_true rfl, Nat.le_of_ble_eq_true rfl⟩, hts _ m_X7_tell_s_X8_isKnownDay, trivial⟩ (pre_S (hP.sub (ws' := ([] : va_W)) [] rfl) hK (hD.sub (ws' := ([] : va_W)) [] (by decide) rfl) hN) rfl rfl hl.1 rfl (lv_room (Nat.le_of_ble_eq_true rfl)) dX7_tell_44 ⟨Nat.zero_le _, Nat.zero_le _⟩) (fun r u H locs hw hP hD hS => ?_)
            have hw := hw.symm
            subst hw
            have hP : va_P D vwCl (wX7 cy qWe We_weights We_knownFrom We_told) H := hP
            have hD : va_D A (wX7 cy qWe We_weights We_knownFrom We_told) := hD
            refine lv_if_ne (tgt := 52) hx hb dX7_tell_47 (by decide) (fun hc11 => ?_) (fun hc11 => ?_)
            · have hf := iff_ hf hc11
              refine lv_aload_n hx hb dX7_tell_52 rfl (lv_at hl 0 rfl) ?_
              refine va_get (D := D) (ci := 7) (v := .int We_told) (C := RX7) (T := TX7) (N := 3) hx hb hts i_X7_tell_X7 hown hK hP 0 rfl rfl 2 (by decide) (hts _ m_X7_tell_f25) (fun _ h9 => h9) rfl dX7_tell_53 ?_
              refine lv_bipush (v := (40 : Int32)) hx hb dX7_tell_56 (by decide) ?_
              refine lv_icmp_lt (tgt := 64) hx hb dX7_tell_58 (by decide) (fun hc12 => ?_) (fun hc12 => ?_)
              · have hf := ift hf hc12
                refine lv_aload_n hx hb dX7_tell_64 rfl (lv_at hl 0 rfl) ?_
                refine va_get (D := D) (ci := 7) (v := .int We_told) (C := RX7) (T := TX7) (N := 3) hx hb hts i_X7_tell_X7 hown hK hP 0 rfl rfl 2 (by decide) (hts _ m_X7_tell_f25) (fun _ h9 => h9) rfl dX7_tell_65 ?_
                refine lv_iconst (v := (4 : Int32)) hx hb dX7_tell_68 (by decide) ?_
                refine lv_imul hx hb dX7_tell_69 ?_
                refine lv_istore (lv' := [(6, .int (We_told * (4 : Int32))), (0, .ref (qWe 0)), (1, .int x1), (2, .int x2), (3, .int x3), (4, .int x4), (5, .int x5)]) hx hb dX7_tell_70 hl (by decide) rfl (fun ls hl => ?_)
                refine lv_aload_n hx hb dX7_tell_72 rfl (lv_at hl 1 rfl) ?_
                refine va_get (D := D) (ci := 7) (v := .ref (qWe 1)) (C := RX7) (T := TX7) (N := 3) hx hb hts i_X7_tell_X7 hown hK hP 0 rfl rfl 0 (by decide) (hts _ m_X7_tell_f11) (fun _ h9 => h9) rfl dX7_tell_73 ?_
                refine lv_iload hx hb dX7_tell_76 (lv_at hl 0 rfl) ?_
                refine lv_iload_n hx hb dX7_tell_78 rfl (lv_at hl 2 rfl) ?_
                obtain ⟨hz13, hf⟩ := ifn hf
                refine va_iast hx hb hK hP hD hS 1 0 rfl rfl (inb_in hz13) dX7_tell_79 (fun H locs hP hD hS => ?_)
                have hP : va_P D vwCl (wX7 cy qWe (upd We_weights (We_told * (4 : Int32)).toNatClampNeg x1) We_knownFrom We_told) H := hP
                have hD : va_D A (wX7 cy qWe (upd We_weights (We_told * (4 : Int32)).toNatClampNeg x1) We_knownFrom We_told) := hD
                refine lv_aload_n hx hb dX7_tell_80 rfl (lv_at hl 1 rfl) ?_
                refine va_get (D := D) (ci := 7) (v := .ref (qWe 1)) (C := RX7) (T := TX7) (N := 3) hx hb hts i_X7_tell_X7 hown hK hP 0 rfl rfl 0 (by decide) (hts _ m_X7_tell_f11) (fun _ h9 => h9) rfl dX7_tell_81 ?_
                refine lv_iload hx hb dX7_tell_84 (lv_at hl 0 rfl) ?_
                refine lv_iconst (v := (1 : Int32)) hx hb dX7_tell_86 (by decide) ?_
                refine lv_iadd hx hb dX7_tell_87 ?_
                refine lv_iload_n hx hb dX7_tell_88 rfl (lv_at hl 3 rfl) ?_
                obtain ⟨hz14, hf⟩ := ifn hf
                refine va_iast hx hb hK hP hD hS 1 0 rfl rfl (inb_in hz14) dX7_tell_89 (fun H locs hP hD hS => ?_)
                have hP : va_P D vwCl (wX7 cy qWe (upd (upd We_weights (We_told * (4 : Int32)).toNatClampNeg x1) ((We_told * (4 : Int32)) + (1 : Int32)).toNatClampNeg x2) We_knownFrom We_told) H := hP
                have hD : va_D A (wX7 cy qWe (upd (upd We_weights (We_told * (4 : Int32)).toNatClampNeg x1) ((We_told * (4 : Int32)) + (1 : Int32)).toNatClampNeg x2) We_knownFrom We_told) := hD
                refine lv_aload_n hx hb dX7_tell_90 rfl (lv_at hl 1 rfl) ?_
                refine va_get (D := D) (ci := 7) (v := .ref (qWe 1)) (C := RX7) (T := TX7) (N := 3) hx hb hts i_X7_tell_X7 hown hK hP 0 rfl rfl 0 (by decide) (hts _ m_X7_tell_f11) (fun _ h9 => h9) rfl dX7_tell_91 ?_
                refine lv_iload hx hb dX7_tell_94 (lv_at hl 0 rfl) ?_
                refine lv_iconst (v := (2 : Int32)) hx hb dX7_tell_96 (by decide) ?_
                refine lv_iadd hx hb dX7_tell_97 ?_
                refine lv_iload_n hx hb dX7_tell_98 rfl (lv_at hl 4 rfl) ?_
                obtain ⟨hz15, hf⟩ := ifn hf
                refine va_iast hx hb hK hP hD hS 1 0 rfl rfl (inb_in hz15) dX7_tell_99 (fun H locs hP hD hS => ?_)
                have hP : va_P D vwCl (wX7 cy qWe (upd (upd (upd We_weights (We_told * (4 : Int32)).toNatClampNeg x1) ((We_told * (4 : Int32)) + (1 : Int32)).toNatClampNeg x2) ((We_told * (4 : Int32)) + (2 : Int32)).toNatClampNeg x3) We_knownFrom We_told) H := hP
                have hD : va_D A (wX7 cy qWe (upd (upd (upd We_weights (We_told * (4 : Int32)).toNatClampNeg x1) ((We_told * (4 : Int32)) + (1 : Int32)).toNatClampNeg x2) ((We_told * (4 : Int32)) + (2 : Int32)).toNatClampNeg x3) We_knownFrom We_told) := hD
                refine lv_aload_n hx hb dX7_tell_100 rfl (lv_at hl 1 rfl) ?_
                refine va_get (D := D) (ci := 7) (v := .ref (qWe 1)) (C := RX7) (T := TX7) (N := 3) hx hb hts i_X7_tell_X7 hown hK hP 0 rfl rfl 0 (by decide) (hts _ m_X7_tell_f11) (fun _ h9 => h9) rfl dX7_tell_101 ?_
                refine lv_iload hx hb dX7_tell_104 (lv_at hl 0 rfl) ?_
                refine lv_iconst (v := (3 : Int32)) hx hb dX7_tell_106 (by decide) ?_
                refine lv_iadd hx hb dX7_tell_107 ?_
                refine lv_iload hx hb dX7_tell_108 (lv_at hl 5 rfl) ?_
                obtain ⟨hz16, hf⟩ := ifn hf
                refine va_iast hx hb hK hP hD hS 1 0 rfl rfl (inb_in hz16) dX7_tell_110 (fun H locs hP hD hS => ?_)
                have hP : va_P D vwCl (wX7 cy qWe (upd (upd (upd (upd We_weights (We_told * (4 : Int32)).toNatClampNeg x1) ((We_told * (4 : Int32)) + (1 : Int32)).toNatClampNeg x2) ((We_told * (4 : Int32)) + (2 : Int32)).toNatClampNeg x3) ((We_told * (4 : Int32)) + (3 : Int32)).toNatClampNeg x4) We_knownFrom We_told) H := hP
                have hD : va_D A (wX7 cy qWe (upd (upd (upd (upd We_weights (We_told * (4 : Int32)).toNatClampNeg x1) ((We_told * (4 : Int32)) + (1 : Int32)).toNatClampNeg x2) ((We_told * (4 : Int32)) + (2 : Int32)).toNatClampNeg x3) ((We_told * (4 : Int32)) + (3 : Int32)).toNatClampNeg x4) We_knownFrom We_told) := hD
                refine lv_aload_n hx hb dX7_tell_111 rfl (lv_at hl 1 rfl) ?_
                refine va_get (D := D) (ci := 7) (v := .ref (qWe 2)) (C := RX7) (T := TX7) (N := 3) hx hb hts i_X7_tell_X7 hown hK hP 0 rfl rfl 1 (by decide) (hts _ m_X7_tell_f15) (fun _ h9 => h9) rfl dX7_tell_112 ?_
                refine lv_aload_n hx hb dX7_tell_115 rfl (lv_at hl 1 rfl) ?_
                refine va_get (D := D) (ci := 7) (v := .int We_told) (C := RX7) (T := TX7) (N := 3) hx hb hts i_X7_tell_X7 hown hK hP 0 rfl rfl 2 (by decide) (hts _ m_X7_tell_f25) (fun _ h9 => h9) rfl dX7_tell_116 ?_
                refine lv_iload hx hb dX7_tell_119 (lv_at hl 6 rfl) ?_
                obtain ⟨hz17, hf⟩ := ifn hf
                refine va_iast hx hb hK hP hD hS 2 0 rfl rfl (inb_in hz17) dX7_tell_121 (fun H locs hP hD hS => ?_)
                have hP : va_P D vwCl (wX7 cy qWe (upd (upd (upd (upd We_weights (We_told * (4 : Int32)).toNatClampNeg x1) ((We_told * (4 : Int32)) + (1 : Int32)).toNatClampNeg x2) ((We_told * (4 : Int32)) + (2 : Int32)).toNatClampNeg x3) ((We_told * (4 : Int32)) + (3 : Int32)).toNatClampNeg x4) (upd We_knownFrom We_told.toNatClampNeg x5) We_told) H := hP
                have hD : va_D A (wX7 cy qWe (upd (upd (upd (upd We_weights (We_told * (4 : Int32)).toNatClampNeg x1) ((We_told * (4 : Int32)) + (1 : Int32)).toNatClampNeg x2) ((We_told * (4 : Int32)) + (2 : Int32)).toNatClampNeg x3) ((We_told * (4 : Int32)) + (3 : Int32)).toNatClampNeg x4) (upd We_knownFrom We_told.toNatClampNeg x5) We_told) := hD
                refine lv_aload_n hx hb dX7_tell_122 rfl (lv_at hl 1 rfl) ?_
                refine lv_dup hx hb dX7_tell_123 rfl ?_
                refine va_get (D := D) (ci := 7) (v := .int We_told) (C := RX7) (T := TX7) (N := 3) hx hb hts i_X7_tell_X7 hown hK hP 0 rfl rfl 2 (by decide) (hts _ m_X7_tell_f25) (fun _ h9 => h9) rfl dX7_tell_124 ?_
                refine lv_iconst (v := (1 : Int32)) hx hb dX7_tell_127 (by decide) ?_
                refine lv_iadd hx hb dX7_tell_128 ?_
                refine va_put (D := D) (ci := 7) (v := .int (We_told + (1 : Int32))) (ty := .int) (C := RX7) (T := TX7) (N := 3) hx hb hts i_X7_tell_X7 tyX7 tyX7_ok nmX7 hown hK hP hD hS 0 rfl rfl 2 (by decide) (hts _ m_X7_tell_f25) (fun _ h9 => h9) rfl (by decide +kernel) rfl rfl (Nat.le_of_ble_eq_true rfl) dX7_tell_129 (fun H locs hP hD hS => ?_)
                have hP : va_P D vwCl (wX7 cy qWe (upd (upd (upd (upd We_weights (We_told * (4 : Int32)).toNatClampNeg x1) ((We_told * (4 : Int32)) + (1 : Int32)).toNatClampNeg x2) ((We_told * (4 : Int32)) + (2 : Int32)).toNatClampNeg x3) ((We_told * (4 : Int32)) + (3 : Int32)).toNatClampNeg x4) (upd We_knownFrom We_told.toNatClampNeg x5) (We_told + (1 : Int32))) H := hP
                have hD : va_D A (wX7 cy qWe (upd (upd (upd (upd We_weights (We_told * (4 : Int32)).toNatClampNeg x1) ((We_told * (4 : Int32)) + (1 : Int32)).toNatClampNeg x2) ((We_told * (4 : Int32)) + (2 : Int32)).toNatClampNeg x3) ((We_told * (4 : Int32)) + (3 : Int32)).toNatClampNeg x4) (upd We_knownFrom We_told.toNatClampNeg x5) (We_told + (1 : Int32))) := hD
                refine lv_aload_n hx hb dX7_tell_132 rfl (lv_at hl 1 rfl) ?_
                refine va_get (D := D) (ci := 7) (v := .int (We_told + (1 : Int32))) (C := RX7) (T := TX7) (N := 3) hx hb hts i_X7_tell_X7 hown hK hP 0 rfl rfl 2 (by decide) (hts _ m_X7_tell_f25) (fun _ h9 => h9) rfl dX7_tell_133 ?_
                exact rq_i C0 ((upd (upd (upd (upd We_weights (We_told * (4 : Int32)).toNatClampNeg x1) ((We_told * (4 : Int32)) + (1 : Int32)).toNatClampNeg x2) ((We_told * (4 : Int32)) + (2 : Int32)).toNatClampNeg x3) ((We_told * (4 : Int32)) + (3 : Int32)).toNatClampNeg x4), (upd We_knownFrom We_told.toNatClampNeg x5), (We_told + (1 : Int32))) (pr_2 hf) hP hD hS dX7_tell_136
              · have hf := iff_ hf hc12
                refine lv_bipush (v := (-5 : Int32)) hx hb dX7_tell_61 (by decide) ?_
                exact rq_i C0 (We_weights, We_knownFrom, We_told) (pr_2 hf) hP hD hS dX7_tell_63
            · have hf := ift hf hc11
              refine lv_iconst (v := (-1 : Int32)) hx hb dX7_tell_50 (by decide) ?_
              exact rq_i C0 (We_weights, We_knownFrom, We_told) (pr_2 hf) hP hD hS dX7_tell_51

