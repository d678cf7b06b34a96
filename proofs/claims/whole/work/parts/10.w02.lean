set_option maxHeartbeats 4000000 in
set_option maxRecDepth 100000 in
theorem c_X2_at (l : Launch) (D : va_G) (cy : Nat → ClassId)   (sz : Nat) (x0 : Int32) (x1 : Int32) (x2 : Int32) (X : Int32) (hf : f_X2_at x0 x1 x2 = some X) : Met l yX2_at wsX2_at ({ frames := 0, cells := 0, slots := 0, locals := 0 } : Room) (va_Pc [.int x0, .int x1, .int x2] (PW D cy ([] : va_W) sz)) (va_Qi (fun (r : Int32) (_ : Unit) => r = X) (fun u t => BW D cy (va_A ([] : va_W) sz) ([] : va_W) t) (va_A ([] : va_W) sz)) 0 0 (va_A ([] : va_W) sz) := by
  refine met_enter (Qc := fun A => (va_Qi (fun (r : Int32) (_ : Unit) => r = X) (fun u t => BW D cy A ([] : va_W) t) A)) (lv0 := [(0, .int x0), (1, .int x1), (2, .int x2)]) (by decide) rfl (Nat.le_of_ble_eq_true rfl) rfl ?_
  intro p e s m below meth c A ls hnm C0 hP hD hS hl
  generalize hH : s.heap = H at hP ⊢
  generalize hLoc : ([] : List Loc) = locs at hS ⊢
  have hS : va_S A s.heap H locs := by rw [← hH]; exact hS
  have C0 : CX cX2_at 3 (some .int) RX2 wsX2_at D cy p s m _ meth c A := C0
  obtain ⟨hx, hb, hr, hml, hown, hts, hK, hA, hN, hlocks⟩ := id C0
  unfold f_X2_at at hf
  refine lv_iload_n hx hb dX2_at_0 rfl (lv_at hl 0 rfl) ?_
  refine lv_sipush (v := (1573 : Int32)) hx hb dX2_at_1 (by decide) ?_
  refine lv_imul hx hb dX2_at_4 ?_
  refine lv_iload_n hx hb dX2_at_5 rfl (lv_at hl 1 rfl) ?_
  refine lv_bipush (v := (13 : Int32)) hx hb dX2_at_6 (by decide) ?_
  refine lv_imul hx hb dX2_at_8 ?_
  refine lv_iadd hx hb dX2_at_9 ?_
  refine lv_iload_n hx hb dX2_at_10 rfl (lv_at hl 2 rfl) ?_
  refine lv_iadd hx hb dX2_at_11 ?_
  exact rq_i C0 () (Option.some.inj hf) hP hD hS dX2_at_12

set_option maxHeartbeats 4000000 in
set_option maxRecDepth 100000 in
theorem c_X2_parts (l : Launch) (D : va_G) (cy : Nat → ClassId)   (sz : Nat) (x0 : Int32) (X : Int64) (hf : f_X2_parts x0 = some X) : Met l yX2_parts wsX2_parts ({ frames := 0, cells := 0, slots := 0, locals := 0 } : Room) (va_Pc [.int x0] (PW D cy ([] : va_W) sz)) (va_Ql (fun (r : Int64) (_ : Unit) => r = X) (fun u t => BW D cy (va_A ([] : va_W) sz) ([] : va_W) t) (va_A ([] : va_W) sz)) 0 0 (va_A ([] : va_W) sz) := by
  refine met_enter (Qc := fun A => (va_Ql (fun (r : Int64) (_ : Unit) => r = X) (fun u t => BW D cy A ([] : va_W) t) A)) (lv0 := [(0, .int x0)]) (by decide) rfl (Nat.le_of_ble_eq_true rfl) rfl ?_
  intro p e s m below meth c A ls hnm C0 hP hD hS hl
  generalize hH : s.heap = H at hP ⊢
  generalize hLoc : ([] : List Loc) = locs at hS ⊢
  have hS : va_S A s.heap H locs := by rw [← hH]; exact hS
  have C0 : CX cX2_parts 1 (some .long) RX2 wsX2_parts D cy p s m _ meth c A := C0
  obtain ⟨hx, hb, hr, hml, hown, hts, hK, hA, hN, hlocks⟩ := id C0
  unfold f_X2_parts at hf
  refine lv_lconst (v := (1 : Int64)) hx hb dX2_parts_0 (by decide) ?_
  refine lv_iconst (v := (4 : Int32)) hx hb dX2_parts_1 (by decide) ?_
  refine lv_iload_n hx hb dX2_parts_2 rfl (lv_at hl 0 rfl) ?_
  refine lv_imul hx hb dX2_parts_3 ?_
  refine lv_lshl (v := ((1 : Int64) <<< (((4 : Int32) * x0).toInt64 &&& 63))) hx hb dX2_parts_4 rfl ?_
  exact rq_l C0 () (Option.some.inj hf) hP hD hS dX2_parts_5

set_option maxHeartbeats 4000000 in
set_option maxRecDepth 100000 in
theorem c_X8_isWind (l : Launch) (D : va_G) (cy : Nat → ClassId)   (sz : Nat) (x0 : Int32) (X : Int32) (hf : f_X8_isWind x0 = some X) : Met l yX8_isWind wsX8_isWind ({ frames := 1, cells := 0, slots := 0, locals := 22 } : Room) (va_Pc [.int x0] (PW D cy ([] : va_W) sz)) (va_Qi (fun (r : Int32) (_ : Unit) => r = X) (fun u t => BW D cy (va_A ([] : va_W) sz) ([] : va_W) t) (va_A ([] : va_W) sz)) 0 0 (va_A ([] : va_W) sz) := by
  refine met_enter (Qc := fun A => (va_Qi (fun (r : Int32) (_ : Unit) => r = X) (fun u t => BW D cy A ([] : va_W) t) A)) (lv0 := [(0, .int x0)]) (by decide) rfl (Nat.le_of_ble_eq_true rfl) rfl ?_
  intro p e s m below meth c A ls hnm C0 hP hD hS hl
  generalize hH : s.heap = H at hP ⊢
  generalize hLoc : ([] : List Loc) = locs at hS ⊢
  have hS : va_S A s.heap H locs := by rw [← hH]; exact hS
  have C0 : CX cX8_isWind 1 (some .boolean) RX8 wsX8_isWind D cy p s m _ meth c A := C0
  obtain ⟨hx, hb, hr, hml, hown, hts, hK, hA, hN, hlocks⟩ := id C0
  unfold f_X8_isWind at hf
  refine lv_iload_n hx hb dX8_isWind_0 rfl (lv_at hl 0 rfl) ?_
  refine lv_iconst (v := (0 : Int32)) hx hb dX8_isWind_1 (by decide) ?_
  refine lv_iconst (v := (3 : Int32)) hx hb dX8_isWind_2 (by decide) ?_
  obtain ⟨u1, eu1, hf⟩ := Option.bind_eq_some_iff.mp hf
  refine cq_i (wc' := fun (u : Unit) => ([] : va_W)) (ws' := fun (u : Unit) => ([] : va_W)) (wc := ([] : va_W)) (wr := ([] : va_W)) C0 hP hD hS [] [] [] rfl rfl (by decide) (by decide) (by decide) (fun _ => rfl) (va_runS (As := [.int x0, .int (0 : Int32), .int (3 : Int32)]) (rest := []) ⟨hx, hb, hml, hown, hts⟩ (c_X8_isWithin l D cy   H.size x0 (0 : Int32) (3 : Int32) u1 eu1) (va_cwS 3 hts gX8_isWind_X8_isWithin rfl rfl rfl (by decide +kernel) ⟨Nat.le_of_ble_eq_true rfl, Nat.le_of_ble_eq_true rfl⟩) (pre_S (hP.sub (ws' := ([] : va_W)) [] rfl) hK (hD.sub (ws' := ([] : va_W)) [] (by decide) rfl) hN) rfl rfl hl.1 rfl (lv_room (Nat.le_of_ble_eq_true rfl)) dX8_isWind_3 ⟨Nat.zero_le _, Nat.zero_le _⟩) (fun r u H locs hw hP hD hS => ?_)
  have hw := hw.symm
  subst hw
  have hP : va_P D vwCl ([] : va_W) H := hP
  have hD : va_D A ([] : va_W) := hD
  obtain ⟨hz2, hf⟩ := ifn hf
  exact rq_z C0 (isb_nar hz2) () (Option.some.inj hf) hP hD hS dX8_isWind_6

theorem m_X2_setSails_s_X8_isWind : Cond.static yX8_isWind ∈ wsX2_setSails := by decide +kernel
theorem m_X2_setSails_i_X8 : Cond.initialized RX8 ∈ wsX2_setSails := by decide +kernel
theorem m_X2_setSails_s_X8_isWithin : Cond.static yX8_isWithin ∈ wsX2_setSails := by decide +kernel
theorem i_X2_setSails_X2 : ∀ w ∈ wsX20, w ∈ wsX2_setSails := by decide +kernel
theorem m_X2_setSails_f11 : Cond.fieldLink RX2 11 "SailCargo$Passage" "sailMiles" "[I" ∈ wsX2_setSails := by decide +kernel
theorem m_X2_setSails_f41 : Cond.fieldLink RX2 41 "SailCargo$Passage" "daysReckoned" "I" ∈ wsX2_setSails := by decide +kernel
set_option maxHeartbeats 4000000 in
set_option maxRecDepth 100000 in
theorem c_X2_setSails (l : Launch) (D : va_G) (cy : Nat → ClassId) (qPa : Nat → Nat) (Pa_sailMiles : Nat → Int32) (Pa_weights : Nat → Int32) (Pa_chance : Nat → Int64) (Pa_burnt : Nat → Int64) (Pa_engineMiles : Int32) (Pa_daysReckoned : Int32) (Pa_milesReckoned : Int32) (Pa_coalReckoned : Int32) (sz : Nat) (x1 : Int32) (x2 : Int32) (X : Int32 × (Nat → Int32) × (Int32)) (hf : f_X2_setSails Pa_sailMiles Pa_daysReckoned x1 x2 = some X) : Met l yX2_setSails wsX2_setSails ({ frames := 2, cells := 0, slots := 0, locals := 42 } : Room) (va_Pc [.ref (qPa 0), .int x1, .int x2] (PW D cy (wX2 cy qPa Pa_sailMiles Pa_weights Pa_chance Pa_burnt Pa_engineMiles Pa_daysReckoned Pa_milesReckoned Pa_coalReckoned) sz)) (va_Qi (fun (r : Int32) (u : (Nat → Int32) × (Int32)) => r = X.1 ∧ u = X.2) (fun u t => BW D cy (va_A (wX2 cy qPa Pa_sailMiles Pa_weights Pa_chance Pa_burnt Pa_engineMiles Pa_daysReckoned Pa_milesReckoned Pa_coalReckoned) sz) (wX2 cy qPa u.1 Pa_weights Pa_chance Pa_burnt Pa_engineMiles u.2 Pa_milesReckoned Pa_coalReckoned) t) (va_A (wX2 cy qPa Pa_sailMiles Pa_weights Pa_chance Pa_burnt Pa_engineMiles Pa_daysReckoned Pa_milesReckoned Pa_coalReckoned) sz)) 0 0 (va_A (wX2 cy qPa Pa_sailMiles Pa_weights Pa_chance Pa_burnt Pa_engineMiles Pa_daysReckoned Pa_milesReckoned Pa_coalReckoned) sz) := by
  refine met_enter (Qc := fun A => (va_Qi (fun (r : Int32) (u : (Nat → Int32) × (Int32)) => r = X.1 ∧ u = X.2) (fun u t => BW D cy A (wX2 cy qPa u.1 Pa_weights Pa_chance Pa_burnt Pa_engineMiles u.2 Pa_milesReckoned Pa_coalReckoned) t) A)) (lv0 := [(0, .ref (qPa 0)), (1, .int x1), (2, .int x2)]) (by decide) rfl (Nat.le_of_ble_eq_true rfl) rfl ?_
  intro p e s m below meth c A ls hnm C0 hP hD hS hl
  generalize hH : s.heap = H at hP ⊢
  generalize hLoc : ([] : List Loc) = locs at hS ⊢
  have hS : va_S A s.heap H locs := by rw [← hH]; exact hS
  have C0 : CX cX2_setSails 3 (some .int) RX2 wsX2_setSails D cy p s m _ meth c A := C0
  obtain ⟨hx, hb, hr, hml, hown, hts, hK, hA, hN, hlocks⟩ := id C0
  unfold f_X2_setSails at hf
  refine lv_iload_n hx hb dX2_setSails_0 rfl (lv_at hl 1 rfl) ?_
  obtain ⟨u1, eu1, hf⟩ := Option.bind_eq_some_iff.mp hf
  refine cq_i (wc' := fun (u : Unit) => ([] : va_W)) (ws' := fun (u : Unit) => (wX2 cy qPa Pa_sailMiles Pa_weights Pa_chance Pa_burnt Pa_engineMiles Pa_daysReckoned Pa_milesReckoned Pa_coalReckoned)) (wc := ([] : va_W)) (wr := (wX2 cy qPa Pa_sailMiles Pa_weights Pa_chance Pa_burnt Pa_engineMiles Pa_daysReckoned Pa_milesReckoned Pa_coalReckoned)) C0 hP hD hS [] [0, 1, 2, 3, 4] [0, 1, 2, 3, 4] rfl rfl (by decide) (by decide) (by decide) (fun _ => rfl) (va_runSN (As := [.int x1]) (rest := []) ⟨hx, hb, hml, hown, hts⟩ (c_X8_isWind l D cy   H.size x1 u1 eu1) ⟨va_cnB 1 hts gX2_setSails_X8_isWind_n33 rfl rfl rfl (hN _ nw_X2_33) (hts _ m_X2_setSails_i_X8) (by decide +kernel) ⟨Nat.le_of_ble_eq_true rfl, Nat.le_of_ble_eq_true rfl⟩, hts _ m_X2_setSails_s_X8_isWind, trivial⟩ (pre_S (hP.sub (ws' := ([] : va_W)) [] rfl) hK (hD.sub (ws' := ([] : va_W)) [] (by decide) rfl) hN) rfl rfl hl.1 rfl (lv_room (Nat.le_of_ble_eq_true rfl)) dX2_setSails_1 ⟨Nat.zero_le _, Nat.zero_le _⟩) (fun r u H locs hw hP hD hS => ?_)
  have hw := hw.symm
  subst hw
  have hP : va_P D vwCl (wX2 cy qPa Pa_sailMiles Pa_weights Pa_chance Pa_burnt Pa_engineMiles Pa_daysReckoned Pa_milesReckoned Pa_coalReckoned) H := hP
  have hD : va_D A (wX2 cy qPa Pa_sailMiles Pa_weights Pa_chance Pa_burnt Pa_engineMiles Pa_daysReckoned Pa_milesReckoned Pa_coalReckoned) := hD
  refine lv_if_eq (tgt := 17) hx hb dX2_setSails_4 (by decide) (fun hc2 => ?_) (fun hc2 => ?_)
  · have hf := ift hf hc2
    refine lv_iconst (v := (-1 : Int32)) hx hb dX2_setSails_17 (by decide) ?_
    exact rq_i C0 (Pa_sailMiles, Pa_daysReckoned) (pr_2 hf) hP hD hS dX2_setSails_18
  · have hf := iff_ hf hc2
    refine lv_iload_n hx hb dX2_setSails_7 rfl (lv_at hl 2 rfl) ?_
    refine lv_iconst (v := (0 : Int32)) hx hb dX2_setSails_8 (by decide) ?_
    refine lv_bipush (v := (20 : Int32)) hx hb dX2_setSails_9 (by decide) ?_
    obtain ⟨u3, eu3, hf⟩ := Option.bind_eq_some_iff.mp hf
    refine cq_i (wc' := fun (u : Unit) => ([] : va_W)) (ws' := fun (u : Unit) => (wX2 cy qPa Pa_sailMiles Pa_weights Pa_chance Pa_burnt Pa_engineMiles Pa_daysReckoned Pa_milesReckoned Pa_coalReckoned)) (wc := ([] : va_W)) (wr := (wX2 cy qPa Pa_sailMiles Pa_weights Pa_chance Pa_burnt Pa_engineMiles Pa_daysReckoned Pa_milesReckoned Pa_coalReckoned)) C0 hP hD hS [] [0, 1, 2, 3, 4] [0, 1, 2, 3, 4] rfl rfl (by decide) (by decide) (by decide) (fun _ => rfl) (va_runSN (As := [.int x2, .int (0 : Int32), .int (20 : Int32)]) (rest := []) ⟨hx, hb, hml, hown, hts⟩ (c_X8_isWithin l D cy   H.size x2 (0 : Int32) (20 : Int32) u3 eu3) ⟨va_cnB 3 hts gX2_setSails_X8_isWithin_n37 rfl rfl rfl (hN _ nw_X2_37) (hts _ m_X2_setSails_i_X8) (by decide +kernel) ⟨Nat.le_of_ble_eq_true rfl, Nat.le_of_ble_eq_true rfl⟩, hts _ m_X2_setSails_s_X8_isWithin, trivial⟩ (pre_S (hP.sub (ws' := ([] : va_W)) [] rfl) hK (hD.sub (ws' := ([] : va_W)) [] (by decide) rfl) hN) rfl rfl hl.1 rfl (lv_room (Nat.le_of_ble_eq_true rfl)) dX2_setSails_11 ⟨Nat.zero_le _, Nat.zero_le _⟩) (fun r u H locs hw hP hD hS => ?_)
    have hw := hw.symm
    subst hw
    have hP : va_P D vwCl (wX2 cy qPa Pa_sailMiles Pa_weights Pa_chance Pa_burnt Pa_engineMiles Pa_daysReckoned Pa_milesReckoned Pa_coalReckoned) H := hP
    have hD : va_D A (wX2 cy qPa Pa_sailMiles Pa_weights Pa_chance Pa_burnt Pa_engineMiles Pa_daysReckoned Pa_milesReckoned Pa_coalReckoned) := hD
    refine lv_if_ne (tgt := 19) hx hb dX2_setSails_14 (by decide) (fun hc4 => ?_) (fun hc4 => ?_)
    · have hf := iff_ hf hc4
      refine lv_aload_n hx hb dX2_setSails_19 rfl (lv_at hl 0 rfl) ?_
      refine va_get (D := D) (ci := 2) (v := .ref (qPa 1)) (C := RX2) (T := TX2) (N := 8) hx hb hts i_X2_setSails_X2 hown hK hP 0 rfl rfl 0 (by decide) (hts _ m_X2_setSails_f11) (fun _ h9 => h9) rfl dX2_setSails_20 ?_
      refine lv_iload_n hx hb dX2_setSails_23 rfl (lv_at hl 1 rfl) ?_
      refine lv_iload_n hx hb dX2_setSails_24 rfl (lv_at hl 2 rfl) ?_
      obtain ⟨hz5, hf⟩ := ifn hf
      refine va_iast hx hb hK hP hD hS 1 0 rfl rfl (inb_in hz5) dX2_setSails_25 (fun H locs hP hD hS => ?_)
      have hP : va_P D vwCl (wX2 cy qPa (upd Pa_sailMiles x1.toNatClampNeg x2) Pa_weights Pa_chance Pa_burnt Pa_engineMiles Pa_daysReckoned Pa_milesReckoned Pa_coalReckoned) H := hP
      have hD : va_D A (wX2 cy qPa (upd Pa_sailMiles x1.toNatClampNeg x2) Pa_weights Pa_chance Pa_burnt Pa_engineMiles Pa_daysReckoned Pa_milesReckoned Pa_coalReckoned) := hD
      refine lv_aload_n hx hb dX2_setSails_26 rfl (lv_at hl 0 rfl) ?_
      refine lv_iconst (v := (0 : Int32)) hx hb dX2_setSails_27 (by decide) ?_
      refine va_put (D := D) (ci := 2) (v := .int (0 : Int32)) (ty := .int) (C := RX2) (T := TX2) (N := 8) hx hb hts i_X2_setSails_X2 tyX2 tyX2_ok nmX2 hown hK hP hD hS 0 rfl rfl 5 (by decide) (hts _ m_X2_setSails_f41) (fun _ h9 => h9) rfl (by decide +kernel) rfl rfl (Nat.le_of_ble_eq_true rfl) dX2_setSails_28 (fun H locs hP hD hS => ?_)
      have hP : va_P D vwCl (wX2 cy qPa (upd Pa_sailMiles x1.toNatClampNeg x2) Pa_weights Pa_chance Pa_burnt Pa_engineMiles (0 : Int32) Pa_milesReckoned Pa_coalReckoned) H := hP
      have hD : va_D A (wX2 cy qPa (upd Pa_sailMiles x1.toNatClampNeg x2) Pa_weights Pa_chance Pa_burnt Pa_engineMiles (0 : Int32) Pa_milesReckoned Pa_coalReckoned) := hD
      refine lv_iconst (v := (0 : Int32)) hx hb dX2_setSails_31 (by decide) ?_
      exact rq_i C0 ((upd Pa_sailMiles x1.toNatClampNeg x2), (0 : Int32)) (pr_2 hf) hP hD hS dX2_setSails_32
    · have hf := ift hf hc4
      refine lv_iconst (v := (-1 : Int32)) hx hb dX2_setSails_17 (by decide) ?_
      exact rq_i C0 (Pa_sailMiles, Pa_daysReckoned) (pr_2 hf) hP hD hS dX2_setSails_18

theorem m_X2_setEngine_s_X8_isWithin : Cond.static yX8_isWithin ∈ wsX2_setEngine := by decide +kernel
theorem m_X2_setEngine_i_X8 : Cond.initialized RX8 ∈ wsX2_setEngine := by decide +kernel
theorem i_X2_setEngine_X2 : ∀ w ∈ wsX20, w ∈ wsX2_setEngine := by decide +kernel
theorem m_X2_setEngine_f45 : Cond.fieldLink RX2 45 "SailCargo$Passage" "engineMiles" "I" ∈ wsX2_setEngine := by decide +kernel
theorem m_X2_setEngine_f41 : Cond.fieldLink RX2 41 "SailCargo$Passage" "daysReckoned" "I" ∈ wsX2_setEngine := by decide +kernel
set_option maxHeartbeats 4000000 in
set_option maxRecDepth 100000 in
theorem c_X2_setEngine (l : Launch) (D : va_G) (cy : Nat → ClassId) (qPa : Nat → Nat) (Pa_sailMiles : Nat → Int32) (Pa_weights : Nat → Int32) (Pa_chance : Nat → Int64) (Pa_burnt : Nat → Int64) (Pa_engineMiles : Int32) (Pa_daysReckoned : Int32) (Pa_milesReckoned : Int32) (Pa_coalReckoned : Int32) (sz : Nat) (x1 : Int32) (X : Int32 × (Int32) × (Int32)) (hf : f_X2_setEngine Pa_engineMiles Pa_daysReckoned x1 = some X) : Met l yX2_setEngine wsX2_setEngine ({ frames := 1, cells := 0, slots := 0, locals := 22 } : Room) (va_Pc [.ref (qPa 0), .int x1] (PW D cy (wX2 cy qPa Pa_sailMiles Pa_weights Pa_chance Pa_burnt Pa_engineMiles Pa_daysReckoned Pa_milesReckoned Pa_coalReckoned) sz)) (va_Qi (fun (r : Int32) (u : (Int32) × (Int32)) => r = X.1 ∧ u = X.2) (fun u t => BW D cy (va_A (wX2 cy qPa Pa_sailMiles Pa_weights Pa_chance Pa_burnt Pa_engineMiles Pa_daysReckoned Pa_milesReckoned Pa_coalReckoned) sz) (wX2 cy qPa Pa_sailMiles Pa_weights Pa_chance Pa_burnt u.1 u.2 Pa_milesReckoned Pa_coalReckoned) t) (va_A (wX2 cy qPa Pa_sailMiles Pa_weights Pa_chance Pa_burnt Pa_engineMiles Pa_daysReckoned Pa_milesReckoned Pa_coalReckoned) sz)) 0 0 (va_A (wX2 cy qPa Pa_sailMiles Pa_weights Pa_chance Pa_burnt Pa_engineMiles Pa_daysReckoned Pa_milesReckoned Pa_coalReckoned) sz) := by
  refine met_enter (Qc := fun A => (va_Qi (fun (r : Int32) (u : (Int32) × (Int32)) => r = X.1 ∧ u = X.2) (fun u t => BW D cy A (wX2 cy qPa Pa_sailMiles Pa_weights Pa_chance Pa_burnt u.1 u.2 Pa_milesReckoned Pa_coalReckoned) t) A)) (lv0 := [(0, .ref (qPa 0)), (1, .int x1)]) (by decide) rfl (Nat.le_of_ble_eq_true rfl) rfl ?_
  intro p e s m below meth c A ls hnm C0 hP hD hS hl
  generalize hH : s.heap = H at hP ⊢
  generalize hLoc : ([] : List Loc) = locs at hS ⊢
  have hS : va_S A s.heap H locs := by rw [← hH]; exact hS
  have C0 : CX cX2_setEngine 3 (some .int) RX2 wsX2_setEngine D cy p s m _ meth c A := C0
  obtain ⟨hx, hb, hr, hml, hown, hts, hK, hA, hN, hlocks⟩ := id C0
  unfold f_X2_setEngine at hf
  refine lv_iload_n hx hb dX2_setEngine_0 rfl (lv_at hl 1 rfl) ?_
  refine lv_iconst (v := (0 : Int32)) hx hb dX2_setEngine_1 (by decide) ?_
  refine lv_bipush (v := (20 : Int32)) hx hb dX2_setEngine_2 (by decide) ?_
  obtain ⟨u1, eu1, hf⟩ := Option.bind_eq_some_iff.mp hf
  refine cq_i (wc' := fun (u : Unit) => ([] : va_W)) (ws' := fun (u : Unit) => (wX2 cy qPa Pa_sailMiles Pa_weights Pa_chance Pa_burnt Pa_engineMiles Pa_daysReckoned Pa_milesReckoned Pa_coalReckoned)) (wc := ([] : va_W)) (wr := (wX2 cy qPa Pa_sailMiles Pa_weights Pa_chance Pa_burnt Pa_engineMiles Pa_daysReckoned Pa_milesReckoned Pa_coalReckoned)) C0 hP hD hS [] [0, 1, 2, 3, 4] [0, 1, 2, 3, 4] rfl rfl (by decide) (by decide) (by decide) (fun _ => rfl) (va_runSN (As := [.int x1, .int (0 : Int32), .int (20 : Int32)]) (rest := []) ⟨hx, hb, hml, hown, hts⟩ (c_X8_isWithin l D cy   H.size x1 (0 : Int32) (20 : Int32) u1 eu1) ⟨va_cnB 3 hts gX2_setEngine_X8_isWithin_n37 rfl rfl rfl (hN _ nw_X2_37) (hts _ m_X2_setEngine_i_X8) (by decide +kernel) ⟨Nat.le_of_ble_eq_true rfl, Nat.le_of_ble_eq_true rfl⟩, hts _ m_X2_setEngine_s_X8_isWithin, trivial⟩ (pre_S (hP.sub (ws' := ([] : va_W)) [] rfl) hK (hD.sub (ws' := ([] : va_W)) [] (by decide) rfl) hN) rfl rfl hl.1 rfl (lv_room (Nat.le_of_ble_eq_true rfl)) dX2_setEngine_4 ⟨Nat.zero_le _, Nat.zero_le _⟩) (fun r u H locs hw hP hD hS => ?_)
  have hw := hw.symm
  subst hw
  have hP : va_P D vwCl (wX2 cy qPa Pa_sailMiles Pa_weights Pa_chance Pa_burnt Pa_engineMiles Pa_daysReckoned Pa_milesReckoned Pa_coalReckoned) H := hP
  have hD : va_D A (wX2 cy qPa Pa_sailMiles Pa_weights Pa_chance Pa_burnt Pa_engineMiles Pa_daysReckoned Pa_milesReckoned Pa_coalReckoned) := hD
  refine lv_if_ne (tgt := 12) hx hb dX2_setEngine_7 (by decide) (fun hc2 => ?_) (fun hc2 => ?_)
  · have hf := iff_ hf hc2
    refine lv_aload_n hx hb dX2_setEngine_12 rfl (lv_at hl 0 rfl) ?_
    refine va_get (D := D) (ci := 2) (v := .int Pa_engineMiles) (C := RX2) (T := TX2) (N := 8) hx hb hts i_X2_setEngine_X2 hown hK hP 0 rfl rfl 4 (by decide) (hts _ m_X2_setEngine_f45) (fun _ h9 => h9) rfl dX2_setEngine_13 ?_
    refine lv_istore_n (lv' := [(2, .int Pa_engineMiles), (0, .ref (qPa 0)), (1, .int x1)]) hx hb dX2_setEngine_16 rfl hl (by decide) rfl (fun ls hl => ?_)
    refine lv_aload_n hx hb dX2_setEngine_17 rfl (lv_at hl 1 rfl) ?_
    refine lv_iload_n hx hb dX2_setEngine_18 rfl (lv_at hl 2 rfl) ?_
    refine va_put (D := D) (ci := 2) (v := .int x1) (ty := .int) (C := RX2) (T := TX2) (N := 8) hx hb hts i_X2_setEngine_X2 tyX2 tyX2_ok nmX2 hown hK hP hD hS 0 rfl rfl 4 (by decide) (hts _ m_X2_setEngine_f45) (fun _ h9 => h9) rfl (by decide +kernel) rfl rfl (Nat.le_of_ble_eq_true rfl) dX2_setEngine_19 (fun H locs hP hD hS => ?_)
    have hP : va_P D vwCl (wX2 cy qPa Pa_sailMiles Pa_weights Pa_chance Pa_burnt x1 Pa_daysReckoned Pa_milesReckoned Pa_coalReckoned) H := hP
    have hD : va_D A (wX2 cy qPa Pa_sailMiles Pa_weights Pa_chance Pa_burnt x1 Pa_daysReckoned Pa_milesReckoned Pa_coalReckoned) := hD
    refine lv_aload_n hx hb dX2_setEngine_22 rfl (lv_at hl 1 rfl) ?_
    refine lv_iconst (v := (0 : Int32)) hx hb dX2_setEngine_23 (by decide) ?_
    refine va_put (D := D) (ci := 2) (v := .int (0 : Int32)) (ty := .int) (C := RX2) (T := TX2) (N := 8) hx hb hts i_X2_setEngine_X2 tyX2 tyX2_ok nmX2 hown hK hP hD hS 0 rfl rfl 5 (by decide) (hts _ m_X2_setEngine_f41) (fun _ h9 => h9) rfl (by decide +kernel) rfl rfl (Nat.le_of_ble_eq_true rfl) dX2_setEngine_24 (fun H locs hP hD hS => ?_)
    have hP : va_P D vwCl (wX2 cy qPa Pa_sailMiles Pa_weights Pa_chance Pa_burnt x1 (0 : Int32) Pa_milesReckoned Pa_coalReckoned) H := hP
    have hD : va_D A (wX2 cy qPa Pa_sailMiles Pa_weights Pa_chance Pa_burnt x1 (0 : Int32) Pa_milesReckoned Pa_coalReckoned) := hD
    refine lv_iload_n hx hb dX2_setEngine_27 rfl (lv_at hl 0 rfl) ?_
    exact rq_i C0 (x1, (0 : Int32)) (pr_2 hf) hP hD hS dX2_setEngine_28
  · have hf := ift hf hc2
    refine lv_iconst (v := (-1 : Int32)) hx hb dX2_setEngine_10 (by decide) ?_
    exact rq_i C0 (Pa_engineMiles, Pa_daysReckoned) (pr_2 hf) hP hD hS dX2_setEngine_11

theorem i_X7_weightOf_X7 : ∀ w ∈ wsX70, w ∈ wsX7_weightOf := by decide +kernel
theorem m_X7_weightOf_f15 : Cond.fieldLink RX7 15 "SailCargo$Weather" "knownFrom" "[I" ∈ wsX7_weightOf := by decide +kernel
theorem m_X7_weightOf_f11 : Cond.fieldLink RX7 11 "SailCargo$Weather" "weights" "[I" ∈ wsX7_weightOf := by decide +kernel
theorem m_X7_weightOf_f25 : Cond.fieldLink RX7 25 "SailCargo$Weather" "told" "I" ∈ wsX7_weightOf := by decide +kernel
set_option maxHeartbeats 4000000 in
set_option maxRecDepth 100000 in
theorem w_X7_weightOf_7 {p : Program} {l : Launch} {e : Env} {s : State} {m : MethodId} {args : Array Value} {below : List Frame} {meth : Method} {c : Code} {A : Nat → Prop} {D : va_G} {cy : Nat → ClassId} {qWe : Nat → Nat} {We_weights We_knownFrom : Nat → Int32} {We_told : Int32} {X : Int32}  (C0 : CX cX7_weightOf 4 (some .int) RX7 wsX7_weightOf D cy p s m args meth c A)  : ∀ (n : Nat)  (x1 : Int32) (x2 : Int32) (x3 : Int32), g_X7_weightOf_7 We_weights We_knownFrom We_told n x1 x2 x3 = some X → ∀ (H : Heap) (locs : List Loc) (ls : Array Slot), va_P D vwCl (wX7 cy qWe We_weights We_knownFrom We_told) H → va_D A (wX7 cy qWe We_weights We_knownFrom We_told) → va_S A s.heap H locs → lv_has ls 4 [(0, .ref (qWe 0)), (1, .int x1), (2, .int x2), (3, .int x3)] → W p l e ({ frames := 0, cells := 0, slots := 0, locals := 0 } : Room) s m args below meth c H locs 0 0 (MQ below (va_Qi (fun (r : Int32) (_ : Unit) => r = X) (fun u t => BW D cy A (wX7 cy qWe We_weights We_knownFrom We_told) t) A) args s 0 0 A) (F0 m 7 ls []) := by
  obtain ⟨hx, hb, hr, hml, hown, hts, hK, hA, hN, hlocks⟩ := id C0
  intro n
  induction n with
  | zero => intro x1 x2 x3 hf; exact (no_some hf).elim
  | succ n hk7 =>
    intro x1 x2 x3 hf H locs ls hP hD hS hl
    have hf : f_X7_weightOf_7 We_weights We_knownFrom We_told (fun x1 x2 x3 => g_X7_weightOf_7 We_weights We_knownFrom We_told n x1 x2 x3) x1 x2 x3 = some X := hf
    unfold f_X7_weightOf_7 at hf
    refine lv_iload_n hx hb dX7_weightOf_7 rfl (lv_at hl 3 rfl) ?_
    refine lv_if_lt (tgt := 38) hx hb dX7_weightOf_8 (by decide) (fun hc1 => ?_) (fun hc1 => ?_)
    · have hf := ift hf hc1
      refine lv_iconst (v := (4 : Int32)) hx hb dX7_weightOf_38 (by decide) ?_
      exact rq_i C0 () (Option.some.inj hf) hP hD hS dX7_weightOf_39
    · have hf := iff_ hf hc1
      refine lv_aload_n hx hb dX7_weightOf_11 rfl (lv_at hl 0 rfl) ?_
      refine va_get (D := D) (ci := 7) (v := .ref (qWe 2)) (C := RX7) (T := TX7) (N := 3) hx hb hts i_X7_weightOf_X7 hown hK hP 0 rfl rfl 1 (by decide) (hts _ m_X7_weightOf_f15) (fun _ h9 => h9) rfl dX7_weightOf_12 ?_
      refine lv_iload_n hx hb dX7_weightOf_15 rfl (lv_at hl 3 rfl) ?_
      obtain ⟨hz2, hf⟩ := ifn hf
      refine va_iald hx hb hK hP 2 0 rfl rfl (inb_in hz2) dX7_weightOf_16 ?_
      refine lv_iload_n hx hb dX7_weightOf_17 rfl (lv_at hl 2 rfl) ?_
      refine lv_icmp_gt (tgt := 32) hx hb dX7_weightOf_18 (by decide) (fun hc3 => ?_) (fun hc3 => ?_)
      · have hf := ift hf hc3
        refine lv_iinc (v := (x3 + (-1))) (lv' := [(3, .int (x3 + (-1))), (0, .ref (qWe 0)), (1, .int x1), (2, .int x2)]) hx hb dX7_weightOf_32 hl (k := 3) rfl rfl (by decide) rfl (fun ls hl => ?_)
        refine lv_goto (tgt := 7) hx hb dX7_weightOf_35 (by decide) ?_
        exact hk7 x1 x2 (x3 + (-1)) hf H locs ls hP hD hS (lv_sub hl [1, 2, 3, 0] rfl)
      · have hf := iff_ hf hc3
        refine lv_aload_n hx hb dX7_weightOf_21 rfl (lv_at hl 0 rfl) ?_
        refine va_get (D := D) (ci := 7) (v := .ref (qWe 1)) (C := RX7) (T := TX7) (N := 3) hx hb hts i_X7_weightOf_X7 hown hK hP 0 rfl rfl 0 (by decide) (hts _ m_X7_weightOf_f11) (fun _ h9 => h9) rfl dX7_weightOf_22 ?_
        refine lv_iload_n hx hb dX7_weightOf_25 rfl (lv_at hl 3 rfl) ?_
        refine lv_iconst (v := (4 : Int32)) hx hb dX7_weightOf_26 (by decide) ?_
        refine lv_imul hx hb dX7_weightOf_27 ?_
        refine lv_iload_n hx hb dX7_weightOf_28 rfl (lv_at hl 1 rfl) ?_
        refine lv_iadd hx hb dX7_weightOf_29 ?_
        obtain ⟨hz4, hf⟩ := ifn hf
        refine va_iald hx hb hK hP 1 0 rfl rfl (inb_in hz4) dX7_weightOf_30 ?_
        exact rq_i C0 () (Option.some.inj hf) hP hD hS dX7_weightOf_31

set_option maxHeartbeats 4000000 in
set_option maxRecDepth 100000 in
theorem c_X7_weightOf (l : Launch) (D : va_G) (cy : Nat → ClassId) (qWe : Nat → Nat) (We_weights : Nat → Int32) (We_knownFrom : Nat → Int32) (We_told : Int32) (sz : Nat) (x1 : Int32) (x2 : Int32) (X : Int32) (hf : f_X7_weightOf We_weights We_knownFrom We_told x1 x2 = some X) : Met l yX7_weightOf wsX7_weightOf ({ frames := 0, cells := 0, slots := 0, locals := 0 } : Room) (va_Pc [.ref (qWe 0), .int x1, .int x2] (PW D cy (wX7 cy qWe We_weights We_knownFrom We_told) sz)) (va_Qi (fun (r : Int32) (_ : Unit) => r = X) (fun u t => BW D cy (va_A (wX7 cy qWe We_weights We_knownFrom We_told) sz) (wX7 cy qWe We_weights We_knownFrom We_told) t) (va_A (wX7 cy qWe We_weights We_knownFrom We_told) sz)) 0 0 (va_A (wX7 cy qWe We_weights We_knownFrom We_told) sz) := by
  refine met_enter (Qc := fun A => (va_Qi (fun (r : Int32) (_ : Unit) => r = X) (fun u t => BW D cy A (wX7 cy qWe We_weights We_knownFrom We_told) t) A)) (lv0 := [(0, .ref (qWe 0)), (1, .int x1), (2, .int x2)]) (by decide) rfl (Nat.le_of_ble_eq_true rfl) rfl ?_
  intro p e s m below meth c A ls hnm C0 hP hD hS hl
  generalize hH : s.heap = H at hP ⊢
  generalize hLoc : ([] : List Loc) = locs at hS ⊢
  have hS : va_S A s.heap H locs := by rw [← hH]; exact hS
  have C0 : CX cX7_weightOf 4 (some .int) RX7 wsX7_weightOf D cy p s m _ meth c A := C0
  obtain ⟨hx, hb, hr, hml, hown, hts, hK, hA, hN, hlocks⟩ := id C0
  unfold f_X7_weightOf at hf
  refine lv_aload_n hx hb dX7_weightOf_0 rfl (lv_at hl 0 rfl) ?_
  refine va_get (D := D) (ci := 7) (v := .int We_told) (C := RX7) (T := TX7) (N := 3) hx hb hts i_X7_weightOf_X7 hown hK hP 0 rfl rfl 2 (by decide) (hts _ m_X7_weightOf_f25) (fun _ h9 => h9) rfl dX7_weightOf_1 ?_
  refine lv_iconst (v := (1 : Int32)) hx hb dX7_weightOf_4 (by decide) ?_
  refine lv_isub hx hb dX7_weightOf_5 ?_
  refine lv_istore_n (lv' := [(3, .int (We_told - (1 : Int32))), (0, .ref (qWe 0)), (1, .int x1), (2, .int x2)]) hx hb dX7_weightOf_6 rfl hl (by decide) rfl (fun ls hl => ?_)
  exact w_X7_weightOf_7 C0  FU x1 x2 (We_told - (1 : Int32)) hf H locs ls hP hD hS (lv_sub hl [1, 2, 3, 0] rfl)

theorem i_X2_know_X2 : ∀ w ∈ wsX20, w ∈ wsX2_know := by decide +kernel
theorem m_X2_know_f15 : Cond.fieldLink RX2 15 "SailCargo$Passage" "weights" "[I" ∈ wsX2_know := by decide +kernel
theorem m_X2_know_f41 : Cond.fieldLink RX2 41 "SailCargo$Passage" "daysReckoned" "I" ∈ wsX2_know := by decide +kernel
set_option maxHeartbeats 4000000 in
set_option maxRecDepth 100000 in
theorem w_X2_know_39 {p : Program} {l : Launch} {e : Env} {s : State} {m : MethodId} {args : Array Value} {below : List Frame} {meth : Method} {c : Code} {A : Nat → Prop} {D : va_G} {cy : Nat → ClassId} {qPa qWe : Nat → Nat} {Pa_sailMiles : Nat → Int32} {Pa_chance Pa_burnt : Nat → Int64} {Pa_engineMiles Pa_milesReckoned Pa_coalReckoned : Int32} {We_weights We_knownFrom : Nat → Int32} {We_told : Int32} {X : (Nat → Int32) × (Int32)} {kh2 : (Nat → Int32) → (Int32) → Int32 → Int32 → Option ((Nat → Int32) × (Int32))} (C0 : CX cX2_know 5 none RX2 wsX2_know D cy p s m args meth c A) (hk2 : ∀ (Pa_weights : Nat → Int32) (Pa_daysReckoned : Int32) (x2 : Int32) (x3 : Int32), kh2 Pa_weights Pa_daysReckoned x2 x3 = some X → ∀ (H : Heap) (locs : List Loc) (ls : Array Slot), va_P D vwCl (wX2 cy qPa Pa_sailMiles Pa_weights Pa_chance Pa_burnt Pa_engineMiles Pa_daysReckoned Pa_milesReckoned Pa_coalReckoned ++ (wX7 cy qWe We_weights We_knownFrom We_told)) H → va_D A (wX2 cy qPa Pa_sailMiles Pa_weights Pa_chance Pa_burnt Pa_engineMiles Pa_daysReckoned Pa_milesReckoned Pa_coalReckoned ++ (wX7 cy qWe We_weights We_knownFrom We_told)) → va_S A s.heap H locs → lv_has ls 5 [(0, .ref (qPa 0)), (1, .ref (qWe 0)), (2, .int x2), (3, .int x3)] → W p l e ({ frames := 1, cells := 0, slots := 0, locals := 23 } : Room) s m args below meth c H locs 0 0 (MQ below (va_Qv (fun (u : (Nat → Int32) × (Int32)) => u = X) (fun u t => BW D cy A (wX2 cy qPa Pa_sailMiles u.1 Pa_chance Pa_burnt Pa_engineMiles u.2 Pa_milesReckoned Pa_coalReckoned ++ (wX7 cy qWe We_weights We_knownFrom We_told)) t) A) args s 0 0 A) (F0 m 2 ls [])) (Pa_weights : Nat → Int32) (Pa_daysReckoned : Int32) (x2 : Int32) (x3 : Int32) (hf : f_X2_know_39 We_weights We_knownFrom We_told kh2 Pa_weights Pa_daysReckoned x2 x3 = some X) : ∀ (H : Heap) (locs : List Loc) (ls : Array Slot), va_P D vwCl (wX2 cy qPa Pa_sailMiles Pa_weights Pa_chance Pa_burnt Pa_engineMiles Pa_daysReckoned Pa_milesReckoned Pa_coalReckoned ++ (wX7 cy qWe We_weights We_knownFrom We_told)) H → va_D A (wX2 cy qPa Pa_sailMiles Pa_weights Pa_chance Pa_burnt Pa_engineMiles Pa_daysReckoned Pa_milesReckoned Pa_coalReckoned ++ (wX7 cy qWe We_weights We_knownFrom We_told)) → va_S A s.heap H locs → lv_has ls 5 [(0, .ref (qPa 0)), (1, .ref (qWe 0)), (2, .int x2), (3, .int x3)] → W p l e ({ frames := 1, cells := 0, slots := 0, locals := 23 } : Room) s m args below meth c H locs 0 0 (MQ below (va_Qv (fun (u : (Nat → Int32) × (Int32)) => u = X) (fun u t => BW D cy A (wX2 cy qPa Pa_sailMiles u.1 Pa_chance Pa_burnt Pa_engineMiles u.2 Pa_milesReckoned Pa_coalReckoned ++ (wX7 cy qWe We_weights We_knownFrom We_told)) t) A) args s 0 0 A) (F0 m 39 ls []) := by
  obtain ⟨hx, hb, hr, hml, hown, hts, hK, hA, hN, hlocks⟩ := id C0
  intro H locs ls hP hD hS hl
  unfold f_X2_know_39 at hf
  refine lv_iinc (v := (x3 + 1)) (lv' := [(3, .int (x3 + 1)), (0, .ref (qPa 0)), (1, .ref (qWe 0)), (2, .int x2)]) hx hb dX2_know_39 hl (k := 3) rfl rfl (by decide) rfl (fun ls hl => ?_)
  refine lv_goto (tgt := 2) hx hb dX2_know_42 (by decide) ?_
  exact hk2 Pa_weights Pa_daysReckoned x2 (x3 + 1) hf H locs ls hP hD hS (lv_sub hl [1, 2, 3, 0] rfl)

set_option maxHeartbeats 4000000 in
set_option maxRecDepth 100000 in
theorem w_X2_know_2 {p : Program} {l : Launch} {e : Env} {s : State} {m : MethodId} {args : Array Value} {below : List Frame} {meth : Method} {c : Code} {A : Nat → Prop} {D : va_G} {cy : Nat → ClassId} {qPa qWe : Nat → Nat} {Pa_sailMiles : Nat → Int32} {Pa_chance Pa_burnt : Nat → Int64} {Pa_engineMiles Pa_milesReckoned Pa_coalReckoned : Int32} {We_weights We_knownFrom : Nat → Int32} {We_told : Int32} {X : (Nat → Int32) × (Int32)}  (C0 : CX cX2_know 5 none RX2 wsX2_know D cy p s m args meth c A)  : ∀ (n : Nat) (Pa_weights : Nat → Int32) (Pa_daysReckoned : Int32) (x2 : Int32) (x3 : Int32), g_X2_know_2 We_weights We_knownFrom We_told n Pa_weights Pa_daysReckoned x2 x3 = some X → ∀ (H : Heap) (locs : List Loc) (ls : Array Slot), va_P D vwCl (wX2 cy qPa Pa_sailMiles Pa_weights Pa_chance Pa_burnt Pa_engineMiles Pa_daysReckoned Pa_milesReckoned Pa_coalReckoned ++ (wX7 cy qWe We_weights We_knownFrom We_told)) H → va_D A (wX2 cy qPa Pa_sailMiles Pa_weights Pa_chance Pa_burnt Pa_engineMiles Pa_daysReckoned Pa_milesReckoned Pa_coalReckoned ++ (wX7 cy qWe We_weights We_knownFrom We_told)) → va_S A s.heap H locs → lv_has ls 5 [(0, .ref (qPa 0)), (1, .ref (qWe 0)), (2, .int x2), (3, .int x3)] → W p l e ({ frames := 1, cells := 0, slots := 0, locals := 23 } : Room) s m args below meth c H locs 0 0 (MQ below (va_Qv (fun (u : (Nat → Int32) × (Int32)) => u = X) (fun u t => BW D cy A (wX2 cy qPa Pa_sailMiles u.1 Pa_chance Pa_burnt Pa_engineMiles u.2 Pa_milesReckoned Pa_coalReckoned ++ (wX7 cy qWe We_weights We_knownFrom We_told)) t) A) args s 0 0 A) (F0 m 2 ls []) := by
  obtain ⟨hx, hb, hr, hml, hown, hts, hK, hA, hN, hlocks⟩ := id C0
  intro n
  induction n with
  | zero => intro Pa_weights Pa_daysReckoned x2 x3 hf; exact (no_some hf).elim
  | succ n hk2 =>
    intro Pa_weights Pa_daysReckoned x2 x3 hf H locs ls hP hD hS hl
    have hf : f_X2_know_2 We_weights We_knownFrom We_told (fun Pa_weights Pa_daysReckoned x2 x3 => g_X2_know_2 We_weights We_knownFrom We_told n Pa_weights Pa_daysReckoned x2 x3) Pa_weights Pa_daysReckoned x2 x3 = some X := hf
    unfold f_X2_know_2 at hf
    refine lv_iload_n hx hb dX2_know_2 rfl (lv_at hl 3 rfl) ?_
    refine lv_iconst (v := (4 : Int32)) hx hb dX2_know_3 (by decide) ?_
    refine lv_icmp_ge (tgt := 45) hx hb dX2_know_4 (by decide) (fun hc1 => ?_) (fun hc1 => ?_)
    · have hf := ift hf hc1
      exact rq_v C0 (Pa_weights, Pa_daysReckoned) (Option.some.inj hf) hP hD hS dX2_know_45
    · have hf := iff_ hf hc1
      refine lv_aload_n hx hb dX2_know_7 rfl (lv_at hl 1 rfl) ?_
      refine lv_iload_n hx hb dX2_know_8 rfl (lv_at hl 3 rfl) ?_
      refine lv_iload_n hx hb dX2_know_9 rfl (lv_at hl 2 rfl) ?_
      obtain ⟨u2, eu2, hf⟩ := Option.bind_eq_some_iff.mp hf
      refine cq_i (wc' := fun (u : Unit) => (wX7 cy qWe We_weights We_knownFrom We_told)) (ws' := fun (u : Unit) => (wX2 cy qPa Pa_sailMiles Pa_weights Pa_chance Pa_burnt Pa_engineMiles Pa_daysReckoned Pa_milesReckoned Pa_coalReckoned ++ (wX7 cy qWe We_weights We_knownFrom We_told))) (wc := (wX7 cy qWe We_weights We_knownFrom We_told)) (wr := (wX2 cy qPa Pa_sailMiles Pa_weights Pa_chance Pa_burnt Pa_engineMiles Pa_daysReckoned Pa_milesReckoned Pa_coalReckoned)) C0 hP hD hS [5, 6, 7] [0, 1, 2, 3, 4] [0, 1, 2, 3, 4, 5, 6, 7] rfl rfl (by decide) (by decide) (by decide) (fun _ => rfl) (va_runV (As := [.int x3, .int x2]) (rest := []) ⟨hx, hb, hml, hown, hts⟩ (c_X7_weightOf l D cy qWe We_weights We_knownFrom We_told H.size x3 x2 u2 eu2) (cwV 2 hts gX2_know_X7_weightOf rfl rfl rfl (by decide +kernel) ⟨Nat.le_of_ble_eq_true rfl, Nat.le_of_ble_eq_true rfl⟩) (pre_V (hP.sub (ws' := (wX7 cy qWe We_weights We_knownFrom We_told)) [5, 6, 7] rfl) hK (hD.sub (ws' := (wX7 cy qWe We_weights We_knownFrom We_told)) [5, 6, 7] (by decide) rfl) hN 7 0 rfl rfl) rfl rfl hl.1 rfl (lv_room (Nat.le_of_ble_eq_true rfl)) dX2_know_10 ⟨Nat.zero_le _, Nat.zero_le _⟩) (fun r u H locs hw hP hD hS => ?_)
      have hw := hw.symm
      subst hw
      have hP : va_P D vwCl (wX2 cy qPa Pa_sailMiles Pa_weights Pa_chance Pa_burnt Pa_engineMiles Pa_daysReckoned Pa_milesReckoned Pa_coalReckoned ++ (wX7 cy qWe We_weights We_knownFrom We_told)) H := hP
      have hD : va_D A (wX2 cy qPa Pa_sailMiles Pa_weights Pa_chance Pa_burnt Pa_engineMiles Pa_daysReckoned Pa_milesReckoned Pa_coalReckoned ++ (wX7 cy qWe We_weights We_knownFrom We_told)) := hD
      refine lv_istore (lv' := [(4, .int u2), (0, .ref (qPa 0)), (1, .ref (qWe 0)), (2, .int x2), (3, .int x3)]) hx hb dX2_know_13 hl (by decide) rfl (fun ls hl => ?_)
      refine lv_iload hx hb dX2_know_15 (lv_at hl 0 rfl) ?_
      refine lv_aload_n hx hb dX2_know_17 rfl (lv_at hl 1 rfl) ?_
      refine va_get (D := D) (ci := 2) (v := .ref (qPa 2)) (C := RX2) (T := TX2) (N := 8) hx hb hts i_X2_know_X2 hown hK hP 0 rfl rfl 1 (by decide) (hts _ m_X2_know_f15) (fun _ h9 => h9) rfl dX2_know_18 ?_
      refine lv_iload_n hx hb dX2_know_21 rfl (lv_at hl 4 rfl) ?_
      obtain ⟨hz3, hf⟩ := ifn hf
      refine va_iald hx hb hK hP 2 0 rfl rfl (inb_in hz3) dX2_know_22 ?_
      refine lv_icmp_eq (tgt := 39) hx hb dX2_know_23 (by decide) (fun hc4 => ?_) (fun hc4 => ?_)
      · have hf := ift hf hc4
        exact w_X2_know_39 C0 hk2 Pa_weights Pa_daysReckoned x2 x3 hf H locs ls hP hD hS (lv_sub hl [1, 2, 3, 4] rfl)
      · have hf := iff_ hf hc4
        refine lv_aload_n hx hb dX2_know_26 rfl (lv_at hl 1 rfl) ?_
        refine va_get (D := D) (ci := 2) (v := .ref (qPa 2)) (C := RX2) (T := TX2) (N := 8) hx hb hts i_X2_know_X2 hown hK hP 0 rfl rfl 1 (by decide) (hts _ m_X2_know_f15) (fun _ h9 => h9) rfl dX2_know_27 ?_
        refine lv_iload_n hx hb dX2_know_30 rfl (lv_at hl 4 rfl) ?_
        refine lv_iload hx hb dX2_know_31 (lv_at hl 0 rfl) ?_
        refine va_iast hx hb hK hP hD hS 2 0 rfl rfl (inb_in hz3) dX2_know_33 (fun H locs hP hD hS => ?_)
        have hP : va_P D vwCl (wX2 cy qPa Pa_sailMiles (upd Pa_weights x3.toNatClampNeg u2) Pa_chance Pa_burnt Pa_engineMiles Pa_daysReckoned Pa_milesReckoned Pa_coalReckoned ++ (wX7 cy qWe We_weights We_knownFrom We_told)) H := hP
        have hD : va_D A (wX2 cy qPa Pa_sailMiles (upd Pa_weights x3.toNatClampNeg u2) Pa_chance Pa_burnt Pa_engineMiles Pa_daysReckoned Pa_milesReckoned Pa_coalReckoned ++ (wX7 cy qWe We_weights We_knownFrom We_told)) := hD
        refine lv_aload_n hx hb dX2_know_34 rfl (lv_at hl 1 rfl) ?_
        refine lv_iconst (v := (0 : Int32)) hx hb dX2_know_35 (by decide) ?_
        refine va_put (D := D) (ci := 2) (v := .int (0 : Int32)) (ty := .int) (C := RX2) (T := TX2) (N := 8) hx hb hts i_X2_know_X2 tyX2 tyX2_ok nmX2 hown hK hP hD hS 0 rfl rfl 5 (by decide) (hts _ m_X2_know_f41) (fun _ h9 => h9) rfl (by decide +kernel) rfl rfl (Nat.le_of_ble_eq_true rfl) dX2_know_36 (fun H locs hP hD hS => ?_)
        have hP : va_P D vwCl (wX2 cy qPa Pa_sailMiles (upd Pa_weights x3.toNatClampNeg u2) Pa_chance Pa_burnt Pa_engineMiles (0 : Int32) Pa_milesReckoned Pa_coalReckoned ++ (wX7 cy qWe We_weights We_knownFrom We_told)) H := hP
        have hD : va_D A (wX2 cy qPa Pa_sailMiles (upd Pa_weights x3.toNatClampNeg u2) Pa_chance Pa_burnt Pa_engineMiles (0 : Int32) Pa_milesReckoned Pa_coalReckoned ++ (wX7 cy qWe We_weights We_knownFrom We_told)) := hD
        exact w_X2_know_39 C0 hk2 (upd Pa_weights x3.toNatClampNeg u2) (0 : Int32) x2 x3 hf H locs ls hP hD hS (lv_sub hl [1, 2, 3, 4] rfl)

set_option maxHeartbeats 4000000 in
set_option maxRecDepth 100000 in
theorem c_X2_know (l : Launch) (D : va_G) (cy : Nat → ClassId) (qPa qWe : Nat → Nat) (Pa_sailMiles : Nat → Int32) (Pa_weights : Nat → Int32) (Pa_chance : Nat → Int64) (Pa_burnt : Nat → Int64) (Pa_engineMiles : Int32) (Pa_daysReckoned : Int32) (Pa_milesReckoned : Int32) (Pa_coalReckoned : Int32) (We_weights : Nat → Int32) (We_knownFrom : Nat → Int32) (We_told : Int32) (sz : Nat) (x2 : Int32) (X : (Nat → Int32) × (Int32)) (hf : f_X2_know Pa_weights Pa_daysReckoned We_weights We_knownFrom We_told x2 = some X) : Met l yX2_know wsX2_know ({ frames := 1, cells := 0, slots := 0, locals := 23 } : Room) (va_Pc [.ref (qPa 0), .ref (qWe 0), .int x2] (PW D cy (wX2 cy qPa Pa_sailMiles Pa_weights Pa_chance Pa_burnt Pa_engineMiles Pa_daysReckoned Pa_milesReckoned Pa_coalReckoned ++ (wX7 cy qWe We_weights We_knownFrom We_told)) sz)) (va_Qv (fun (u : (Nat → Int32) × (Int32)) => u = X) (fun u t => BW D cy (va_A (wX2 cy qPa Pa_sailMiles Pa_weights Pa_chance Pa_burnt Pa_engineMiles Pa_daysReckoned Pa_milesReckoned Pa_coalReckoned ++ (wX7 cy qWe We_weights We_knownFrom We_told)) sz) (wX2 cy qPa Pa_sailMiles u.1 Pa_chance Pa_burnt Pa_engineMiles u.2 Pa_milesReckoned Pa_coalReckoned ++ (wX7 cy qWe We_weights We_knownFrom We_told)) t) (va_A (wX2 cy qPa Pa_sailMiles Pa_weights Pa_chance Pa_burnt Pa_engineMiles Pa_daysReckoned Pa_milesReckoned Pa_coalReckoned ++ (wX7 cy qWe We_weights We_knownFrom We_told)) sz)) 0 0 (va_A (wX2 cy qPa Pa_sailMiles Pa_weights Pa_chance Pa_burnt Pa_engineMiles Pa_daysReckoned Pa_milesReckoned Pa_coalReckoned ++ (wX7 cy qWe We_weights We_knownFrom We_told)) sz) := by
  refine met_enter (Qc := fun A => (va_Qv (fun (u : (Nat → Int32) × (Int32)) => u = X) (fun u t => BW D cy A (wX2 cy qPa Pa_sailMiles u.1 Pa_chance Pa_burnt Pa_engineMiles u.2 Pa_milesReckoned Pa_coalReckoned ++ (wX7 cy qWe We_weights We_knownFrom We_told)) t) A)) (lv0 := [(0, .ref (qPa 0)), (1, .ref (qWe 0)), (2, .int x2)]) (by decide) rfl (Nat.le_of_ble_eq_true rfl) rfl ?_
  intro p e s m below meth c A ls hnm C0 hP hD hS hl
  generalize hH : s.heap = H at hP ⊢
  generalize hLoc : ([] : List Loc) = locs at hS ⊢
  have hS : va_S A s.heap H locs := by rw [← hH]; exact hS
  have C0 : CX cX2_know 5 none RX2 wsX2_know D cy p s m _ meth c A := C0
  obtain ⟨hx, hb, hr, hml, hown, hts, hK, hA, hN, hlocks⟩ := id C0
  unfold f_X2_know at hf
  refine lv_iconst (v := (0 : Int32)) hx hb dX2_know_0 (by decide) ?_
  refine lv_istore_n (lv' := [(3, .int (0 : Int32)), (0, .ref (qPa 0)), (1, .ref (qWe 0)), (2, .int x2)]) hx hb dX2_know_1 rfl hl (by decide) rfl (fun ls hl => ?_)
  exact w_X2_know_2 C0  FU Pa_weights Pa_daysReckoned x2 (0 : Int32) hf H locs ls hP hD hS (lv_sub hl [1, 2, 3, 0] rfl)

theorem i_X2_afterCalm_X2 : ∀ w ∈ wsX20, w ∈ wsX2_afterCalm := by decide +kernel
theorem m_X2_afterCalm_f45 : Cond.fieldLink RX2 45 "SailCargo$Passage" "engineMiles" "I" ∈ wsX2_afterCalm := by decide +kernel
theorem m_X2_afterCalm_m95 : Cond.methodLink RX2 95 Lib.Math.max.name ∈ wsX2_afterCalm := by decide +kernel
theorem m_X2_afterCalm_s95 : Cond.static Lib.Math.max.name ∈ wsX2_afterCalm := by decide +kernel
theorem m_X2_afterCalm_iMath : Cond.initialized "java/lang/Math" ∈ wsX2_afterCalm := by decide +kernel
theorem m_X2_afterCalm_k95 : Cond.code Lib.Math.max.name Lib.Math.max.code 2 (some .int) ∈ wsX2_afterCalm := by decide +kernel
set_option maxHeartbeats 4000000 in
set_option maxRecDepth 100000 in
theorem c_X2_afterCalm (l : Launch) (D : va_G) (cy : Nat → ClassId) (qPa : Nat → Nat) (Pa_sailMiles : Nat → Int32) (Pa_weights : Nat → Int32) (Pa_chance : Nat → Int64) (Pa_burnt : Nat → Int64) (Pa_engineMiles : Int32) (Pa_daysReckoned : Int32) (Pa_milesReckoned : Int32) (Pa_coalReckoned : Int32) (sz : Nat) (x1 : Int32) (x2 : Int32) (x3 : Int32) (x4 : Int32) (X : Int32) (hf : f_X2_afterCalm Pa_engineMiles x1 x2 x3 x4 = some X) : Met l yX2_afterCalm wsX2_afterCalm ({ frames := 1, cells := 0, slots := 0, locals := 22 } : Room) (va_Pc [.ref (qPa 0), .int x1, .int x2, .int x3, .int x4] (PW D cy (wX2 cy qPa Pa_sailMiles Pa_weights Pa_chance Pa_burnt Pa_engineMiles Pa_daysReckoned Pa_milesReckoned Pa_coalReckoned) sz)) (va_Qi (fun (r : Int32) (_ : Unit) => r = X) (fun u t => BW D cy (va_A (wX2 cy qPa Pa_sailMiles Pa_weights Pa_chance Pa_burnt Pa_engineMiles Pa_daysReckoned Pa_milesReckoned Pa_coalReckoned) sz) (wX2 cy qPa Pa_sailMiles Pa_weights Pa_chance Pa_burnt Pa_engineMiles Pa_daysReckoned Pa_milesReckoned Pa_coalReckoned) t) (va_A (wX2 cy qPa Pa_sailMiles Pa_weights Pa_chance Pa_burnt Pa_engineMiles Pa_daysReckoned Pa_milesReckoned Pa_coalReckoned) sz)) 0 0 (va_A (wX2 cy qPa Pa_sailMiles Pa_weights Pa_chance Pa_burnt Pa_engineMiles Pa_daysReckoned Pa_milesReckoned Pa_coalReckoned) sz) := by
  refine met_enter (Qc := fun A => (va_Qi (fun (r : Int32) (_ : Unit) => r = X) (fun u t => BW D cy A (wX2 cy qPa Pa_sailMiles Pa_weights Pa_chance Pa_burnt Pa_engineMiles Pa_daysReckoned Pa_milesReckoned Pa_coalReckoned) t) A)) (lv0 := [(0, .ref (qPa 0)), (1, .int x1), (2, .int x2), (3, .int x3), (4, .int x4)]) (by decide) rfl (Nat.le_of_ble_eq_true rfl) rfl ?_
  intro p e s m below meth c A ls hnm C0 hP hD hS hl
  generalize hH : s.heap = H at hP ⊢
  generalize hLoc : ([] : List Loc) = locs at hS ⊢
  have hS : va_S A s.heap H locs := by rw [← hH]; exact hS
  have C0 : CX cX2_afterCalm 5 (some .int) RX2 wsX2_afterCalm D cy p s m _ meth c A := C0
  obtain ⟨hx, hb, hr, hml, hown, hts, hK, hA, hN, hlocks⟩ := id C0
  unfold f_X2_afterCalm at hf
  refine lv_iload_n hx hb dX2_afterCalm_0 rfl (lv_at hl 1 rfl) ?_
  refine lv_iconst (v := (1 : Int32)) hx hb dX2_afterCalm_1 (by decide) ?_
  refine lv_icmp_ne (tgt := 26) hx hb dX2_afterCalm_2 (by decide) (fun hc1 => ?_) (fun hc1 => ?_)
  · have hf := iff_ hf hc1
    refine lv_iload_n hx hb dX2_afterCalm_26 rfl (lv_at hl 2 rfl) ?_
    refine lv_iconst (v := (1 : Int32)) hx hb dX2_afterCalm_27 (by decide) ?_
    refine lv_isub hx hb dX2_afterCalm_28 ?_
    refine lv_iload_n hx hb dX2_afterCalm_29 rfl (lv_at hl 3 rfl) ?_
    refine lv_iload hx hb dX2_afterCalm_30 (lv_at hl 4 rfl) ?_
    obtain ⟨u2, eu2, hf⟩ := Option.bind_eq_some_iff.mp hf
    refine cq_i (wc' := fun (u : Unit) => ([] : va_W)) (ws' := fun (u : Unit) => (wX2 cy qPa Pa_sailMiles Pa_weights Pa_chance Pa_burnt Pa_engineMiles Pa_daysReckoned Pa_milesReckoned Pa_coalReckoned)) (wc := ([] : va_W)) (wr := (wX2 cy qPa Pa_sailMiles Pa_weights Pa_chance Pa_burnt Pa_engineMiles Pa_daysReckoned Pa_milesReckoned Pa_coalReckoned)) C0 hP hD hS [] [0, 1, 2, 3, 4] [0, 1, 2, 3, 4] rfl rfl (by decide) (by decide) (by decide) (fun _ => rfl) (va_runS (As := [.int (x2 - (1 : Int32)), .int x3, .int x4]) (rest := []) ⟨hx, hb, hml, hown, hts⟩ (c_X2_at l D cy   H.size (x2 - (1 : Int32)) x3 x4 u2 eu2) (va_cwS 3 hts gX2_afterCalm_X2_at rfl rfl rfl (by decide +kernel) ⟨Nat.le_of_ble_eq_true rfl, Nat.le_of_ble_eq_true rfl⟩) (pre_S (hP.sub (ws' := ([] : va_W)) [] rfl) hK (hD.sub (ws' := ([] : va_W)) [] (by decide) rfl) hN) rfl rfl hl.1 rfl (lv_room (Nat.le_of_ble_eq_true rfl)) dX2_afterCalm_32 ⟨Nat.zero_le _, Nat.zero_le _⟩) (fun r u H locs hw hP hD hS => ?_)
    have hw := hw.symm
    subst hw
    have hP : va_P D vwCl (wX2 cy qPa Pa_sailMiles Pa_weights Pa_chance Pa_burnt Pa_engineMiles Pa_daysReckoned Pa_milesReckoned Pa_coalReckoned) H := hP
    have hD : va_D A (wX2 cy qPa Pa_sailMiles Pa_weights Pa_chance Pa_burnt Pa_engineMiles Pa_daysReckoned Pa_milesReckoned Pa_coalReckoned) := hD
    exact rq_i C0 () (Option.some.inj hf) hP hD hS dX2_afterCalm_35
  · have hf := ift hf hc1
    refine lv_iload_n hx hb dX2_afterCalm_5 rfl (lv_at hl 2 rfl) ?_
    refine lv_iconst (v := (1 : Int32)) hx hb dX2_afterCalm_6 (by decide) ?_
    refine lv_isub hx hb dX2_afterCalm_7 ?_
    refine lv_iconst (v := (0 : Int32)) hx hb dX2_afterCalm_8 (by decide) ?_
    refine lv_iload_n hx hb dX2_afterCalm_9 rfl (lv_at hl 3 rfl) ?_
    refine lv_aload_n hx hb dX2_afterCalm_10 rfl (lv_at hl 0 rfl) ?_
    refine va_get (D := D) (ci := 2) (v := .int Pa_engineMiles) (C := RX2) (T := TX2) (N := 8) hx hb hts i_X2_afterCalm_X2 hown hK hP 0 rfl rfl 4 (by decide) (hts _ m_X2_afterCalm_f45) (fun _ h9 => h9) rfl dX2_afterCalm_11 ?_
    refine lv_isub hx hb dX2_afterCalm_14 ?_
    refine va_mmax hx hb (by rw [hml]; exact hl.1.symm) hown (hts _ m_X2_afterCalm_m95) (hts _ m_X2_afterCalm_s95) (hts _ m_X2_afterCalm_iMath) (hts _ m_X2_afterCalm_k95) (Nat.le_of_ble_eq_true rfl) (Nat.le_of_ble_eq_true rfl) (Nat.zero_le _) (Nat.zero_le _) dX2_afterCalm_15 ?_
    refine lv_iload hx hb dX2_afterCalm_18 (lv_at hl 4 rfl) ?_
    refine lv_iconst (v := (1 : Int32)) hx hb dX2_afterCalm_20 (by decide) ?_
    refine lv_isub hx hb dX2_afterCalm_21 ?_
    obtain ⟨u3, eu3, hf⟩ := Option.bind_eq_some_iff.mp hf
    refine cq_i (wc' := fun (u : Unit) => ([] : va_W)) (ws' := fun (u : Unit) => (wX2 cy qPa Pa_sailMiles Pa_weights Pa_chance Pa_burnt Pa_engineMiles Pa_daysReckoned Pa_milesReckoned Pa_coalReckoned)) (wc := ([] : va_W)) (wr := (wX2 cy qPa Pa_sailMiles Pa_weights Pa_chance Pa_burnt Pa_engineMiles Pa_daysReckoned Pa_milesReckoned Pa_coalReckoned)) C0 hP hD hS [] [0, 1, 2, 3, 4] [0, 1, 2, 3, 4] rfl rfl (by decide) (by decide) (by decide) (fun _ => rfl) (va_runS (As := [.int (x2 - (1 : Int32)), .int (if (0 : Int32) < (x3 - Pa_engineMiles) then (x3 - Pa_engineMiles) else (0 : Int32)), .int (x4 - (1 : Int32))]) (rest := []) ⟨hx, hb, hml, hown, hts⟩ (c_X2_at l D cy   H.size (x2 - (1 : Int32)) (if (0 : Int32) < (x3 - Pa_engineMiles) then (x3 - Pa_engineMiles) else (0 : Int32)) (x4 - (1 : Int32)) u3 eu3) (va_cwS 3 hts gX2_afterCalm_X2_at rfl rfl rfl (by decide +kernel) ⟨Nat.le_of_ble_eq_true rfl, Nat.le_of_ble_eq_true rfl⟩) (pre_S (hP.sub (ws' := ([] : va_W)) [] rfl) hK (hD.sub (ws' := ([] : va_W)) [] (by decide) rfl) hN) rfl rfl hl.1 rfl (lv_room (Nat.le_of_ble_eq_true rfl)) dX2_afterCalm_22 ⟨Nat.zero_le _, Nat.zero_le _⟩) (fun r u H locs hw hP hD hS => ?_)
    have hw := hw.symm
    subst hw
    have hP : va_P D vwCl (wX2 cy qPa Pa_sailMiles Pa_weights Pa_chance Pa_burnt Pa_engineMiles Pa_daysReckoned Pa_milesReckoned Pa_coalReckoned) H := hP
    have hD : va_D A (wX2 cy qPa Pa_sailMiles Pa_weights Pa_chance Pa_burnt Pa_engineMiles Pa_daysReckoned Pa_milesReckoned Pa_coalReckoned) := hD
    exact rq_i C0 () (Option.some.inj hf) hP hD hS dX2_afterCalm_25

set_option maxHeartbeats 4000000 in
set_option maxRecDepth 100000 in
theorem c_X2_fuel (l : Launch) (D : va_G) (cy : Nat → ClassId)   (sz : Nat) (x0 : Int32) (x1 : Int32) (X : Int64) (hf : f_X2_fuel x0 x1 = some X) : Met l yX2_fuel wsX2_fuel ({ frames := 1, cells := 0, slots := 0, locals := 20 } : Room) (va_Pc [.int x0, .int x1] (PW D cy ([] : va_W) sz)) (va_Ql (fun (r : Int64) (_ : Unit) => r = X) (fun u t => BW D cy (va_A ([] : va_W) sz) ([] : va_W) t) (va_A ([] : va_W) sz)) 0 0 (va_A ([] : va_W) sz) := by
  refine met_enter (Qc := fun A => (va_Ql (fun (r : Int64) (_ : Unit) => r = X) (fun u t => BW D cy A ([] : va_W) t) A)) (lv0 := [(0, .int x0), (1, .int x1)]) (by decide) rfl (Nat.le_of_ble_eq_true rfl) rfl ?_
  intro p e s m below meth c A ls hnm C0 hP hD hS hl
  generalize hH : s.heap = H at hP ⊢
  generalize hLoc : ([] : List Loc) = locs at hS ⊢
  have hS : va_S A s.heap H locs := by rw [← hH]; exact hS
  have C0 : CX cX2_fuel 2 (some .long) RX2 wsX2_fuel D cy p s m _ meth c A := C0
  obtain ⟨hx, hb, hr, hml, hown, hts, hK, hA, hN, hlocks⟩ := id C0
  unfold f_X2_fuel at hf
  refine lv_iload_n hx hb dX2_fuel_0 rfl (lv_at hl 0 rfl) ?_
  refine lv_iconst (v := (1 : Int32)) hx hb dX2_fuel_1 (by decide) ?_
  refine lv_icmp_ne (tgt := 14) hx hb dX2_fuel_2 (by decide) (fun hc1 => ?_) (fun hc1 => ?_)
  · have hf := iff_ hf hc1
    refine lv_lconst (v := (0 : Int64)) hx hb dX2_fuel_14 (by decide) ?_
    exact rq_l C0 () (Option.some.inj hf) hP hD hS dX2_fuel_15
  · have hf := ift hf hc1
    refine lv_iload_n hx hb dX2_fuel_5 rfl (lv_at hl 1 rfl) ?_
    refine lv_iconst (v := (1 : Int32)) hx hb dX2_fuel_6 (by decide) ?_
    refine lv_isub hx hb dX2_fuel_7 ?_
    obtain ⟨u2, eu2, hf⟩ := Option.bind_eq_some_iff.mp hf
    refine cq_l (wc' := fun (u : Unit) => ([] : va_W)) (ws' := fun (u : Unit) => ([] : va_W)) (wc := ([] : va_W)) (wr := ([] : va_W)) C0 hP hD hS [] [] [] rfl rfl (by decide) (by decide) (by decide) (fun _ => rfl) (va_runS (As := [.int (x1 - (1 : Int32))]) (rest := []) ⟨hx, hb, hml, hown, hts⟩ (c_X2_parts l D cy   H.size (x1 - (1 : Int32)) u2 eu2) (va_cwS 1 hts gX2_fuel_X2_parts rfl rfl rfl (by decide +kernel) ⟨Nat.le_of_ble_eq_true rfl, Nat.le_of_ble_eq_true rfl⟩) (pre_S (hP.sub (ws' := ([] : va_W)) [] rfl) hK (hD.sub (ws' := ([] : va_W)) [] (by decide) rfl) hN) rfl rfl hl.1 rfl (lv_room (Nat.le_of_ble_eq_true rfl)) dX2_fuel_8 ⟨Nat.zero_le _, Nat.zero_le _⟩) (fun r u H locs hw hP hD hS => ?_)
    have hw := hw.symm
    subst hw
    have hP : va_P D vwCl ([] : va_W) H := hP
    have hD : va_D A ([] : va_W) := hD
    refine lv_goto (tgt := 15) hx hb dX2_fuel_11 (by decide) ?_
    exact rq_l C0 () (Option.some.inj hf) hP hD hS dX2_fuel_15

theorem i_X2_isBetter_X2 : ∀ w ∈ wsX20, w ∈ wsX2_isBetter := by decide +kernel
theorem m_X2_isBetter_f18 : Cond.fieldLink RX2 18 "SailCargo$Passage" "chance" "[J" ∈ wsX2_isBetter := by decide +kernel
theorem m_X2_isBetter_f22 : Cond.fieldLink RX2 22 "SailCargo$Passage" "burnt" "[J" ∈ wsX2_isBetter := by decide +kernel
set_option maxHeartbeats 4000000 in
set_option maxRecDepth 100000 in
theorem c_X2_isBetter (l : Launch) (D : va_G) (cy : Nat → ClassId) (qPa : Nat → Nat) (Pa_sailMiles : Nat → Int32) (Pa_weights : Nat → Int32) (Pa_chance : Nat → Int64) (Pa_burnt : Nat → Int64) (Pa_engineMiles : Int32) (Pa_daysReckoned : Int32) (Pa_milesReckoned : Int32) (Pa_coalReckoned : Int32) (sz : Nat) (x1 : Int32) (x2 : Int64) (x4 : Int32) (x5 : Int64) (X : Int32) (hf : f_X2_isBetter Pa_chance Pa_burnt x1 x2 x4 x5 = some X) : Met l yX2_isBetter wsX2_isBetter ({ frames := 0, cells := 0, slots := 0, locals := 0 } : Room) (va_Pc [.ref (qPa 0), .int x1, .long x2, .int x4, .long x5] (PW D cy (wX2 cy qPa Pa_sailMiles Pa_weights Pa_chance Pa_burnt Pa_engineMiles Pa_daysReckoned Pa_milesReckoned Pa_coalReckoned) sz)) (va_Qi (fun (r : Int32) (_ : Unit) => r = X) (fun u t => BW D cy (va_A (wX2 cy qPa Pa_sailMiles Pa_weights Pa_chance Pa_burnt Pa_engineMiles Pa_daysReckoned Pa_milesReckoned Pa_coalReckoned) sz) (wX2 cy qPa Pa_sailMiles Pa_weights Pa_chance Pa_burnt Pa_engineMiles Pa_daysReckoned Pa_milesReckoned Pa_coalReckoned) t) (va_A (wX2 cy qPa Pa_sailMiles Pa_weights Pa_chance Pa_burnt Pa_engineMiles Pa_daysReckoned Pa_milesReckoned Pa_coalReckoned) sz)) 0 0 (va_A (wX2 cy qPa Pa_sailMiles Pa_weights Pa_chance Pa_burnt Pa_engineMiles Pa_daysReckoned Pa_milesReckoned Pa_coalReckoned) sz) := by
  refine met_enter (Qc := fun A => (va_Qi (fun (r : Int32) (_ : Unit) => r = X) (fun u t => BW D cy A (wX2 cy qPa Pa_sailMiles Pa_weights Pa_chance Pa_burnt Pa_engineMiles Pa_daysReckoned Pa_milesReckoned Pa_coalReckoned) t) A)) (lv0 := [(0, .ref (qPa 0)), (1, .int x1), (2, .long x2), (4, .int x4), (5, .long x5)]) (by decide) rfl (Nat.le_of_ble_eq_true rfl) rfl ?_
  intro p e s m below meth c A ls hnm C0 hP hD hS hl
  generalize hH : s.heap = H at hP ⊢
  generalize hLoc : ([] : List Loc) = locs at hS ⊢
  have hS : va_S A s.heap H locs := by rw [← hH]; exact hS
  have C0 : CX cX2_isBetter 7 (some .boolean) RX2 wsX2_isBetter D cy p s m _ meth c A := C0
  obtain ⟨hx, hb, hr, hml, hown, hts, hK, hA, hN, hlocks⟩ := id C0
  unfold f_X2_isBetter at hf
  refine lv_aload_n hx hb dX2_isBetter_0 rfl (lv_at hl 0 rfl) ?_
  refine va_get (D := D) (ci := 2) (v := .ref (qPa 3)) (C := RX2) (T := TX2) (N := 8) hx hb hts i_X2_isBetter_X2 hown hK hP 0 rfl rfl 2 (by decide) (hts _ m_X2_isBetter_f18) (fun _ h9 => h9) rfl dX2_isBetter_1 ?_
  refine lv_iload_n hx hb dX2_isBetter_4 rfl (lv_at hl 1 rfl) ?_
  obtain ⟨hz1, hf⟩ := ifn hf
  refine va_lald hx hb hK hP 3 1 rfl rfl (inb_in hz1) dX2_isBetter_5 ?_
  refine lv_aload_n hx hb dX2_isBetter_6 rfl (lv_at hl 0 rfl) ?_
  refine va_get (D := D) (ci := 2) (v := .ref (qPa 3)) (C := RX2) (T := TX2) (N := 8) hx hb hts i_X2_isBetter_X2 hown hK hP 0 rfl rfl 2 (by decide) (hts _ m_X2_isBetter_f18) (fun _ h9 => h9) rfl dX2_isBetter_7 ?_
  refine lv_iload hx hb dX2_isBetter_10 (lv_at hl 3 rfl) ?_
  obtain ⟨hz2, hf⟩ := ifn hf
  refine va_lald hx hb hK hP 3 1 rfl rfl (inb_in hz2) dX2_isBetter_12 ?_
  refine W.lcmp hx hb dX2_isBetter_13 ?_
  refine lv_if_eq (tgt := 40) hx hb dX2_isBetter_14 (by decide) (fun hc3 => ?_) (fun hc3 => ?_)
  · have hc3 := lc_eq.mp hc3
    have hf := ift hf hc3
    refine lv_aload_n hx hb dX2_isBetter_40 rfl (lv_at hl 0 rfl) ?_
    refine va_get (D := D) (ci := 2) (v := .ref (qPa 4)) (C := RX2) (T := TX2) (N := 8) hx hb hts i_X2_isBetter_X2 hown hK hP 0 rfl rfl 3 (by decide) (hts _ m_X2_isBetter_f22) (fun _ h9 => h9) rfl dX2_isBetter_41 ?_
    refine lv_iload_n hx hb dX2_isBetter_44 rfl (lv_at hl 1 rfl) ?_
    refine va_lald hx hb hK hP 4 1 rfl rfl (inb_in hz1) dX2_isBetter_45 ?_
    refine lv_lload_n hx hb dX2_isBetter_46 rfl (lv_at hl 2 rfl) ?_
    refine lv_ladd hx hb dX2_isBetter_47 ?_
    refine lv_aload_n hx hb dX2_isBetter_48 rfl (lv_at hl 0 rfl) ?_
    refine va_get (D := D) (ci := 2) (v := .ref (qPa 4)) (C := RX2) (T := TX2) (N := 8) hx hb hts i_X2_isBetter_X2 hown hK hP 0 rfl rfl 3 (by decide) (hts _ m_X2_isBetter_f22) (fun _ h9 => h9) rfl dX2_isBetter_49 ?_
    refine lv_iload hx hb dX2_isBetter_52 (lv_at hl 3 rfl) ?_
    refine va_lald hx hb hK hP 4 1 rfl rfl (inb_in hz2) dX2_isBetter_54 ?_
    refine lv_lload hx hb dX2_isBetter_55 (lv_at hl 4 rfl) ?_
    refine lv_ladd hx hb dX2_isBetter_57 ?_
    refine W.lcmp hx hb dX2_isBetter_58 ?_
    refine lv_if_ge (tgt := 66) hx hb dX2_isBetter_59 (by decide) (fun hc4 => ?_) (fun hc4 => ?_)
    · have hc4 := lc_ge.mp hc4
      have hf := ift hf hc4
      refine lv_iconst (v := (0 : Int32)) hx hb dX2_isBetter_66 (by decide) ?_
      exact rq_z C0 (by decide) () (Option.some.inj hf) hP hD hS dX2_isBetter_67
    · have hc4 : ¬ ((Pa_burnt x4.toNatClampNeg) + x5) ≤ ((Pa_burnt x1.toNatClampNeg) + x2) := fun h9 => hc4 (lc_ge.mpr h9)
      have hf := iff_ hf hc4
      refine lv_iconst (v := (1 : Int32)) hx hb dX2_isBetter_62 (by decide) ?_
      refine lv_goto (tgt := 67) hx hb dX2_isBetter_63 (by decide) ?_
      exact rq_z C0 (by decide) () (Option.some.inj hf) hP hD hS dX2_isBetter_67
  · have hc3 : ¬ (Pa_chance x1.toNatClampNeg) = (Pa_chance x4.toNatClampNeg) := fun h9 => hc3 (lc_eq.mpr h9)
    have hf := iff_ hf hc3
    refine lv_aload_n hx hb dX2_isBetter_17 rfl (lv_at hl 0 rfl) ?_
    refine va_get (D := D) (ci := 2) (v := .ref (qPa 3)) (C := RX2) (T := TX2) (N := 8) hx hb hts i_X2_isBetter_X2 hown hK hP 0 rfl rfl 2 (by decide) (hts _ m_X2_isBetter_f18) (fun _ h9 => h9) rfl dX2_isBetter_18 ?_
    refine lv_iload_n hx hb dX2_isBetter_21 rfl (lv_at hl 1 rfl) ?_
    refine va_lald hx hb hK hP 3 1 rfl rfl (inb_in hz1) dX2_isBetter_22 ?_
    refine lv_aload_n hx hb dX2_isBetter_23 rfl (lv_at hl 0 rfl) ?_
    refine va_get (D := D) (ci := 2) (v := .ref (qPa 3)) (C := RX2) (T := TX2) (N := 8) hx hb hts i_X2_isBetter_X2 hown hK hP 0 rfl rfl 2 (by decide) (hts _ m_X2_isBetter_f18) (fun _ h9 => h9) rfl dX2_isBetter_24 ?_
    refine lv_iload hx hb dX2_isBetter_27 (lv_at hl 3 rfl) ?_
    refine va_lald hx hb hK hP 3 1 rfl rfl (inb_in hz2) dX2_isBetter_29 ?_
    refine W.lcmp hx hb dX2_isBetter_30 ?_
    refine lv_if_le (tgt := 38) hx hb dX2_isBetter_31 (by decide) (fun hc5 => ?_) (fun hc5 => ?_)
    · have hc5 := lc_le.mp hc5
      have hf := ift hf hc5
      refine lv_iconst (v := (0 : Int32)) hx hb dX2_isBetter_38 (by decide) ?_
      exact rq_z C0 (by decide) () (Option.some.inj hf) hP hD hS dX2_isBetter_39
    · have hc5 : ¬ (Pa_chance x1.toNatClampNeg) ≤ (Pa_chance x4.toNatClampNeg) := fun h9 => hc5 (lc_le.mpr h9)
      have hf := iff_ hf hc5
      refine lv_iconst (v := (1 : Int32)) hx hb dX2_isBetter_34 (by decide) ?_
      refine lv_goto (tgt := 39) hx hb dX2_isBetter_35 (by decide) ?_
      exact rq_z C0 (by decide) () (Option.some.inj hf) hP hD hS dX2_isBetter_39

set_option maxHeartbeats 4000000 in
set_option maxRecDepth 100000 in
theorem c_X2_calmChoice (l : Launch) (D : va_G) (cy : Nat → ClassId) (qPa : Nat → Nat) (Pa_sailMiles : Nat → Int32) (Pa_weights : Nat → Int32) (Pa_chance : Nat → Int64) (Pa_burnt : Nat → Int64) (Pa_engineMiles : Int32) (Pa_daysReckoned : Int32) (Pa_milesReckoned : Int32) (Pa_coalReckoned : Int32) (sz : Nat) (x1 : Int32) (x2 : Int32) (x3 : Int32) (X : Int32) (hf : f_X2_calmChoice Pa_chance Pa_burnt Pa_engineMiles x1 x2 x3 = some X) : Met l yX2_calmChoice wsX2_calmChoice ({ frames := 2, cells := 0, slots := 0, locals := 46 } : Room) (va_Pc [.ref (qPa 0), .int x1, .int x2, .int x3] (PW D cy (wX2 cy qPa Pa_sailMiles Pa_weights Pa_chance Pa_burnt Pa_engineMiles Pa_daysReckoned Pa_milesReckoned Pa_coalReckoned) sz)) (va_Qi (fun (r : Int32) (_ : Unit) => r = X) (fun u t => BW D cy (va_A (wX2 cy qPa Pa_sailMiles Pa_weights Pa_chance Pa_burnt Pa_engineMiles Pa_daysReckoned Pa_milesReckoned Pa_coalReckoned) sz) (wX2 cy qPa Pa_sailMiles Pa_weights Pa_chance Pa_burnt Pa_engineMiles Pa_daysReckoned Pa_milesReckoned Pa_coalReckoned) t) (va_A (wX2 cy qPa Pa_sailMiles Pa_weights Pa_chance Pa_burnt Pa_engineMiles Pa_daysReckoned Pa_milesReckoned Pa_coalReckoned) sz)) 0 0 (va_A (wX2 cy qPa Pa_sailMiles Pa_weights Pa_chance Pa_burnt Pa_engineMiles Pa_daysReckoned Pa_milesReckoned Pa_coalReckoned) sz) := by
  refine met_enter (Qc := fun A => (va_Qi (fun (r : Int32) (_ : Unit) => r = X) (fun u t => BW D cy A (wX2 cy qPa Pa_sailMiles Pa_weights Pa_chance Pa_burnt Pa_engineMiles Pa_daysReckoned Pa_milesReckoned Pa_coalReckoned) t) A)) (lv0 := [(0, .ref (qPa 0)), (1, .int x1), (2, .int x2), (3, .int x3)]) (by decide) rfl (Nat.le_of_ble_eq_true rfl) rfl ?_
  intro p e s m below meth c A ls hnm C0 hP hD hS hl
  generalize hH : s.heap = H at hP ⊢
  generalize hLoc : ([] : List Loc) = locs at hS ⊢
  have hS : va_S A s.heap H locs := by rw [← hH]; exact hS
  have C0 : CX cX2_calmChoice 5 (some .int) RX2 wsX2_calmChoice D cy p s m _ meth c A := C0
  obtain ⟨hx, hb, hr, hml, hown, hts, hK, hA, hN, hlocks⟩ := id C0
  unfold f_X2_calmChoice at hf
  refine lv_iload_n hx hb dX2_calmChoice_0 rfl (lv_at hl 3 rfl) ?_
  refine lv_if_ne (tgt := 6) hx hb dX2_calmChoice_1 (by decide) (fun hc1 => ?_) (fun hc1 => ?_)
  · have hf := iff_ hf hc1
    refine lv_aload_n hx hb dX2_calmChoice_6 rfl (lv_at hl 0 rfl) ?_
    refine lv_aload_n hx hb dX2_calmChoice_7 rfl (lv_at hl 0 rfl) ?_
    refine lv_iconst (v := (2 : Int32)) hx hb dX2_calmChoice_8 (by decide) ?_
    refine lv_iload_n hx hb dX2_calmChoice_9 rfl (lv_at hl 1 rfl) ?_
    refine lv_iload_n hx hb dX2_calmChoice_10 rfl (lv_at hl 2 rfl) ?_
    refine lv_iload_n hx hb dX2_calmChoice_11 rfl (lv_at hl 3 rfl) ?_
    obtain ⟨u2, eu2, hf⟩ := Option.bind_eq_some_iff.mp hf
    refine cq_i (wc' := fun (u : Unit) => (wX2 cy qPa Pa_sailMiles Pa_weights Pa_chance Pa_burnt Pa_engineMiles Pa_daysReckoned Pa_milesReckoned Pa_coalReckoned)) (ws' := fun (u : Unit) => (wX2 cy qPa Pa_sailMiles Pa_weights Pa_chance Pa_burnt Pa_engineMiles Pa_daysReckoned Pa_milesReckoned Pa_coalReckoned)) (wc := (wX2 cy qPa Pa_sailMiles Pa_weights Pa_chance Pa_burnt Pa_engineMiles Pa_daysReckoned Pa_milesReckoned Pa_coalReckoned)) (wr := ([] : va_W)) C0 hP hD hS [0, 1, 2, 3, 4] [] [0, 1, 2, 3, 4] rfl rfl (by decide) (by decide) (by decide) (fun _ => rfl) (va_runV (As := [.int (2 : Int32), .int x1, .int x2, .int x3]) (rest := [.ref (qPa 0)]) ⟨hx, hb, hml, hown, hts⟩ (c_X2_afterCalm l D cy qPa Pa_sailMiles Pa_weights Pa_chance Pa_burnt Pa_engineMiles Pa_daysReckoned Pa_milesReckoned Pa_coalReckoned H.size (2 : Int32) x1 x2 x3 u2 eu2) (cwV 4 hts gX2_calmChoice_X2_afterCalm rfl rfl rfl (by decide +kernel) ⟨Nat.le_of_ble_eq_true rfl, Nat.le_of_ble_eq_true rfl⟩) (pre_V (hP.sub (ws' := (wX2 cy qPa Pa_sailMiles Pa_weights Pa_chance Pa_burnt Pa_engineMiles Pa_daysReckoned Pa_milesReckoned Pa_coalReckoned)) [0, 1, 2, 3, 4] rfl) hK (hD.sub (ws' := (wX2 cy qPa Pa_sailMiles Pa_weights Pa_chance Pa_burnt Pa_engineMiles Pa_daysReckoned Pa_milesReckoned Pa_coalReckoned)) [0, 1, 2, 3, 4] (by decide) rfl) hN 2 0 rfl rfl) rfl rfl hl.1 rfl (lv_room (Nat.le_of_ble_eq_true rfl)) dX2_calmChoice_12 ⟨Nat.zero_le _, Nat.zero_le _⟩) (fun r u H locs hw hP hD hS => ?_)
    have hw := hw.symm
    subst hw
    have hP : va_P D vwCl (wX2 cy qPa Pa_sailMiles Pa_weights Pa_chance Pa_burnt Pa_engineMiles Pa_daysReckoned Pa_milesReckoned Pa_coalReckoned) H := hP
    have hD : va_D A (wX2 cy qPa Pa_sailMiles Pa_weights Pa_chance Pa_burnt Pa_engineMiles Pa_daysReckoned Pa_milesReckoned Pa_coalReckoned) := hD
    refine lv_lconst (v := (0 : Int64)) hx hb dX2_calmChoice_15 (by decide) ?_
    refine lv_aload_n hx hb dX2_calmChoice_16 rfl (lv_at hl 0 rfl) ?_
    refine lv_iconst (v := (1 : Int32)) hx hb dX2_calmChoice_17 (by decide) ?_
    refine lv_iload_n hx hb dX2_calmChoice_18 rfl (lv_at hl 1 rfl) ?_
    refine lv_iload_n hx hb dX2_calmChoice_19 rfl (lv_at hl 2 rfl) ?_
    refine lv_iload_n hx hb dX2_calmChoice_20 rfl (lv_at hl 3 rfl) ?_
    obtain ⟨u3, eu3, hf⟩ := Option.bind_eq_some_iff.mp hf
    refine cq_i (wc' := fun (u : Unit) => (wX2 cy qPa Pa_sailMiles Pa_weights Pa_chance Pa_burnt Pa_engineMiles Pa_daysReckoned Pa_milesReckoned Pa_coalReckoned)) (ws' := fun (u : Unit) => (wX2 cy qPa Pa_sailMiles Pa_weights Pa_chance Pa_burnt Pa_engineMiles Pa_daysReckoned Pa_milesReckoned Pa_coalReckoned)) (wc := (wX2 cy qPa Pa_sailMiles Pa_weights Pa_chance Pa_burnt Pa_engineMiles Pa_daysReckoned Pa_milesReckoned Pa_coalReckoned)) (wr := ([] : va_W)) C0 hP hD hS [0, 1, 2, 3, 4] [] [0, 1, 2, 3, 4] rfl rfl (by decide) (by decide) (by decide) (fun _ => rfl) (va_runV (As := [.int (1 : Int32), .int x1, .int x2, .int x3]) (rest := [.long (0 : Int64), .int u2, .ref (qPa 0)]) ⟨hx, hb, hml, hown, hts⟩ (c_X2_afterCalm l D cy qPa Pa_sailMiles Pa_weights Pa_chance Pa_burnt Pa_engineMiles Pa_daysReckoned Pa_milesReckoned Pa_coalReckoned H.size (1 : Int32) x1 x2 x3 u3 eu3) (cwV 4 hts gX2_calmChoice_X2_afterCalm rfl rfl rfl (by decide +kernel) ⟨Nat.le_of_ble_eq_true rfl, Nat.le_of_ble_eq_true rfl⟩) (pre_V (hP.sub (ws' := (wX2 cy qPa Pa_sailMiles Pa_weights Pa_chance Pa_burnt Pa_engineMiles Pa_daysReckoned Pa_milesReckoned Pa_coalReckoned)) [0, 1, 2, 3, 4] rfl) hK (hD.sub (ws' := (wX2 cy qPa Pa_sailMiles Pa_weights Pa_chance Pa_burnt Pa_engineMiles Pa_daysReckoned Pa_milesReckoned Pa_coalReckoned)) [0, 1, 2, 3, 4] (by decide) rfl) hN 2 0 rfl rfl) rfl rfl hl.1 rfl (lv_room (Nat.le_of_ble_eq_true rfl)) dX2_calmChoice_21 ⟨Nat.zero_le _, Nat.zero_le _⟩) (fun r u H locs hw hP hD hS => ?_)
    have hw := hw.symm
    subst hw
    have hP : va_P D vwCl (wX2 cy qPa Pa_sailMiles Pa_weights Pa_chance Pa_burnt Pa_engineMiles Pa_daysReckoned Pa_milesReckoned Pa_coalReckoned) H := hP
    have hD : va_D A (wX2 cy qPa Pa_sailMiles Pa_weights Pa_chance Pa_burnt Pa_engineMiles Pa_daysReckoned Pa_milesReckoned Pa_coalReckoned) := hD
    refine lv_iconst (v := (1 : Int32)) hx hb dX2_calmChoice_24 (by decide) ?_
    refine lv_iload_n hx hb dX2_calmChoice_25 rfl (lv_at hl 1 rfl) ?_
    obtain ⟨u4, eu4, hf⟩ := Option.bind_eq_some_iff.mp hf
    refine cq_l (wc' := fun (u : Unit) => ([] : va_W)) (ws' := fun (u : Unit) => (wX2 cy qPa Pa_sailMiles Pa_weights Pa_chance Pa_burnt Pa_engineMiles Pa_daysReckoned Pa_milesReckoned Pa_coalReckoned)) (wc := ([] : va_W)) (wr := (wX2 cy qPa Pa_sailMiles Pa_weights Pa_chance Pa_burnt Pa_engineMiles Pa_daysReckoned Pa_milesReckoned Pa_coalReckoned)) C0 hP hD hS [] [0, 1, 2, 3, 4] [0, 1, 2, 3, 4] rfl rfl (by decide) (by decide) (by decide) (fun _ => rfl) (va_runS (As := [.int (1 : Int32), .int x1]) (rest := [.int u3, .long (0 : Int64), .int u2, .ref (qPa 0)]) ⟨hx, hb, hml, hown, hts⟩ (c_X2_fuel l D cy   H.size (1 : Int32) x1 u4 eu4) (va_cwS 2 hts gX2_calmChoice_X2_fuel rfl rfl rfl (by decide +kernel) ⟨Nat.le_of_ble_eq_true rfl, Nat.le_of_ble_eq_true rfl⟩) (pre_S (hP.sub (ws' := ([] : va_W)) [] rfl) hK (hD.sub (ws' := ([] : va_W)) [] (by decide) rfl) hN) rfl rfl hl.1 rfl (lv_room (Nat.le_of_ble_eq_true rfl)) dX2_calmChoice_26 ⟨Nat.zero_le _, Nat.zero_le _⟩) (fun r u H locs hw hP hD hS => ?_)
    have hw := hw.symm
    subst hw
    have hP : va_P D vwCl (wX2 cy qPa Pa_sailMiles Pa_weights Pa_chance Pa_burnt Pa_engineMiles Pa_daysReckoned Pa_milesReckoned Pa_coalReckoned) H := hP
    have hD : va_D A (wX2 cy qPa Pa_sailMiles Pa_weights Pa_chance Pa_burnt Pa_engineMiles Pa_daysReckoned Pa_milesReckoned Pa_coalReckoned) := hD
    obtain ⟨u5, eu5, hf⟩ := Option.bind_eq_some_iff.mp hf
    refine cq_i (wc' := fun (u : Unit) => (wX2 cy qPa Pa_sailMiles Pa_weights Pa_chance Pa_burnt Pa_engineMiles Pa_daysReckoned Pa_milesReckoned Pa_coalReckoned)) (ws' := fun (u : Unit) => (wX2 cy qPa Pa_sailMiles Pa_weights Pa_chance Pa_burnt Pa_engineMiles Pa_daysReckoned Pa_milesReckoned Pa_coalReckoned)) (wc := (wX2 cy qPa Pa_sailMiles Pa_weights Pa_chance Pa_burnt Pa_engineMiles Pa_daysReckoned Pa_milesReckoned Pa_coalReckoned)) (wr := ([] : va_W)) C0 hP hD hS [0, 1, 2, 3, 4] [] [0, 1, 2, 3, 4] rfl rfl (by decide) (by decide) (by decide) (fun _ => rfl) (va_runV (As := [.int u2, .long (0 : Int64), .int u3, .long u4]) (rest := []) ⟨hx, hb, hml, hown, hts⟩ (c_X2_isBetter l D cy qPa Pa_sailMiles Pa_weights Pa_chance Pa_burnt Pa_engineMiles Pa_daysReckoned Pa_milesReckoned Pa_coalReckoned H.size u2 (0 : Int64) u3 u4 u5 eu5) (cwV 4 hts gX2_calmChoice_X2_isBetter rfl rfl rfl (by decide +kernel) ⟨Nat.le_of_ble_eq_true rfl, Nat.le_of_ble_eq_true rfl⟩) (pre_V (hP.sub (ws' := (wX2 cy qPa Pa_sailMiles Pa_weights Pa_chance Pa_burnt Pa_engineMiles Pa_daysReckoned Pa_milesReckoned Pa_coalReckoned)) [0, 1, 2, 3, 4] rfl) hK (hD.sub (ws' := (wX2 cy qPa Pa_sailMiles Pa_weights Pa_chance Pa_burnt Pa_engineMiles Pa_daysReckoned Pa_milesReckoned Pa_coalReckoned)) [0, 1, 2, 3, 4] (by decide) rfl) hN 2 0 rfl rfl) rfl rfl hl.1 rfl (lv_room (Nat.le_of_ble_eq_true rfl)) dX2_calmChoice_29 ⟨Nat.zero_le _, Nat.zero_le _⟩) (fun r u H locs hw hP hD hS => ?_)
    have hw := hw.symm
    subst hw
    have hP : va_P D vwCl (wX2 cy qPa Pa_sailMiles Pa_weights Pa_chance Pa_burnt Pa_engineMiles Pa_daysReckoned Pa_milesReckoned Pa_coalReckoned) H := hP
    have hD : va_D A (wX2 cy qPa Pa_sailMiles Pa_weights Pa_chance Pa_burnt Pa_engineMiles Pa_daysReckoned Pa_milesReckoned Pa_coalReckoned) := hD
    refine lv_istore (lv' := [(4, .int u5), (0, .ref (qPa 0)), (1, .int x1), (2, .int x2), (3, .int x3)]) hx hb dX2_calmChoice_32 hl (by decide) rfl (fun ls hl => ?_)
    refine lv_iload hx hb dX2_calmChoice_34 (lv_at hl 0 rfl) ?_
    refine lv_if_eq (tgt := 43) hx hb dX2_calmChoice_36 (by decide) (fun hc6 => ?_) (fun hc6 => ?_)
    · have hf := ift hf hc6
      refine lv_iconst (v := (1 : Int32)) hx hb dX2_calmChoice_43 (by decide) ?_
      exact rq_i C0 () (Option.some.inj hf) hP hD hS dX2_calmChoice_44
    · have hf := iff_ hf hc6
      refine lv_iconst (v := (2 : Int32)) hx hb dX2_calmChoice_39 (by decide) ?_
      refine lv_goto (tgt := 44) hx hb dX2_calmChoice_40 (by decide) ?_
      exact rq_i C0 () (Option.some.inj hf) hP hD hS dX2_calmChoice_44
  · have hf := ift hf hc1
    refine lv_iconst (v := (2 : Int32)) hx hb dX2_calmChoice_4 (by decide) ?_
    exact rq_i C0 () (Option.some.inj hf) hP hD hS dX2_calmChoice_5

theorem i_X2_afterSails_X2 : ∀ w ∈ wsX20, w ∈ wsX2_afterSails := by decide +kernel
theorem m_X2_afterSails_f11 : Cond.fieldLink RX2 11 "SailCargo$Passage" "sailMiles" "[I" ∈ wsX2_afterSails := by decide +kernel
theorem m_X2_afterSails_m95 : Cond.methodLink RX2 95 Lib.Math.max.name ∈ wsX2_afterSails := by decide +kernel
theorem m_X2_afterSails_s95 : Cond.static Lib.Math.max.name ∈ wsX2_afterSails := by decide +kernel
theorem m_X2_afterSails_iMath : Cond.initialized "java/lang/Math" ∈ wsX2_afterSails := by decide +kernel
theorem m_X2_afterSails_k95 : Cond.code Lib.Math.max.name Lib.Math.max.code 2 (some .int) ∈ wsX2_afterSails := by decide +kernel
set_option maxHeartbeats 4000000 in
set_option maxRecDepth 100000 in
theorem c_X2_afterSails (l : Launch) (D : va_G) (cy : Nat → ClassId) (qPa : Nat → Nat) (Pa_sailMiles : Nat → Int32) (Pa_weights : Nat → Int32) (Pa_chance : Nat → Int64) (Pa_burnt : Nat → Int64) (Pa_engineMiles : Int32) (Pa_daysReckoned : Int32) (Pa_milesReckoned : Int32) (Pa_coalReckoned : Int32) (sz : Nat) (x1 : Int32) (x2 : Int32) (x3 : Int32) (x4 : Int32) (X : Int32) (hf : f_X2_afterSails Pa_sailMiles x1 x2 x3 x4 = some X) : Met l yX2_afterSails wsX2_afterSails ({ frames := 1, cells := 0, slots := 0, locals := 22 } : Room) (va_Pc [.ref (qPa 0), .int x1, .int x2, .int x3, .int x4] (PW D cy (wX2 cy qPa Pa_sailMiles Pa_weights Pa_chance Pa_burnt Pa_engineMiles Pa_daysReckoned Pa_milesReckoned Pa_coalReckoned) sz)) (va_Qi (fun (r : Int32) (_ : Unit) => r = X) (fun u t => BW D cy (va_A (wX2 cy qPa Pa_sailMiles Pa_weights Pa_chance Pa_burnt Pa_engineMiles Pa_daysReckoned Pa_milesReckoned Pa_coalReckoned) sz) (wX2 cy qPa Pa_sailMiles Pa_weights Pa_chance Pa_burnt Pa_engineMiles Pa_daysReckoned Pa_milesReckoned Pa_coalReckoned) t) (va_A (wX2 cy qPa Pa_sailMiles Pa_weights Pa_chance Pa_burnt Pa_engineMiles Pa_daysReckoned Pa_milesReckoned Pa_coalReckoned) sz)) 0 0 (va_A (wX2 cy qPa Pa_sailMiles Pa_weights Pa_chance Pa_burnt Pa_engineMiles Pa_daysReckoned Pa_milesReckoned Pa_coalReckoned) sz) := by
  refine met_enter (Qc := fun A => (va_Qi (fun (r : Int32) (_ : Unit) => r = X) (fun u t => BW D cy A (wX2 cy qPa Pa_sailMiles Pa_weights Pa_chance Pa_burnt Pa_engineMiles Pa_daysReckoned Pa_milesReckoned Pa_coalReckoned) t) A)) (lv0 := [(0, .ref (qPa 0)), (1, .int x1), (2, .int x2), (3, .int x3), (4, .int x4)]) (by decide) rfl (Nat.le_of_ble_eq_true rfl) rfl ?_
  intro p e s m below meth c A ls hnm C0 hP hD hS hl
  generalize hH : s.heap = H at hP ⊢
  generalize hLoc : ([] : List Loc) = locs at hS ⊢
  have hS : va_S A s.heap H locs := by rw [← hH]; exact hS
  have C0 : CX cX2_afterSails 5 (some .int) RX2 wsX2_afterSails D cy p s m _ meth c A := C0
  obtain ⟨hx, hb, hr, hml, hown, hts, hK, hA, hN, hlocks⟩ := id C0
  unfold f_X2_afterSails at hf
  refine lv_iload_n hx hb dX2_afterSails_0 rfl (lv_at hl 1 rfl) ?_
  refine lv_iconst (v := (1 : Int32)) hx hb dX2_afterSails_1 (by decide) ?_
  refine lv_isub hx hb dX2_afterSails_2 ?_
  refine lv_iconst (v := (0 : Int32)) hx hb dX2_afterSails_3 (by decide) ?_
  refine lv_iload_n hx hb dX2_afterSails_4 rfl (lv_at hl 2 rfl) ?_
  refine lv_aload_n hx hb dX2_afterSails_5 rfl (lv_at hl 0 rfl) ?_
  refine va_get (D := D) (ci := 2) (v := .ref (qPa 1)) (C := RX2) (T := TX2) (N := 8) hx hb hts i_X2_afterSails_X2 hown hK hP 0 rfl rfl 0 (by decide) (hts _ m_X2_afterSails_f11) (fun _ h9 => h9) rfl dX2_afterSails_6 ?_
  refine lv_iload hx hb dX2_afterSails_9 (lv_at hl 4 rfl) ?_
  obtain ⟨hz1, hf⟩ := ifn hf
  refine va_iald hx hb hK hP 1 0 rfl rfl (inb_in hz1) dX2_afterSails_11 ?_
  refine lv_isub hx hb dX2_afterSails_12 ?_
  refine va_mmax hx hb (by rw [hml]; exact hl.1.symm) hown (hts _ m_X2_afterSails_m95) (hts _ m_X2_afterSails_s95) (hts _ m_X2_afterSails_iMath) (hts _ m_X2_afterSails_k95) (Nat.le_of_ble_eq_true rfl) (Nat.le_of_ble_eq_true rfl) (Nat.zero_le _) (Nat.zero_le _) dX2_afterSails_13 ?_
  refine lv_iload_n hx hb dX2_afterSails_16 rfl (lv_at hl 3 rfl) ?_
  obtain ⟨u2, eu2, hf⟩ := Option.bind_eq_some_iff.mp hf
  refine cq_i (wc' := fun (u : Unit) => ([] : va_W)) (ws' := fun (u : Unit) => (wX2 cy qPa Pa_sailMiles Pa_weights Pa_chance Pa_burnt Pa_engineMiles Pa_daysReckoned Pa_milesReckoned Pa_coalReckoned)) (wc := ([] : va_W)) (wr := (wX2 cy qPa Pa_sailMiles Pa_weights Pa_chance Pa_burnt Pa_engineMiles Pa_daysReckoned Pa_milesReckoned Pa_coalReckoned)) C0 hP hD hS [] [0, 1, 2, 3, 4] [0, 1, 2, 3, 4] rfl rfl (by decide) (by decide) (by decide) (fun _ => rfl) (va_runS (As := [.int (x1 - (1 : Int32)), .int (if (0 : Int32) < (x2 - (Pa_sailMiles x4.toNatClampNeg)) then (x2 - (Pa_sailMiles x4.toNatClampNeg)) else (0 : Int32)), .int x3]) (rest := []) ⟨hx, hb, hml, hown, hts⟩ (c_X2_at l D cy   H.size (x1 - (1 : Int32)) (if (0 : Int32) < (x2 - (Pa_sailMiles x4.toNatClampNeg)) then (x2 - (Pa_sailMiles x4.toNatClampNeg)) else (0 : Int32)) x3 u2 eu2) (va_cwS 3 hts gX2_afterSails_X2_at rfl rfl rfl (by decide +kernel) ⟨Nat.le_of_ble_eq_true rfl, Nat.le_of_ble_eq_true rfl⟩) (pre_S (hP.sub (ws' := ([] : va_W)) [] rfl) hK (hD.sub (ws' := ([] : va_W)) [] (by decide) rfl) hN) rfl rfl hl.1 rfl (lv_room (Nat.le_of_ble_eq_true rfl)) dX2_afterSails_17 ⟨Nat.zero_le _, Nat.zero_le _⟩) (fun r u H locs hw hP hD hS => ?_)
  have hw := hw.symm
  subst hw
  have hP : va_P D vwCl (wX2 cy qPa Pa_sailMiles Pa_weights Pa_chance Pa_burnt Pa_engineMiles Pa_daysReckoned Pa_milesReckoned Pa_coalReckoned) H := hP
  have hD : va_D A (wX2 cy qPa Pa_sailMiles Pa_weights Pa_chance Pa_burnt Pa_engineMiles Pa_daysReckoned Pa_milesReckoned Pa_coalReckoned) := hD
  exact rq_i C0 () (Option.some.inj hf) hP hD hS dX2_afterSails_20

