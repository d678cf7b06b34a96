theorem i_X8_load_X8 : ∀ w ∈ wsX80, w ∈ wsX8_load := by decide +kernel
theorem m_X8_load_f26 : Cond.fieldLink RX8 26 "SailCargo" "hold" "LSailCargo$Hold;" ∈ wsX8_load := by decide +kernel
set_option maxHeartbeats 4000000 in
set_option maxRecDepth 100000 in
theorem c_X8_load (l : Launch) (D : va_G) (cy : Nat → ClassId) (qSC qHo qWe qPa qHb qTa qRe qVo qAg qDr : Nat → Nat) (SC_faultPlace : Int32) (SC_refusedBy : Int32) (Ho_tons : Nat → Int32) (Ho_worth : Nat → Int32) (Ho_apartBits : Nat → Int32) (Ho_loads : Int32) (Ho_room : Int32) (Ho_bestBits : Int32) (Ho_bestTons : Int32) (Ho_bestWorth : Int32) (sz : Nat) (x1 : Int32) (x2 : Int32) (X : Int32 × (Int32) × (Nat → Int32) × (Nat → Int32) × (Int32)) (hf : f_X8_load SC_refusedBy Ho_tons Ho_worth Ho_loads x1 x2 = some X) : Met l yX8_load wsX8_load ({ frames := 2, cells := 0, slots := 0, locals := 44 } : Room) (va_Pc [.ref (qSC 0), .int x1, .int x2] (PW D cy (wX8 cy qSC (qWe 0) (qPa 0) (qHo 0) (qHb 0) (qTa 0) (qRe 0) (qVo 0) (qAg 0) (qDr 0) SC_faultPlace SC_refusedBy ++ (wX1 cy qHo Ho_tons Ho_worth Ho_apartBits Ho_loads Ho_room Ho_bestBits Ho_bestTons Ho_bestWorth)) sz)) (va_Qi (fun (r : Int32) (u : (Int32) × (Nat → Int32) × (Nat → Int32) × (Int32)) => r = X.1 ∧ u = X.2) (fun u t => BW D cy (va_A (wX8 cy qSC (qWe 0) (qPa 0) (qHo 0) (qHb 0) (qTa 0) (qRe 0) (qVo 0) (qAg 0) (qDr 0) SC_faultPlace SC_refusedBy ++ (wX1 cy qHo Ho_tons Ho_worth Ho_apartBits Ho_loads Ho_room Ho_bestBits Ho_bestTons Ho_bestWorth)) sz) (wX8 cy qSC (qWe 0) (qPa 0) (qHo 0) (qHb 0) (qTa 0) (qRe 0) (qVo 0) (qAg 0) (qDr 0) SC_faultPlace u.1 ++ (wX1 cy qHo u.2.1 u.2.2.1 Ho_apartBits u.2.2.2 Ho_room Ho_bestBits Ho_bestTons Ho_bestWorth)) t) (va_A (wX8 cy qSC (qWe 0) (qPa 0) (qHo 0) (qHb 0) (qTa 0) (qRe 0) (qVo 0) (qAg 0) (qDr 0) SC_faultPlace SC_refusedBy ++ (wX1 cy qHo Ho_tons Ho_worth Ho_apartBits Ho_loads Ho_room Ho_bestBits Ho_bestTons Ho_bestWorth)) sz)) 0 0 (va_A (wX8 cy qSC (qWe 0) (qPa 0) (qHo 0) (qHb 0) (qTa 0) (qRe 0) (qVo 0) (qAg 0) (qDr 0) SC_faultPlace SC_refusedBy ++ (wX1 cy qHo Ho_tons Ho_worth Ho_apartBits Ho_loads Ho_room Ho_bestBits Ho_bestTons Ho_bestWorth)) sz) := by
  refine met_enter (Qc := fun A => (va_Qi (fun (r : Int32) (u : (Int32) × (Nat → Int32) × (Nat → Int32) × (Int32)) => r = X.1 ∧ u = X.2) (fun u t => BW D cy A (wX8 cy qSC (qWe 0) (qPa 0) (qHo 0) (qHb 0) (qTa 0) (qRe 0) (qVo 0) (qAg 0) (qDr 0) SC_faultPlace u.1 ++ (wX1 cy qHo u.2.1 u.2.2.1 Ho_apartBits u.2.2.2 Ho_room Ho_bestBits Ho_bestTons Ho_bestWorth)) t) A)) (lv0 := [(0, .ref (qSC 0)), (1, .int x1), (2, .int x2)]) (by decide) rfl (Nat.le_of_ble_eq_true rfl) rfl ?_
  intro p e s m below meth c A ls hnm C0 hP hD hS hl
  generalize hH : s.heap = H at hP ⊢
  generalize hLoc : ([] : List Loc) = locs at hS ⊢
  have hS : va_S A s.heap H locs := by rw [← hH]; exact hS
  have C0 : CX cX8_load 3 (some .int) RX8 wsX8_load D cy p s m _ meth c A := C0
  obtain ⟨hx, hb, hr, hml, hown, hts, hK, hA, hN, hlocks⟩ := id C0
  unfold f_X8_load at hf
  refine lv_aload_n hx hb dX8_load_0 rfl (lv_at hl 0 rfl) ?_
  refine lv_aload_n hx hb dX8_load_1 rfl (lv_at hl 0 rfl) ?_
  refine va_get (D := D) (ci := 8) (v := .ref (qHo 0)) (C := RX8) (T := TX8) (N := 11) hx hb hts i_X8_load_X8 hown hK hP 0 rfl rfl 2 (by decide) (hts _ m_X8_load_f26) (fun _ h9 => h9) rfl dX8_load_2 ?_
  refine lv_iload_n hx hb dX8_load_5 rfl (lv_at hl 1 rfl) ?_
  refine lv_iload_n hx hb dX8_load_6 rfl (lv_at hl 2 rfl) ?_
  obtain ⟨u1, eu1, hf⟩ := Option.bind_eq_some_iff.mp hf
  refine cq_i (wc' := fun (u : (Nat → Int32) × (Nat → Int32) × (Int32)) => (wX1 cy qHo u.1 u.2.1 Ho_apartBits u.2.2 Ho_room Ho_bestBits Ho_bestTons Ho_bestWorth)) (ws' := fun (u : (Nat → Int32) × (Nat → Int32) × (Int32)) => (wX8 cy qSC (qWe 0) (qPa 0) (qHo 0) (qHb 0) (qTa 0) (qRe 0) (qVo 0) (qAg 0) (qDr 0) SC_faultPlace SC_refusedBy ++ (wX1 cy qHo u.1 u.2.1 Ho_apartBits u.2.2 Ho_room Ho_bestBits Ho_bestTons Ho_bestWorth))) (wc := (wX1 cy qHo Ho_tons Ho_worth Ho_apartBits Ho_loads Ho_room Ho_bestBits Ho_bestTons Ho_bestWorth)) (wr := (wX8 cy qSC (qWe 0) (qPa 0) (qHo 0) (qHb 0) (qTa 0) (qRe 0) (qVo 0) (qAg 0) (qDr 0) SC_faultPlace SC_refusedBy)) C0 hP hD hS [1, 2, 3, 4] [0] [0, 1, 2, 3, 4] rfl rfl (by decide) (by decide) (by decide) (fun _ => rfl) (va_runV (As := [.int x1, .int x2]) (rest := [.ref (qSC 0)]) ⟨hx, hb, hml, hown, hts⟩ (c_X1_add l D cy qHo Ho_tons Ho_worth Ho_apartBits Ho_loads Ho_room Ho_bestBits Ho_bestTons Ho_bestWorth H.size x1 x2 u1 eu1) (cwV 2 hts gX8_load_X1_add rfl rfl rfl (by decide +kernel) ⟨Nat.le_of_ble_eq_true rfl, Nat.le_of_ble_eq_true rfl⟩) (pre_V (hP.sub (ws' := (wX1 cy qHo Ho_tons Ho_worth Ho_apartBits Ho_loads Ho_room Ho_bestBits Ho_bestTons Ho_bestWorth)) [1, 2, 3, 4] rfl) hK (hD.sub (ws' := (wX1 cy qHo Ho_tons Ho_worth Ho_apartBits Ho_loads Ho_room Ho_bestBits Ho_bestTons Ho_bestWorth)) [1, 2, 3, 4] (by decide) rfl) hN 1 0 rfl rfl) rfl rfl hl.1 rfl (lv_room (Nat.le_of_ble_eq_true rfl)) dX8_load_7 ⟨Nat.zero_le _, Nat.zero_le _⟩) (fun r u H locs hw hP hD hS => ?_)
  obtain ⟨rfl, rfl⟩ := hw
  have hP : va_P D vwCl (wX8 cy qSC (qWe 0) (qPa 0) (qHo 0) (qHb 0) (qTa 0) (qRe 0) (qVo 0) (qAg 0) (qDr 0) SC_faultPlace SC_refusedBy ++ (wX1 cy qHo u1.2.1 u1.2.2.1 Ho_apartBits u1.2.2.2 Ho_room Ho_bestBits Ho_bestTons Ho_bestWorth)) H := hP
  have hD : va_D A (wX8 cy qSC (qWe 0) (qPa 0) (qHo 0) (qHb 0) (qTa 0) (qRe 0) (qVo 0) (qAg 0) (qDr 0) SC_faultPlace SC_refusedBy ++ (wX1 cy qHo u1.2.1 u1.2.2.1 Ho_apartBits u1.2.2.2 Ho_room Ho_bestBits Ho_bestTons Ho_bestWorth)) := hD
  obtain ⟨u2, eu2, hf⟩ := Option.bind_eq_some_iff.mp hf
  refine cq_i (wc' := fun (u : (Int32)) => (wX8 cy qSC (qWe 0) (qPa 0) (qHo 0) (qHb 0) (qTa 0) (qRe 0) (qVo 0) (qAg 0) (qDr 0) SC_faultPlace u)) (ws' := fun (u : (Int32)) => (wX8 cy qSC (qWe 0) (qPa 0) (qHo 0) (qHb 0) (qTa 0) (qRe 0) (qVo 0) (qAg 0) (qDr 0) SC_faultPlace u ++ (wX1 cy qHo u1.2.1 u1.2.2.1 Ho_apartBits u1.2.2.2 Ho_room Ho_bestBits Ho_bestTons Ho_bestWorth))) (wc := (wX8 cy qSC (qWe 0) (qPa 0) (qHo 0) (qHb 0) (qTa 0) (qRe 0) (qVo 0) (qAg 0) (qDr 0) SC_faultPlace SC_refusedBy)) (wr := (wX1 cy qHo u1.2.1 u1.2.2.1 Ho_apartBits u1.2.2.2 Ho_room Ho_bestBits Ho_bestTons Ho_bestWorth)) C0 hP hD hS [0] [1, 2, 3, 4] [4, 0, 1, 2, 3] rfl rfl (by decide) (by decide) (by decide) (fun _ => rfl) (va_runV (As := [.int u1.1]) (rest := []) ⟨hx, hb, hml, hown, hts⟩ (c_X8_answered l D cy qSC qWe qPa qHo qHb qTa qRe qVo qAg qDr SC_faultPlace SC_refusedBy H.size u1.1 u2 eu2) (cwV 1 hts gX8_load_X8_answered rfl rfl rfl (by decide +kernel) ⟨Nat.le_of_ble_eq_true rfl, Nat.le_of_ble_eq_true rfl⟩) (pre_V (hP.sub (ws' := (wX8 cy qSC (qWe 0) (qPa 0) (qHo 0) (qHb 0) (qTa 0) (qRe 0) (qVo 0) (qAg 0) (qDr 0) SC_faultPlace SC_refusedBy)) [0] rfl) hK (hD.sub (ws' := (wX8 cy qSC (qWe 0) (qPa 0) (qHo 0) (qHb 0) (qTa 0) (qRe 0) (qVo 0) (qAg 0) (qDr 0) SC_faultPlace SC_refusedBy)) [0] (by decide) rfl) hN 8 0 rfl rfl) rfl rfl hl.1 rfl (lv_room (Nat.le_of_ble_eq_true rfl)) dX8_load_10 ⟨Nat.zero_le _, Nat.zero_le _⟩) (fun r u H locs hw hP hD hS => ?_)
  obtain ⟨rfl, rfl⟩ := hw
  have hP : va_P D vwCl (wX8 cy qSC (qWe 0) (qPa 0) (qHo 0) (qHb 0) (qTa 0) (qRe 0) (qVo 0) (qAg 0) (qDr 0) SC_faultPlace u2.2 ++ (wX1 cy qHo u1.2.1 u1.2.2.1 Ho_apartBits u1.2.2.2 Ho_room Ho_bestBits Ho_bestTons Ho_bestWorth)) H := hP
  have hD : va_D A (wX8 cy qSC (qWe 0) (qPa 0) (qHo 0) (qHb 0) (qTa 0) (qRe 0) (qVo 0) (qAg 0) (qDr 0) SC_faultPlace u2.2 ++ (wX1 cy qHo u1.2.1 u1.2.2.1 Ho_apartBits u1.2.2.2 Ho_room Ho_bestBits Ho_bestTons Ho_bestWorth)) := hD
  exact rq_i C0 (u2.2, u1.2.1, u1.2.2.1, u1.2.2.2) (pr_2 hf) hP hD hS dX8_load_13

theorem i_X8_apart_X8 : ∀ w ∈ wsX80, w ∈ wsX8_apart := by decide +kernel
theorem m_X8_apart_f26 : Cond.fieldLink RX8 26 "SailCargo" "hold" "LSailCargo$Hold;" ∈ wsX8_apart := by decide +kernel
set_option maxHeartbeats 4000000 in
set_option maxRecDepth 100000 in
theorem c_X8_apart (l : Launch) (D : va_G) (cy : Nat → ClassId) (qSC qHo qWe qPa qHb qTa qRe qVo qAg qDr : Nat → Nat) (SC_faultPlace : Int32) (SC_refusedBy : Int32) (Ho_tons : Nat → Int32) (Ho_worth : Nat → Int32) (Ho_apartBits : Nat → Int32) (Ho_loads : Int32) (Ho_room : Int32) (Ho_bestBits : Int32) (Ho_bestTons : Int32) (Ho_bestWorth : Int32) (sz : Nat) (x1 : Int32) (x2 : Int32) (x3 : Int32) (X : Int32 × (Int32) × (Nat → Int32)) (hf : f_X8_apart SC_refusedBy Ho_apartBits Ho_loads x1 x2 x3 = some X) : Met l yX8_apart wsX8_apart ({ frames := 3, cells := 0, slots := 0, locals := 66 } : Room) (va_Pc [.ref (qSC 0), .int x1, .int x2, .int x3] (PW D cy (wX8 cy qSC (qWe 0) (qPa 0) (qHo 0) (qHb 0) (qTa 0) (qRe 0) (qVo 0) (qAg 0) (qDr 0) SC_faultPlace SC_refusedBy ++ (wX1 cy qHo Ho_tons Ho_worth Ho_apartBits Ho_loads Ho_room Ho_bestBits Ho_bestTons Ho_bestWorth)) sz)) (va_Qi (fun (r : Int32) (u : (Int32) × (Nat → Int32)) => r = X.1 ∧ u = X.2) (fun u t => BW D cy (va_A (wX8 cy qSC (qWe 0) (qPa 0) (qHo 0) (qHb 0) (qTa 0) (qRe 0) (qVo 0) (qAg 0) (qDr 0) SC_faultPlace SC_refusedBy ++ (wX1 cy qHo Ho_tons Ho_worth Ho_apartBits Ho_loads Ho_room Ho_bestBits Ho_bestTons Ho_bestWorth)) sz) (wX8 cy qSC (qWe 0) (qPa 0) (qHo 0) (qHb 0) (qTa 0) (qRe 0) (qVo 0) (qAg 0) (qDr 0) SC_faultPlace u.1 ++ (wX1 cy qHo Ho_tons Ho_worth u.2 Ho_loads Ho_room Ho_bestBits Ho_bestTons Ho_bestWorth)) t) (va_A (wX8 cy qSC (qWe 0) (qPa 0) (qHo 0) (qHb 0) (qTa 0) (qRe 0) (qVo 0) (qAg 0) (qDr 0) SC_faultPlace SC_refusedBy ++ (wX1 cy qHo Ho_tons Ho_worth Ho_apartBits Ho_loads Ho_room Ho_bestBits Ho_bestTons Ho_bestWorth)) sz)) 0 0 (va_A (wX8 cy qSC (qWe 0) (qPa 0) (qHo 0) (qHb 0) (qTa 0) (qRe 0) (qVo 0) (qAg 0) (qDr 0) SC_faultPlace SC_refusedBy ++ (wX1 cy qHo Ho_tons Ho_worth Ho_apartBits Ho_loads Ho_room Ho_bestBits Ho_bestTons Ho_bestWorth)) sz) := by
  refine met_enter (Qc := fun A => (va_Qi (fun (r : Int32) (u : (Int32) × (Nat → Int32)) => r = X.1 ∧ u = X.2) (fun u t => BW D cy A (wX8 cy qSC (qWe 0) (qPa 0) (qHo 0) (qHb 0) (qTa 0) (qRe 0) (qVo 0) (qAg 0) (qDr 0) SC_faultPlace u.1 ++ (wX1 cy qHo Ho_tons Ho_worth u.2 Ho_loads Ho_room Ho_bestBits Ho_bestTons Ho_bestWorth)) t) A)) (lv0 := [(0, .ref (qSC 0)), (1, .int x1), (2, .int x2), (3, .int x3)]) (by decide) rfl (Nat.le_of_ble_eq_true rfl) rfl ?_
  intro p e s m below meth c A ls hnm C0 hP hD hS hl
  generalize hH : s.heap = H at hP ⊢
  generalize hLoc : ([] : List Loc) = locs at hS ⊢
  have hS : va_S A s.heap H locs := by rw [← hH]; exact hS
  have C0 : CX cX8_apart 4 (some .int) RX8 wsX8_apart D cy p s m _ meth c A := C0
  obtain ⟨hx, hb, hr, hml, hown, hts, hK, hA, hN, hlocks⟩ := id C0
  unfold f_X8_apart at hf
  refine lv_aload_n hx hb dX8_apart_0 rfl (lv_at hl 0 rfl) ?_
  refine lv_aload_n hx hb dX8_apart_1 rfl (lv_at hl 0 rfl) ?_
  refine va_get (D := D) (ci := 8) (v := .ref (qHo 0)) (C := RX8) (T := TX8) (N := 11) hx hb hts i_X8_apart_X8 hown hK hP 0 rfl rfl 2 (by decide) (hts _ m_X8_apart_f26) (fun _ h9 => h9) rfl dX8_apart_2 ?_
  refine lv_iload_n hx hb dX8_apart_5 rfl (lv_at hl 1 rfl) ?_
  refine lv_iload_n hx hb dX8_apart_6 rfl (lv_at hl 2 rfl) ?_
  refine lv_iload_n hx hb dX8_apart_7 rfl (lv_at hl 3 rfl) ?_
  obtain ⟨u1, eu1, hf⟩ := Option.bind_eq_some_iff.mp hf
  refine cq_i (wc' := fun (u : (Nat → Int32)) => (wX1 cy qHo Ho_tons Ho_worth u Ho_loads Ho_room Ho_bestBits Ho_bestTons Ho_bestWorth)) (ws' := fun (u : (Nat → Int32)) => (wX8 cy qSC (qWe 0) (qPa 0) (qHo 0) (qHb 0) (qTa 0) (qRe 0) (qVo 0) (qAg 0) (qDr 0) SC_faultPlace SC_refusedBy ++ (wX1 cy qHo Ho_tons Ho_worth u Ho_loads Ho_room Ho_bestBits Ho_bestTons Ho_bestWorth))) (wc := (wX1 cy qHo Ho_tons Ho_worth Ho_apartBits Ho_loads Ho_room Ho_bestBits Ho_bestTons Ho_bestWorth)) (wr := (wX8 cy qSC (qWe 0) (qPa 0) (qHo 0) (qHb 0) (qTa 0) (qRe 0) (qVo 0) (qAg 0) (qDr 0) SC_faultPlace SC_refusedBy)) C0 hP hD hS [1, 2, 3, 4] [0] [0, 1, 2, 3, 4] rfl rfl (by decide) (by decide) (by decide) (fun _ => rfl) (va_runV (As := [.int x1, .int x2, .int x3]) (rest := [.ref (qSC 0)]) ⟨hx, hb, hml, hown, hts⟩ (c_X1_setApart l D cy qHo Ho_tons Ho_worth Ho_apartBits Ho_loads Ho_room Ho_bestBits Ho_bestTons Ho_bestWorth H.size x1 x2 x3 u1 eu1) (cwV 3 hts gX8_apart_X1_setApart rfl rfl rfl (by decide +kernel) ⟨Nat.le_of_ble_eq_true rfl, Nat.le_of_ble_eq_true rfl⟩) (pre_V (hP.sub (ws' := (wX1 cy qHo Ho_tons Ho_worth Ho_apartBits Ho_loads Ho_room Ho_bestBits Ho_bestTons Ho_bestWorth)) [1, 2, 3, 4] rfl) hK (hD.sub (ws' := (wX1 cy qHo Ho_tons Ho_worth Ho_apartBits Ho_loads Ho_room Ho_bestBits Ho_bestTons Ho_bestWorth)) [1, 2, 3, 4] (by decide) rfl) hN 1 0 rfl rfl) rfl rfl hl.1 rfl (lv_room (Nat.le_of_ble_eq_true rfl)) dX8_apart_8 ⟨Nat.zero_le _, Nat.zero_le _⟩) (fun r u H locs hw hP hD hS => ?_)
  obtain ⟨rfl, rfl⟩ := hw
  have hP : va_P D vwCl (wX8 cy qSC (qWe 0) (qPa 0) (qHo 0) (qHb 0) (qTa 0) (qRe 0) (qVo 0) (qAg 0) (qDr 0) SC_faultPlace SC_refusedBy ++ (wX1 cy qHo Ho_tons Ho_worth u1.2 Ho_loads Ho_room Ho_bestBits Ho_bestTons Ho_bestWorth)) H := hP
  have hD : va_D A (wX8 cy qSC (qWe 0) (qPa 0) (qHo 0) (qHb 0) (qTa 0) (qRe 0) (qVo 0) (qAg 0) (qDr 0) SC_faultPlace SC_refusedBy ++ (wX1 cy qHo Ho_tons Ho_worth u1.2 Ho_loads Ho_room Ho_bestBits Ho_bestTons Ho_bestWorth)) := hD
  obtain ⟨u2, eu2, hf⟩ := Option.bind_eq_some_iff.mp hf
  refine cq_i (wc' := fun (u : (Int32)) => (wX8 cy qSC (qWe 0) (qPa 0) (qHo 0) (qHb 0) (qTa 0) (qRe 0) (qVo 0) (qAg 0) (qDr 0) SC_faultPlace u)) (ws' := fun (u : (Int32)) => (wX8 cy qSC (qWe 0) (qPa 0) (qHo 0) (qHb 0) (qTa 0) (qRe 0) (qVo 0) (qAg 0) (qDr 0) SC_faultPlace u ++ (wX1 cy qHo Ho_tons Ho_worth u1.2 Ho_loads Ho_room Ho_bestBits Ho_bestTons Ho_bestWorth))) (wc := (wX8 cy qSC (qWe 0) (qPa 0) (qHo 0) (qHb 0) (qTa 0) (qRe 0) (qVo 0) (qAg 0) (qDr 0) SC_faultPlace SC_refusedBy)) (wr := (wX1 cy qHo Ho_tons Ho_worth u1.2 Ho_loads Ho_room Ho_bestBits Ho_bestTons Ho_bestWorth)) C0 hP hD hS [0] [1, 2, 3, 4] [4, 0, 1, 2, 3] rfl rfl (by decide) (by decide) (by decide) (fun _ => rfl) (va_runV (As := [.int u1.1]) (rest := []) ⟨hx, hb, hml, hown, hts⟩ (c_X8_answered l D cy qSC qWe qPa qHo qHb qTa qRe qVo qAg qDr SC_faultPlace SC_refusedBy H.size u1.1 u2 eu2) (cwV 1 hts gX8_apart_X8_answered rfl rfl rfl (by decide +kernel) ⟨Nat.le_of_ble_eq_true rfl, Nat.le_of_ble_eq_true rfl⟩) (pre_V (hP.sub (ws' := (wX8 cy qSC (qWe 0) (qPa 0) (qHo 0) (qHb 0) (qTa 0) (qRe 0) (qVo 0) (qAg 0) (qDr 0) SC_faultPlace SC_refusedBy)) [0] rfl) hK (hD.sub (ws' := (wX8 cy qSC (qWe 0) (qPa 0) (qHo 0) (qHb 0) (qTa 0) (qRe 0) (qVo 0) (qAg 0) (qDr 0) SC_faultPlace SC_refusedBy)) [0] (by decide) rfl) hN 8 0 rfl rfl) rfl rfl hl.1 rfl (lv_room (Nat.le_of_ble_eq_true rfl)) dX8_apart_11 ⟨Nat.zero_le _, Nat.zero_le _⟩) (fun r u H locs hw hP hD hS => ?_)
  obtain ⟨rfl, rfl⟩ := hw
  have hP : va_P D vwCl (wX8 cy qSC (qWe 0) (qPa 0) (qHo 0) (qHb 0) (qTa 0) (qRe 0) (qVo 0) (qAg 0) (qDr 0) SC_faultPlace u2.2 ++ (wX1 cy qHo Ho_tons Ho_worth u1.2 Ho_loads Ho_room Ho_bestBits Ho_bestTons Ho_bestWorth)) H := hP
  have hD : va_D A (wX8 cy qSC (qWe 0) (qPa 0) (qHo 0) (qHb 0) (qTa 0) (qRe 0) (qVo 0) (qAg 0) (qDr 0) SC_faultPlace u2.2 ++ (wX1 cy qHo Ho_tons Ho_worth u1.2 Ho_loads Ho_room Ho_bestBits Ho_bestTons Ho_bestWorth)) := hD
  exact rq_i C0 (u2.2, u1.2) (pr_2 hf) hP hD hS dX8_apart_14

theorem i_X8_stow_X8 : ∀ w ∈ wsX80, w ∈ wsX8_stow := by decide +kernel
theorem m_X8_stow_f26 : Cond.fieldLink RX8 26 "SailCargo" "hold" "LSailCargo$Hold;" ∈ wsX8_stow := by decide +kernel
theorem i_X8_stow_X1 : ∀ w ∈ wsX10, w ∈ wsX8_stow := by decide +kernel
set_option maxHeartbeats 4000000 in
set_option maxRecDepth 100000 in
theorem c_X8_stow (l : Launch) (D : va_G) (cy : Nat → ClassId) (qSC qHo qWe qPa qHb qTa qRe qVo qAg qDr : Nat → Nat) (SC_faultPlace : Int32) (SC_refusedBy : Int32) (Ho_tons : Nat → Int32) (Ho_worth : Nat → Int32) (Ho_apartBits : Nat → Int32) (Ho_loads : Int32) (Ho_room : Int32) (Ho_bestBits : Int32) (Ho_bestTons : Int32) (Ho_bestWorth : Int32) (sz : Nat) (x1 : Int32) (x2 : Int32) (X : Int32 × (Int32) × (Int32) × (Int32) × (Int32)) (hf : f_X8_stow Ho_tons Ho_worth Ho_apartBits Ho_loads Ho_room Ho_bestBits Ho_bestTons Ho_bestWorth x1 x2 = some X) : Met l yX8_stow wsX8_stow ({ frames := 17, cells := 0, slots := 0, locals := 404 } : Room) (va_Pc [.ref (qSC 0), .int x1, .int x2] (PW D cy (wX8 cy qSC (qWe 0) (qPa 0) (qHo 0) (qHb 0) (qTa 0) (qRe 0) (qVo 0) (qAg 0) (qDr 0) SC_faultPlace SC_refusedBy ++ (wX1 cy qHo Ho_tons Ho_worth Ho_apartBits Ho_loads Ho_room Ho_bestBits Ho_bestTons Ho_bestWorth)) sz)) (va_Qi (fun (r : Int32) (u : (Int32) × (Int32) × (Int32) × (Int32)) => r = X.1 ∧ u = X.2) (fun u t => BW D cy (va_A (wX8 cy qSC (qWe 0) (qPa 0) (qHo 0) (qHb 0) (qTa 0) (qRe 0) (qVo 0) (qAg 0) (qDr 0) SC_faultPlace SC_refusedBy ++ (wX1 cy qHo Ho_tons Ho_worth Ho_apartBits Ho_loads Ho_room Ho_bestBits Ho_bestTons Ho_bestWorth)) sz) (wX8 cy qSC (qWe 0) (qPa 0) (qHo 0) (qHb 0) (qTa 0) (qRe 0) (qVo 0) (qAg 0) (qDr 0) SC_faultPlace SC_refusedBy ++ (wX1 cy qHo Ho_tons Ho_worth Ho_apartBits Ho_loads u.1 u.2.1 u.2.2.1 u.2.2.2)) t) (va_A (wX8 cy qSC (qWe 0) (qPa 0) (qHo 0) (qHb 0) (qTa 0) (qRe 0) (qVo 0) (qAg 0) (qDr 0) SC_faultPlace SC_refusedBy ++ (wX1 cy qHo Ho_tons Ho_worth Ho_apartBits Ho_loads Ho_room Ho_bestBits Ho_bestTons Ho_bestWorth)) sz)) 0 0 (va_A (wX8 cy qSC (qWe 0) (qPa 0) (qHo 0) (qHb 0) (qTa 0) (qRe 0) (qVo 0) (qAg 0) (qDr 0) SC_faultPlace SC_refusedBy ++ (wX1 cy qHo Ho_tons Ho_worth Ho_apartBits Ho_loads Ho_room Ho_bestBits Ho_bestTons Ho_bestWorth)) sz) := by
  refine met_enter (Qc := fun A => (va_Qi (fun (r : Int32) (u : (Int32) × (Int32) × (Int32) × (Int32)) => r = X.1 ∧ u = X.2) (fun u t => BW D cy A (wX8 cy qSC (qWe 0) (qPa 0) (qHo 0) (qHb 0) (qTa 0) (qRe 0) (qVo 0) (qAg 0) (qDr 0) SC_faultPlace SC_refusedBy ++ (wX1 cy qHo Ho_tons Ho_worth Ho_apartBits Ho_loads u.1 u.2.1 u.2.2.1 u.2.2.2)) t) A)) (lv0 := [(0, .ref (qSC 0)), (1, .int x1), (2, .int x2)]) (by decide) rfl (Nat.le_of_ble_eq_true rfl) rfl ?_
  intro p e s m below meth c A ls hnm C0 hP hD hS hl
  generalize hH : s.heap = H at hP ⊢
  generalize hLoc : ([] : List Loc) = locs at hS ⊢
  have hS : va_S A s.heap H locs := by rw [← hH]; exact hS
  have C0 : CX cX8_stow 3 (some .int) RX8 wsX8_stow D cy p s m _ meth c A := C0
  obtain ⟨hx, hb, hr, hml, hown, hts, hK, hA, hN, hlocks⟩ := id C0
  unfold f_X8_stow at hf
  refine lv_iload_n hx hb dX8_stow_0 rfl (lv_at hl 1 rfl) ?_
  refine lv_iconst (v := (0 : Int32)) hx hb dX8_stow_1 (by decide) ?_
  refine lv_sipush (v := (1000 : Int32)) hx hb dX8_stow_2 (by decide) ?_
  obtain ⟨u1, eu1, hf⟩ := Option.bind_eq_some_iff.mp hf
  refine cq_i (wc' := fun (u : Unit) => ([] : va_W)) (ws' := fun (u : Unit) => (wX8 cy qSC (qWe 0) (qPa 0) (qHo 0) (qHb 0) (qTa 0) (qRe 0) (qVo 0) (qAg 0) (qDr 0) SC_faultPlace SC_refusedBy ++ (wX1 cy qHo Ho_tons Ho_worth Ho_apartBits Ho_loads Ho_room Ho_bestBits Ho_bestTons Ho_bestWorth))) (wc := ([] : va_W)) (wr := (wX8 cy qSC (qWe 0) (qPa 0) (qHo 0) (qHb 0) (qTa 0) (qRe 0) (qVo 0) (qAg 0) (qDr 0) SC_faultPlace SC_refusedBy ++ (wX1 cy qHo Ho_tons Ho_worth Ho_apartBits Ho_loads Ho_room Ho_bestBits Ho_bestTons Ho_bestWorth))) C0 hP hD hS [] [0, 1, 2, 3, 4] [0, 1, 2, 3, 4] rfl rfl (by decide) (by decide) (by decide) (fun _ => rfl) (va_runS (As := [.int x1, .int (0 : Int32), .int (1000 : Int32)]) (rest := []) ⟨hx, hb, hml, hown, hts⟩ (c_X8_isWithin l D cy   H.size x1 (0 : Int32) (1000 : Int32) u1 eu1) (va_cwS 3 hts gX8_stow_X8_isWithin rfl rfl rfl (by decide +kernel) ⟨Nat.le_of_ble_eq_true rfl, Nat.le_of_ble_eq_true rfl⟩) (pre_S (hP.sub (ws' := ([] : va_W)) [] rfl) hK (hD.sub (ws' := ([] : va_W)) [] (by decide) rfl) hN) rfl rfl hl.1 rfl (lv_room (Nat.le_of_ble_eq_true rfl)) dX8_stow_5 ⟨Nat.zero_le _, Nat.zero_le _⟩) (fun r u H locs hw hP hD hS => ?_)
  have hw := hw.symm
  subst hw
  have hP : va_P D vwCl (wX8 cy qSC (qWe 0) (qPa 0) (qHo 0) (qHb 0) (qTa 0) (qRe 0) (qVo 0) (qAg 0) (qDr 0) SC_faultPlace SC_refusedBy ++ (wX1 cy qHo Ho_tons Ho_worth Ho_apartBits Ho_loads Ho_room Ho_bestBits Ho_bestTons Ho_bestWorth)) H := hP
  have hD : va_D A (wX8 cy qSC (qWe 0) (qPa 0) (qHo 0) (qHb 0) (qTa 0) (qRe 0) (qVo 0) (qAg 0) (qDr 0) SC_faultPlace SC_refusedBy ++ (wX1 cy qHo Ho_tons Ho_worth Ho_apartBits Ho_loads Ho_room Ho_bestBits Ho_bestTons Ho_bestWorth)) := hD
  refine lv_if_eq (tgt := 20) hx hb dX8_stow_8 (by decide) (fun hc2 => ?_) (fun hc2 => ?_)
  · have hf := ift hf hc2
    refine lv_iconst (v := (-1 : Int32)) hx hb dX8_stow_20 (by decide) ?_
    exact rq_i C0 (Ho_room, Ho_bestBits, Ho_bestTons, Ho_bestWorth) (pr_2 hf) hP hD hS dX8_stow_21
  · have hf := iff_ hf hc2
    refine lv_iload_n hx hb dX8_stow_11 rfl (lv_at hl 2 rfl) ?_
    refine lv_iconst (v := (0 : Int32)) hx hb dX8_stow_12 (by decide) ?_
    refine lv_iconst (v := (2 : Int32)) hx hb dX8_stow_13 (by decide) ?_
    obtain ⟨u3, eu3, hf⟩ := Option.bind_eq_some_iff.mp hf
    refine cq_i (wc' := fun (u : Unit) => ([] : va_W)) (ws' := fun (u : Unit) => (wX8 cy qSC (qWe 0) (qPa 0) (qHo 0) (qHb 0) (qTa 0) (qRe 0) (qVo 0) (qAg 0) (qDr 0) SC_faultPlace SC_refusedBy ++ (wX1 cy qHo Ho_tons Ho_worth Ho_apartBits Ho_loads Ho_room Ho_bestBits Ho_bestTons Ho_bestWorth))) (wc := ([] : va_W)) (wr := (wX8 cy qSC (qWe 0) (qPa 0) (qHo 0) (qHb 0) (qTa 0) (qRe 0) (qVo 0) (qAg 0) (qDr 0) SC_faultPlace SC_refusedBy ++ (wX1 cy qHo Ho_tons Ho_worth Ho_apartBits Ho_loads Ho_room Ho_bestBits Ho_bestTons Ho_bestWorth))) C0 hP hD hS [] [0, 1, 2, 3, 4] [0, 1, 2, 3, 4] rfl rfl (by decide) (by decide) (by decide) (fun _ => rfl) (va_runS (As := [.int x2, .int (0 : Int32), .int (2 : Int32)]) (rest := []) ⟨hx, hb, hml, hown, hts⟩ (c_X8_isWithin l D cy   H.size x2 (0 : Int32) (2 : Int32) u3 eu3) (va_cwS 3 hts gX8_stow_X8_isWithin rfl rfl rfl (by decide +kernel) ⟨Nat.le_of_ble_eq_true rfl, Nat.le_of_ble_eq_true rfl⟩) (pre_S (hP.sub (ws' := ([] : va_W)) [] rfl) hK (hD.sub (ws' := ([] : va_W)) [] (by decide) rfl) hN) rfl rfl hl.1 rfl (lv_room (Nat.le_of_ble_eq_true rfl)) dX8_stow_14 ⟨Nat.zero_le _, Nat.zero_le _⟩) (fun r u H locs hw hP hD hS => ?_)
    have hw := hw.symm
    subst hw
    have hP : va_P D vwCl (wX8 cy qSC (qWe 0) (qPa 0) (qHo 0) (qHb 0) (qTa 0) (qRe 0) (qVo 0) (qAg 0) (qDr 0) SC_faultPlace SC_refusedBy ++ (wX1 cy qHo Ho_tons Ho_worth Ho_apartBits Ho_loads Ho_room Ho_bestBits Ho_bestTons Ho_bestWorth)) H := hP
    have hD : va_D A (wX8 cy qSC (qWe 0) (qPa 0) (qHo 0) (qHb 0) (qTa 0) (qRe 0) (qVo 0) (qAg 0) (qDr 0) SC_faultPlace SC_refusedBy ++ (wX1 cy qHo Ho_tons Ho_worth Ho_apartBits Ho_loads Ho_room Ho_bestBits Ho_bestTons Ho_bestWorth)) := hD
    refine lv_if_ne (tgt := 22) hx hb dX8_stow_17 (by decide) (fun hc4 => ?_) (fun hc4 => ?_)
    · have hf := iff_ hf hc4
      refine lv_aload_n hx hb dX8_stow_22 rfl (lv_at hl 0 rfl) ?_
      refine va_get (D := D) (ci := 8) (v := .ref (qHo 0)) (C := RX8) (T := TX8) (N := 11) hx hb hts i_X8_stow_X8 hown hK hP 0 rfl rfl 2 (by decide) (hts _ m_X8_stow_f26) (fun _ h9 => h9) rfl dX8_stow_23 ?_
      refine lv_iload_n hx hb dX8_stow_26 rfl (lv_at hl 1 rfl) ?_
      obtain ⟨u5, eu5, hf⟩ := Option.bind_eq_some_iff.mp hf
      refine cq_v (wc' := fun (u : (Int32) × (Int32) × (Int32) × (Int32)) => (wX1 cy qHo Ho_tons Ho_worth Ho_apartBits Ho_loads u.1 u.2.1 u.2.2.1 u.2.2.2)) (ws' := fun (u : (Int32) × (Int32) × (Int32) × (Int32)) => (wX8 cy qSC (qWe 0) (qPa 0) (qHo 0) (qHb 0) (qTa 0) (qRe 0) (qVo 0) (qAg 0) (qDr 0) SC_faultPlace SC_refusedBy ++ (wX1 cy qHo Ho_tons Ho_worth Ho_apartBits Ho_loads u.1 u.2.1 u.2.2.1 u.2.2.2))) (wc := (wX1 cy qHo Ho_tons Ho_worth Ho_apartBits Ho_loads Ho_room Ho_bestBits Ho_bestTons Ho_bestWorth)) (wr := (wX8 cy qSC (qWe 0) (qPa 0) (qHo 0) (qHb 0) (qTa 0) (qRe 0) (qVo 0) (qAg 0) (qDr 0) SC_faultPlace SC_refusedBy)) C0 hP hD hS [1, 2, 3, 4] [0] [0, 1, 2, 3, 4] rfl rfl (by decide) (by decide) (by decide) (fun _ => rfl) (va_runV (As := [.int x1]) (rest := []) ⟨hx, hb, hml, hown, hts⟩ (c_X1_fill l D cy qHo Ho_tons Ho_worth Ho_apartBits Ho_loads Ho_room Ho_bestBits Ho_bestTons Ho_bestWorth H.size x1 u5 eu5) (cwV 1 hts gX8_stow_X1_fill rfl rfl rfl (by decide +kernel) ⟨Nat.le_of_ble_eq_true rfl, Nat.le_of_ble_eq_true rfl⟩) (pre_V (hP.sub (ws' := (wX1 cy qHo Ho_tons Ho_worth Ho_apartBits Ho_loads Ho_room Ho_bestBits Ho_bestTons Ho_bestWorth)) [1, 2, 3, 4] rfl) hK (hD.sub (ws' := (wX1 cy qHo Ho_tons Ho_worth Ho_apartBits Ho_loads Ho_room Ho_bestBits Ho_bestTons Ho_bestWorth)) [1, 2, 3, 4] (by decide) rfl) hN 1 0 rfl rfl) rfl rfl hl.1 rfl (lv_room (Nat.le_of_ble_eq_true rfl)) dX8_stow_27 ⟨Nat.zero_le _, Nat.zero_le _⟩) (fun u H locs hw hP hD hS => ?_)
      have hw := hw.symm
      subst hw
      have hP : va_P D vwCl (wX8 cy qSC (qWe 0) (qPa 0) (qHo 0) (qHb 0) (qTa 0) (qRe 0) (qVo 0) (qAg 0) (qDr 0) SC_faultPlace SC_refusedBy ++ (wX1 cy qHo Ho_tons Ho_worth Ho_apartBits Ho_loads u5.1 u5.2.1 u5.2.2.1 u5.2.2.2)) H := hP
      have hD : va_D A (wX8 cy qSC (qWe 0) (qPa 0) (qHo 0) (qHb 0) (qTa 0) (qRe 0) (qVo 0) (qAg 0) (qDr 0) SC_faultPlace SC_refusedBy ++ (wX1 cy qHo Ho_tons Ho_worth Ho_apartBits Ho_loads u5.1 u5.2.1 u5.2.2.1 u5.2.2.2)) := hD
      refine lv_iload_n hx hb dX8_stow_30 rfl (lv_at hl 2 rfl) ?_
      refine lv_if_ne (tgt := 42) hx hb dX8_stow_31 (by decide) (fun hc6 => ?_) (fun hc6 => ?_)
      · have hf := iff_ hf hc6
        refine lv_iload_n hx hb dX8_stow_42 rfl (lv_at hl 2 rfl) ?_
        refine lv_iconst (v := (1 : Int32)) hx hb dX8_stow_43 (by decide) ?_
        refine lv_icmp_ne (tgt := 57) hx hb dX8_stow_44 (by decide) (fun hc7 => ?_) (fun hc7 => ?_)
        · have hf := iff_ hf hc7
          refine lv_aload_n hx hb dX8_stow_57 rfl (lv_at hl 0 rfl) ?_
          refine va_get (D := D) (ci := 8) (v := .ref (qHo 0)) (C := RX8) (T := TX8) (N := 11) hx hb hts i_X8_stow_X8 hown hK hP 0 rfl rfl 2 (by decide) (hts _ m_X8_stow_f26) (fun _ h9 => h9) rfl dX8_stow_58 ?_
          refine va_getN (D := D) (ci := 1) (v := .int u5.2.2.2) (C := RX1) (T := TX1) (N := 8) hx hb hts i_X8_stow_X1 hown hK hP 1 rfl rfl 7 (by decide) (va_Nw.use rfl (hN _ nw_X8_153)) (fun _ h9 => h9) rfl dX8_stow_61 ?_
          exact rq_i C0 (u5.1, u5.2.1, u5.2.2.1, u5.2.2.2) (pr_2 hf) hP hD hS dX8_stow_64
        · have hf := ift hf hc7
          refine lv_aload_n hx hb dX8_stow_47 rfl (lv_at hl 0 rfl) ?_
          refine va_get (D := D) (ci := 8) (v := .ref (qHo 0)) (C := RX8) (T := TX8) (N := 11) hx hb hts i_X8_stow_X8 hown hK hP 0 rfl rfl 2 (by decide) (hts _ m_X8_stow_f26) (fun _ h9 => h9) rfl dX8_stow_48 ?_
          refine va_getN (D := D) (ci := 1) (v := .int u5.2.2.1) (C := RX1) (T := TX1) (N := 8) hx hb hts i_X8_stow_X1 hown hK hP 1 rfl rfl 6 (by decide) (va_Nw.use rfl (hN _ nw_X8_150)) (fun _ h9 => h9) rfl dX8_stow_51 ?_
          refine lv_goto (tgt := 64) hx hb dX8_stow_54 (by decide) ?_
          exact rq_i C0 (u5.1, u5.2.1, u5.2.2.1, u5.2.2.2) (pr_2 hf) hP hD hS dX8_stow_64
      · have hf := ift hf hc6
        refine lv_aload_n hx hb dX8_stow_34 rfl (lv_at hl 0 rfl) ?_
        refine va_get (D := D) (ci := 8) (v := .ref (qHo 0)) (C := RX8) (T := TX8) (N := 11) hx hb hts i_X8_stow_X8 hown hK hP 0 rfl rfl 2 (by decide) (hts _ m_X8_stow_f26) (fun _ h9 => h9) rfl dX8_stow_35 ?_
        refine va_getN (D := D) (ci := 1) (v := .int u5.2.1) (C := RX1) (T := TX1) (N := 8) hx hb hts i_X8_stow_X1 hown hK hP 1 rfl rfl 5 (by decide) (va_Nw.use rfl (hN _ nw_X8_147)) (fun _ h9 => h9) rfl dX8_stow_38 ?_
        exact rq_i C0 (u5.1, u5.2.1, u5.2.2.1, u5.2.2.2) (pr_2 hf) hP hD hS dX8_stow_41
    · have hf := ift hf hc4
      refine lv_iconst (v := (-1 : Int32)) hx hb dX8_stow_20 (by decide) ?_
      exact rq_i C0 (Ho_room, Ho_bestBits, Ho_bestTons, Ho_bestWorth) (pr_2 hf) hP hD hS dX8_stow_21

theorem i_X8_berths_X8 : ∀ w ∈ wsX80, w ∈ wsX8_berths := by decide +kernel
theorem m_X8_berths_f33 : Cond.fieldLink RX8 33 "SailCargo" "harbour" "LSailCargo$Harbour;" ∈ wsX8_berths := by decide +kernel
set_option maxHeartbeats 4000000 in
set_option maxRecDepth 100000 in
theorem c_X8_berths (l : Launch) (D : va_G) (cy : Nat → ClassId) (qSC qHb qWe qPa qHo qTa qRe qVo qAg qDr : Nat → Nat) (SC_faultPlace : Int32) (SC_refusedBy : Int32) (Hb_berthsOf : Nat → Int32) (Hb_port : Nat → Int32) (Hb_berth : Nat → Int32) (Hb_first : Nat → Int32) (Hb_last : Nat → Int32) (Hb_isGivenUp : Nat → Int32) (Hb_told : Int32) (Hb_held : Int32) (sz : Nat) (x1 : Int32) (x2 : Int32) (X : Int32 × (Int32) × (Nat → Int32)) (hf : f_X8_berths SC_refusedBy Hb_berthsOf Hb_port Hb_berth Hb_isGivenUp Hb_told x1 x2 = some X) : Met l yX8_berths wsX8_berths ({ frames := 3, cells := 0, slots := 0, locals := 65 } : Room) (va_Pc [.ref (qSC 0), .int x1, .int x2] (PW D cy (wX8 cy qSC (qWe 0) (qPa 0) (qHo 0) (qHb 0) (qTa 0) (qRe 0) (qVo 0) (qAg 0) (qDr 0) SC_faultPlace SC_refusedBy ++ (wX0 cy qHb Hb_berthsOf Hb_port Hb_berth Hb_first Hb_last Hb_isGivenUp Hb_told Hb_held)) sz)) (va_Qi (fun (r : Int32) (u : (Int32) × (Nat → Int32)) => r = X.1 ∧ u = X.2) (fun u t => BW D cy (va_A (wX8 cy qSC (qWe 0) (qPa 0) (qHo 0) (qHb 0) (qTa 0) (qRe 0) (qVo 0) (qAg 0) (qDr 0) SC_faultPlace SC_refusedBy ++ (wX0 cy qHb Hb_berthsOf Hb_port Hb_berth Hb_first Hb_last Hb_isGivenUp Hb_told Hb_held)) sz) (wX8 cy qSC (qWe 0) (qPa 0) (qHo 0) (qHb 0) (qTa 0) (qRe 0) (qVo 0) (qAg 0) (qDr 0) SC_faultPlace u.1 ++ (wX0 cy qHb u.2 Hb_port Hb_berth Hb_first Hb_last Hb_isGivenUp Hb_told Hb_held)) t) (va_A (wX8 cy qSC (qWe 0) (qPa 0) (qHo 0) (qHb 0) (qTa 0) (qRe 0) (qVo 0) (qAg 0) (qDr 0) SC_faultPlace SC_refusedBy ++ (wX0 cy qHb Hb_berthsOf Hb_port Hb_berth Hb_first Hb_last Hb_isGivenUp Hb_told Hb_held)) sz)) 0 0 (va_A (wX8 cy qSC (qWe 0) (qPa 0) (qHo 0) (qHb 0) (qTa 0) (qRe 0) (qVo 0) (qAg 0) (qDr 0) SC_faultPlace SC_refusedBy ++ (wX0 cy qHb Hb_berthsOf Hb_port Hb_berth Hb_first Hb_last Hb_isGivenUp Hb_told Hb_held)) sz) := by
  refine met_enter (Qc := fun A => (va_Qi (fun (r : Int32) (u : (Int32) × (Nat → Int32)) => r = X.1 ∧ u = X.2) (fun u t => BW D cy A (wX8 cy qSC (qWe 0) (qPa 0) (qHo 0) (qHb 0) (qTa 0) (qRe 0) (qVo 0) (qAg 0) (qDr 0) SC_faultPlace u.1 ++ (wX0 cy qHb u.2 Hb_port Hb_berth Hb_first Hb_last Hb_isGivenUp Hb_told Hb_held)) t) A)) (lv0 := [(0, .ref (qSC 0)), (1, .int x1), (2, .int x2)]) (by decide) rfl (Nat.le_of_ble_eq_true rfl) rfl ?_
  intro p e s m below meth c A ls hnm C0 hP hD hS hl
  generalize hH : s.heap = H at hP ⊢
  generalize hLoc : ([] : List Loc) = locs at hS ⊢
  have hS : va_S A s.heap H locs := by rw [← hH]; exact hS
  have C0 : CX cX8_berths 3 (some .int) RX8 wsX8_berths D cy p s m _ meth c A := C0
  obtain ⟨hx, hb, hr, hml, hown, hts, hK, hA, hN, hlocks⟩ := id C0
  unfold f_X8_berths at hf
  refine lv_aload_n hx hb dX8_berths_0 rfl (lv_at hl 0 rfl) ?_
  refine lv_aload_n hx hb dX8_berths_1 rfl (lv_at hl 0 rfl) ?_
  refine va_get (D := D) (ci := 8) (v := .ref (qHb 0)) (C := RX8) (T := TX8) (N := 11) hx hb hts i_X8_berths_X8 hown hK hP 0 rfl rfl 3 (by decide) (hts _ m_X8_berths_f33) (fun _ h9 => h9) rfl dX8_berths_2 ?_
  refine lv_iload_n hx hb dX8_berths_5 rfl (lv_at hl 1 rfl) ?_
  refine lv_iload_n hx hb dX8_berths_6 rfl (lv_at hl 2 rfl) ?_
  obtain ⟨u1, eu1, hf⟩ := Option.bind_eq_some_iff.mp hf
  refine cq_i (wc' := fun (u : (Nat → Int32)) => (wX0 cy qHb u Hb_port Hb_berth Hb_first Hb_last Hb_isGivenUp Hb_told Hb_held)) (ws' := fun (u : (Nat → Int32)) => (wX8 cy qSC (qWe 0) (qPa 0) (qHo 0) (qHb 0) (qTa 0) (qRe 0) (qVo 0) (qAg 0) (qDr 0) SC_faultPlace SC_refusedBy ++ (wX0 cy qHb u Hb_port Hb_berth Hb_first Hb_last Hb_isGivenUp Hb_told Hb_held))) (wc := (wX0 cy qHb Hb_berthsOf Hb_port Hb_berth Hb_first Hb_last Hb_isGivenUp Hb_told Hb_held)) (wr := (wX8 cy qSC (qWe 0) (qPa 0) (qHo 0) (qHb 0) (qTa 0) (qRe 0) (qVo 0) (qAg 0) (qDr 0) SC_faultPlace SC_refusedBy)) C0 hP hD hS [1, 2, 3, 4, 5, 6, 7] [0] [0, 1, 2, 3, 4, 5, 6, 7] rfl rfl (by decide) (by decide) (by decide) (fun _ => rfl) (va_runV (As := [.int x1, .int x2]) (rest := [.ref (qSC 0)]) ⟨hx, hb, hml, hown, hts⟩ (c_X0_setBerths l D cy qHb Hb_berthsOf Hb_port Hb_berth Hb_first Hb_last Hb_isGivenUp Hb_told Hb_held H.size x1 x2 u1 eu1) (cwV 2 hts gX8_berths_X0_setBerths rfl rfl rfl (by decide +kernel) ⟨Nat.le_of_ble_eq_true rfl, Nat.le_of_ble_eq_true rfl⟩) (pre_V (hP.sub (ws' := (wX0 cy qHb Hb_berthsOf Hb_port Hb_berth Hb_first Hb_last Hb_isGivenUp Hb_told Hb_held)) [1, 2, 3, 4, 5, 6, 7] rfl) hK (hD.sub (ws' := (wX0 cy qHb Hb_berthsOf Hb_port Hb_berth Hb_first Hb_last Hb_isGivenUp Hb_told Hb_held)) [1, 2, 3, 4, 5, 6, 7] (by decide) rfl) hN 0 0 rfl rfl) rfl rfl hl.1 rfl (lv_room (Nat.le_of_ble_eq_true rfl)) dX8_berths_7 ⟨Nat.zero_le _, Nat.zero_le _⟩) (fun r u H locs hw hP hD hS => ?_)
  obtain ⟨rfl, rfl⟩ := hw
  have hP : va_P D vwCl (wX8 cy qSC (qWe 0) (qPa 0) (qHo 0) (qHb 0) (qTa 0) (qRe 0) (qVo 0) (qAg 0) (qDr 0) SC_faultPlace SC_refusedBy ++ (wX0 cy qHb u1.2 Hb_port Hb_berth Hb_first Hb_last Hb_isGivenUp Hb_told Hb_held)) H := hP
  have hD : va_D A (wX8 cy qSC (qWe 0) (qPa 0) (qHo 0) (qHb 0) (qTa 0) (qRe 0) (qVo 0) (qAg 0) (qDr 0) SC_faultPlace SC_refusedBy ++ (wX0 cy qHb u1.2 Hb_port Hb_berth Hb_first Hb_last Hb_isGivenUp Hb_told Hb_held)) := hD
  obtain ⟨u2, eu2, hf⟩ := Option.bind_eq_some_iff.mp hf
  refine cq_i (wc' := fun (u : (Int32)) => (wX8 cy qSC (qWe 0) (qPa 0) (qHo 0) (qHb 0) (qTa 0) (qRe 0) (qVo 0) (qAg 0) (qDr 0) SC_faultPlace u)) (ws' := fun (u : (Int32)) => (wX8 cy qSC (qWe 0) (qPa 0) (qHo 0) (qHb 0) (qTa 0) (qRe 0) (qVo 0) (qAg 0) (qDr 0) SC_faultPlace u ++ (wX0 cy qHb u1.2 Hb_port Hb_berth Hb_first Hb_last Hb_isGivenUp Hb_told Hb_held))) (wc := (wX8 cy qSC (qWe 0) (qPa 0) (qHo 0) (qHb 0) (qTa 0) (qRe 0) (qVo 0) (qAg 0) (qDr 0) SC_faultPlace SC_refusedBy)) (wr := (wX0 cy qHb u1.2 Hb_port Hb_berth Hb_first Hb_last Hb_isGivenUp Hb_told Hb_held)) C0 hP hD hS [0] [1, 2, 3, 4, 5, 6, 7] [7, 0, 1, 2, 3, 4, 5, 6] rfl rfl (by decide) (by decide) (by decide) (fun _ => rfl) (va_runV (As := [.int u1.1]) (rest := []) ⟨hx, hb, hml, hown, hts⟩ (c_X8_answered l D cy qSC qWe qPa qHo qHb qTa qRe qVo qAg qDr SC_faultPlace SC_refusedBy H.size u1.1 u2 eu2) (cwV 1 hts gX8_berths_X8_answered rfl rfl rfl (by decide +kernel) ⟨Nat.le_of_ble_eq_true rfl, Nat.le_of_ble_eq_true rfl⟩) (pre_V (hP.sub (ws' := (wX8 cy qSC (qWe 0) (qPa 0) (qHo 0) (qHb 0) (qTa 0) (qRe 0) (qVo 0) (qAg 0) (qDr 0) SC_faultPlace SC_refusedBy)) [0] rfl) hK (hD.sub (ws' := (wX8 cy qSC (qWe 0) (qPa 0) (qHo 0) (qHb 0) (qTa 0) (qRe 0) (qVo 0) (qAg 0) (qDr 0) SC_faultPlace SC_refusedBy)) [0] (by decide) rfl) hN 8 0 rfl rfl) rfl rfl hl.1 rfl (lv_room (Nat.le_of_ble_eq_true rfl)) dX8_berths_10 ⟨Nat.zero_le _, Nat.zero_le _⟩) (fun r u H locs hw hP hD hS => ?_)
  obtain ⟨rfl, rfl⟩ := hw
  have hP : va_P D vwCl (wX8 cy qSC (qWe 0) (qPa 0) (qHo 0) (qHb 0) (qTa 0) (qRe 0) (qVo 0) (qAg 0) (qDr 0) SC_faultPlace u2.2 ++ (wX0 cy qHb u1.2 Hb_port Hb_berth Hb_first Hb_last Hb_isGivenUp Hb_told Hb_held)) H := hP
  have hD : va_D A (wX8 cy qSC (qWe 0) (qPa 0) (qHo 0) (qHb 0) (qTa 0) (qRe 0) (qVo 0) (qAg 0) (qDr 0) SC_faultPlace u2.2 ++ (wX0 cy qHb u1.2 Hb_port Hb_berth Hb_first Hb_last Hb_isGivenUp Hb_told Hb_held)) := hD
  exact rq_i C0 (u2.2, u1.2) (pr_2 hf) hP hD hS dX8_berths_13

theorem i_X8_slot_X8 : ∀ w ∈ wsX80, w ∈ wsX8_slot := by decide +kernel
theorem m_X8_slot_f33 : Cond.fieldLink RX8 33 "SailCargo" "harbour" "LSailCargo$Harbour;" ∈ wsX8_slot := by decide +kernel
set_option maxHeartbeats 4000000 in
set_option maxRecDepth 100000 in
theorem c_X8_slot (l : Launch) (D : va_G) (cy : Nat → ClassId) (qSC qHb qWe qPa qHo qTa qRe qVo qAg qDr : Nat → Nat) (SC_faultPlace : Int32) (SC_refusedBy : Int32) (Hb_berthsOf : Nat → Int32) (Hb_port : Nat → Int32) (Hb_berth : Nat → Int32) (Hb_first : Nat → Int32) (Hb_last : Nat → Int32) (Hb_isGivenUp : Nat → Int32) (Hb_told : Int32) (Hb_held : Int32) (sz : Nat) (x1 : Int32) (x2 : Int32) (x3 : Int32) (X : Int32 × (Int32) × (Nat → Int32) × (Nat → Int32) × (Nat → Int32) × (Nat → Int32) × (Int32) × (Int32)) (hf : f_X8_slot SC_refusedBy Hb_berthsOf Hb_port Hb_berth Hb_first Hb_last Hb_isGivenUp Hb_told Hb_held x1 x2 x3 = some X) : Met l yX8_slot wsX8_slot ({ frames := 3, cells := 0, slots := 0, locals := 79 } : Room) (va_Pc [.ref (qSC 0), .int x1, .int x2, .int x3] (PW D cy (wX8 cy qSC (qWe 0) (qPa 0) (qHo 0) (qHb 0) (qTa 0) (qRe 0) (qVo 0) (qAg 0) (qDr 0) SC_faultPlace SC_refusedBy ++ (wX0 cy qHb Hb_berthsOf Hb_port Hb_berth Hb_first Hb_last Hb_isGivenUp Hb_told Hb_held)) sz)) (va_Qi (fun (r : Int32) (u : (Int32) × (Nat → Int32) × (Nat → Int32) × (Nat → Int32) × (Nat → Int32) × (Int32) × (Int32)) => r = X.1 ∧ u = X.2) (fun u t => BW D cy (va_A (wX8 cy qSC (qWe 0) (qPa 0) (qHo 0) (qHb 0) (qTa 0) (qRe 0) (qVo 0) (qAg 0) (qDr 0) SC_faultPlace SC_refusedBy ++ (wX0 cy qHb Hb_berthsOf Hb_port Hb_berth Hb_first Hb_last Hb_isGivenUp Hb_told Hb_held)) sz) (wX8 cy qSC (qWe 0) (qPa 0) (qHo 0) (qHb 0) (qTa 0) (qRe 0) (qVo 0) (qAg 0) (qDr 0) SC_faultPlace u.1 ++ (wX0 cy qHb Hb_berthsOf u.2.1 u.2.2.1 u.2.2.2.1 u.2.2.2.2.1 Hb_isGivenUp u.2.2.2.2.2.1 u.2.2.2.2.2.2)) t) (va_A (wX8 cy qSC (qWe 0) (qPa 0) (qHo 0) (qHb 0) (qTa 0) (qRe 0) (qVo 0) (qAg 0) (qDr 0) SC_faultPlace SC_refusedBy ++ (wX0 cy qHb Hb_berthsOf Hb_port Hb_berth Hb_first Hb_last Hb_isGivenUp Hb_told Hb_held)) sz)) 0 0 (va_A (wX8 cy qSC (qWe 0) (qPa 0) (qHo 0) (qHb 0) (qTa 0) (qRe 0) (qVo 0) (qAg 0) (qDr 0) SC_faultPlace SC_refusedBy ++ (wX0 cy qHb Hb_berthsOf Hb_port Hb_berth Hb_first Hb_last Hb_isGivenUp Hb_told Hb_held)) sz) := by
  refine met_enter (Qc := fun A => (va_Qi (fun (r : Int32) (u : (Int32) × (Nat → Int32) × (Nat → Int32) × (Nat → Int32) × (Nat → Int32) × (Int32) × (Int32)) => r = X.1 ∧ u = X.2) (fun u t => BW D cy A (wX8 cy qSC (qWe 0) (qPa 0) (qHo 0) (qHb 0) (qTa 0) (qRe 0) (qVo 0) (qAg 0) (qDr 0) SC_faultPlace u.1 ++ (wX0 cy qHb Hb_berthsOf u.2.1 u.2.2.1 u.2.2.2.1 u.2.2.2.2.1 Hb_isGivenUp u.2.2.2.2.2.1 u.2.2.2.2.2.2)) t) A)) (lv0 := [(0, .ref (qSC 0)), (1, .int x1), (2, .int x2), (3, .int x3)]) (by decide) rfl (Nat.le_of_ble_eq_true rfl) rfl ?_
  intro p e s m below meth c A ls hnm C0 hP hD hS hl
  generalize hH : s.heap = H at hP ⊢
  generalize hLoc : ([] : List Loc) = locs at hS ⊢
  have hS : va_S A s.heap H locs := by rw [← hH]; exact hS
  have C0 : CX cX8_slot 4 (some .int) RX8 wsX8_slot D cy p s m _ meth c A := C0
  obtain ⟨hx, hb, hr, hml, hown, hts, hK, hA, hN, hlocks⟩ := id C0
  unfold f_X8_slot at hf
  refine lv_aload_n hx hb dX8_slot_0 rfl (lv_at hl 0 rfl) ?_
  refine lv_aload_n hx hb dX8_slot_1 rfl (lv_at hl 0 rfl) ?_
  refine va_get (D := D) (ci := 8) (v := .ref (qHb 0)) (C := RX8) (T := TX8) (N := 11) hx hb hts i_X8_slot_X8 hown hK hP 0 rfl rfl 3 (by decide) (hts _ m_X8_slot_f33) (fun _ h9 => h9) rfl dX8_slot_2 ?_
  refine lv_iload_n hx hb dX8_slot_5 rfl (lv_at hl 1 rfl) ?_
  refine lv_iload_n hx hb dX8_slot_6 rfl (lv_at hl 2 rfl) ?_
  refine lv_iload_n hx hb dX8_slot_7 rfl (lv_at hl 3 rfl) ?_
  obtain ⟨u1, eu1, hf⟩ := Option.bind_eq_some_iff.mp hf
  refine cq_i (wc' := fun (u : (Nat → Int32) × (Nat → Int32) × (Nat → Int32) × (Nat → Int32) × (Int32) × (Int32)) => (wX0 cy qHb Hb_berthsOf u.1 u.2.1 u.2.2.1 u.2.2.2.1 Hb_isGivenUp u.2.2.2.2.1 u.2.2.2.2.2)) (ws' := fun (u : (Nat → Int32) × (Nat → Int32) × (Nat → Int32) × (Nat → Int32) × (Int32) × (Int32)) => (wX8 cy qSC (qWe 0) (qPa 0) (qHo 0) (qHb 0) (qTa 0) (qRe 0) (qVo 0) (qAg 0) (qDr 0) SC_faultPlace SC_refusedBy ++ (wX0 cy qHb Hb_berthsOf u.1 u.2.1 u.2.2.1 u.2.2.2.1 Hb_isGivenUp u.2.2.2.2.1 u.2.2.2.2.2))) (wc := (wX0 cy qHb Hb_berthsOf Hb_port Hb_berth Hb_first Hb_last Hb_isGivenUp Hb_told Hb_held)) (wr := (wX8 cy qSC (qWe 0) (qPa 0) (qHo 0) (qHb 0) (qTa 0) (qRe 0) (qVo 0) (qAg 0) (qDr 0) SC_faultPlace SC_refusedBy)) C0 hP hD hS [1, 2, 3, 4, 5, 6, 7] [0] [0, 1, 2, 3, 4, 5, 6, 7] rfl rfl (by decide) (by decide) (by decide) (fun _ => rfl) (va_runV (As := [.int x1, .int x2, .int x3]) (rest := [.ref (qSC 0)]) ⟨hx, hb, hml, hown, hts⟩ (c_X0_grant l D cy qHb Hb_berthsOf Hb_port Hb_berth Hb_first Hb_last Hb_isGivenUp Hb_told Hb_held H.size x1 x2 x3 u1 eu1) (cwV 3 hts gX8_slot_X0_grant rfl rfl rfl (by decide +kernel) ⟨Nat.le_of_ble_eq_true rfl, Nat.le_of_ble_eq_true rfl⟩) (pre_V (hP.sub (ws' := (wX0 cy qHb Hb_berthsOf Hb_port Hb_berth Hb_first Hb_last Hb_isGivenUp Hb_told Hb_held)) [1, 2, 3, 4, 5, 6, 7] rfl) hK (hD.sub (ws' := (wX0 cy qHb Hb_berthsOf Hb_port Hb_berth Hb_first Hb_last Hb_isGivenUp Hb_told Hb_held)) [1, 2, 3, 4, 5, 6, 7] (by decide) rfl) hN 0 0 rfl rfl) rfl rfl hl.1 rfl (lv_room (Nat.le_of_ble_eq_true rfl)) dX8_slot_8 ⟨Nat.zero_le _, Nat.zero_le _⟩) (fun r u H locs hw hP hD hS => ?_)
  obtain ⟨rfl, rfl⟩ := hw
  have hP : va_P D vwCl (wX8 cy qSC (qWe 0) (qPa 0) (qHo 0) (qHb 0) (qTa 0) (qRe 0) (qVo 0) (qAg 0) (qDr 0) SC_faultPlace SC_refusedBy ++ (wX0 cy qHb Hb_berthsOf u1.2.1 u1.2.2.1 u1.2.2.2.1 u1.2.2.2.2.1 Hb_isGivenUp u1.2.2.2.2.2.1 u1.2.2.2.2.2.2)) H := hP
  have hD : va_D A (wX8 cy qSC (qWe 0) (qPa 0) (qHo 0) (qHb 0) (qTa 0) (qRe 0) (qVo 0) (qAg 0) (qDr 0) SC_faultPlace SC_refusedBy ++ (wX0 cy qHb Hb_berthsOf u1.2.1 u1.2.2.1 u1.2.2.2.1 u1.2.2.2.2.1 Hb_isGivenUp u1.2.2.2.2.2.1 u1.2.2.2.2.2.2)) := hD
  obtain ⟨u2, eu2, hf⟩ := Option.bind_eq_some_iff.mp hf
  refine cq_i (wc' := fun (u : (Int32)) => (wX8 cy qSC (qWe 0) (qPa 0) (qHo 0) (qHb 0) (qTa 0) (qRe 0) (qVo 0) (qAg 0) (qDr 0) SC_faultPlace u)) (ws' := fun (u : (Int32)) => (wX8 cy qSC (qWe 0) (qPa 0) (qHo 0) (qHb 0) (qTa 0) (qRe 0) (qVo 0) (qAg 0) (qDr 0) SC_faultPlace u ++ (wX0 cy qHb Hb_berthsOf u1.2.1 u1.2.2.1 u1.2.2.2.1 u1.2.2.2.2.1 Hb_isGivenUp u1.2.2.2.2.2.1 u1.2.2.2.2.2.2))) (wc := (wX8 cy qSC (qWe 0) (qPa 0) (qHo 0) (qHb 0) (qTa 0) (qRe 0) (qVo 0) (qAg 0) (qDr 0) SC_faultPlace SC_refusedBy)) (wr := (wX0 cy qHb Hb_berthsOf u1.2.1 u1.2.2.1 u1.2.2.2.1 u1.2.2.2.2.1 Hb_isGivenUp u1.2.2.2.2.2.1 u1.2.2.2.2.2.2)) C0 hP hD hS [0] [1, 2, 3, 4, 5, 6, 7] [7, 0, 1, 2, 3, 4, 5, 6] rfl rfl (by decide) (by decide) (by decide) (fun _ => rfl) (va_runV (As := [.int u1.1]) (rest := []) ⟨hx, hb, hml, hown, hts⟩ (c_X8_answered l D cy qSC qWe qPa qHo qHb qTa qRe qVo qAg qDr SC_faultPlace SC_refusedBy H.size u1.1 u2 eu2) (cwV 1 hts gX8_slot_X8_answered rfl rfl rfl (by decide +kernel) ⟨Nat.le_of_ble_eq_true rfl, Nat.le_of_ble_eq_true rfl⟩) (pre_V (hP.sub (ws' := (wX8 cy qSC (qWe 0) (qPa 0) (qHo 0) (qHb 0) (qTa 0) (qRe 0) (qVo 0) (qAg 0) (qDr 0) SC_faultPlace SC_refusedBy)) [0] rfl) hK (hD.sub (ws' := (wX8 cy qSC (qWe 0) (qPa 0) (qHo 0) (qHb 0) (qTa 0) (qRe 0) (qVo 0) (qAg 0) (qDr 0) SC_faultPlace SC_refusedBy)) [0] (by decide) rfl) hN 8 0 rfl rfl) rfl rfl hl.1 rfl (lv_room (Nat.le_of_ble_eq_true rfl)) dX8_slot_11 ⟨Nat.zero_le _, Nat.zero_le _⟩) (fun r u H locs hw hP hD hS => ?_)
  obtain ⟨rfl, rfl⟩ := hw
  have hP : va_P D vwCl (wX8 cy qSC (qWe 0) (qPa 0) (qHo 0) (qHb 0) (qTa 0) (qRe 0) (qVo 0) (qAg 0) (qDr 0) SC_faultPlace u2.2 ++ (wX0 cy qHb Hb_berthsOf u1.2.1 u1.2.2.1 u1.2.2.2.1 u1.2.2.2.2.1 Hb_isGivenUp u1.2.2.2.2.2.1 u1.2.2.2.2.2.2)) H := hP
  have hD : va_D A (wX8 cy qSC (qWe 0) (qPa 0) (qHo 0) (qHb 0) (qTa 0) (qRe 0) (qVo 0) (qAg 0) (qDr 0) SC_faultPlace u2.2 ++ (wX0 cy qHb Hb_berthsOf u1.2.1 u1.2.2.1 u1.2.2.2.1 u1.2.2.2.2.1 Hb_isGivenUp u1.2.2.2.2.2.1 u1.2.2.2.2.2.2)) := hD
  exact rq_i C0 (u2.2, u1.2.1, u1.2.2.1, u1.2.2.2.1, u1.2.2.2.2.1, u1.2.2.2.2.2.1, u1.2.2.2.2.2.2) (pr_2 hf) hP hD hS dX8_slot_14

theorem i_X8_of_X8 : ∀ w ∈ wsX80, w ∈ wsX8_of := by decide +kernel
theorem m_X8_of_f33 : Cond.fieldLink RX8 33 "SailCargo" "harbour" "LSailCargo$Harbour;" ∈ wsX8_of := by decide +kernel
set_option maxHeartbeats 4000000 in
set_option maxRecDepth 100000 in
theorem c_X8_of (l : Launch) (D : va_G) (cy : Nat → ClassId) (qSC qHb qWe qPa qHo qTa qRe qVo qAg qDr : Nat → Nat) (SC_faultPlace : Int32) (SC_refusedBy : Int32) (Hb_berthsOf : Nat → Int32) (Hb_port : Nat → Int32) (Hb_berth : Nat → Int32) (Hb_first : Nat → Int32) (Hb_last : Nat → Int32) (Hb_isGivenUp : Nat → Int32) (Hb_told : Int32) (Hb_held : Int32) (sz : Nat) (x1 : Int32) (x2 : Int32) (X : Int32) (hf : f_X8_of Hb_port Hb_berth Hb_first Hb_last Hb_isGivenUp Hb_told x1 x2 = some X) : Met l yX8_of wsX8_of ({ frames := 3, cells := 0, slots := 0, locals := 65 } : Room) (va_Pc [.ref (qSC 0), .int x1, .int x2] (PW D cy (wX8 cy qSC (qWe 0) (qPa 0) (qHo 0) (qHb 0) (qTa 0) (qRe 0) (qVo 0) (qAg 0) (qDr 0) SC_faultPlace SC_refusedBy ++ (wX0 cy qHb Hb_berthsOf Hb_port Hb_berth Hb_first Hb_last Hb_isGivenUp Hb_told Hb_held)) sz)) (va_Qi (fun (r : Int32) (_ : Unit) => r = X) (fun u t => BW D cy (va_A (wX8 cy qSC (qWe 0) (qPa 0) (qHo 0) (qHb 0) (qTa 0) (qRe 0) (qVo 0) (qAg 0) (qDr 0) SC_faultPlace SC_refusedBy ++ (wX0 cy qHb Hb_berthsOf Hb_port Hb_berth Hb_first Hb_last Hb_isGivenUp Hb_told Hb_held)) sz) (wX8 cy qSC (qWe 0) (qPa 0) (qHo 0) (qHb 0) (qTa 0) (qRe 0) (qVo 0) (qAg 0) (qDr 0) SC_faultPlace SC_refusedBy ++ (wX0 cy qHb Hb_berthsOf Hb_port Hb_berth Hb_first Hb_last Hb_isGivenUp Hb_told Hb_held)) t) (va_A (wX8 cy qSC (qWe 0) (qPa 0) (qHo 0) (qHb 0) (qTa 0) (qRe 0) (qVo 0) (qAg 0) (qDr 0) SC_faultPlace SC_refusedBy ++ (wX0 cy qHb Hb_berthsOf Hb_port Hb_berth Hb_first Hb_last Hb_isGivenUp Hb_told Hb_held)) sz)) 0 0 (va_A (wX8 cy qSC (qWe 0) (qPa 0) (qHo 0) (qHb 0) (qTa 0) (qRe 0) (qVo 0) (qAg 0) (qDr 0) SC_faultPlace SC_refusedBy ++ (wX0 cy qHb Hb_berthsOf Hb_port Hb_berth Hb_first Hb_last Hb_isGivenUp Hb_told Hb_held)) sz) := by
  refine met_enter (Qc := fun A => (va_Qi (fun (r : Int32) (_ : Unit) => r = X) (fun u t => BW D cy A (wX8 cy qSC (qWe 0) (qPa 0) (qHo 0) (qHb 0) (qTa 0) (qRe 0) (qVo 0) (qAg 0) (qDr 0) SC_faultPlace SC_refusedBy ++ (wX0 cy qHb Hb_berthsOf Hb_port Hb_berth Hb_first Hb_last Hb_isGivenUp Hb_told Hb_held)) t) A)) (lv0 := [(0, .ref (qSC 0)), (1, .int x1), (2, .int x2)]) (by decide) rfl (Nat.le_of_ble_eq_true rfl) rfl ?_
  intro p e s m below meth c A ls hnm C0 hP hD hS hl
  generalize hH : s.heap = H at hP ⊢
  generalize hLoc : ([] : List Loc) = locs at hS ⊢
  have hS : va_S A s.heap H locs := by rw [← hH]; exact hS
  have C0 : CX cX8_of 3 (some .int) RX8 wsX8_of D cy p s m _ meth c A := C0
  obtain ⟨hx, hb, hr, hml, hown, hts, hK, hA, hN, hlocks⟩ := id C0
  unfold f_X8_of at hf
  refine lv_aload_n hx hb dX8_of_0 rfl (lv_at hl 0 rfl) ?_
  refine va_get (D := D) (ci := 8) (v := .ref (qHb 0)) (C := RX8) (T := TX8) (N := 11) hx hb hts i_X8_of_X8 hown hK hP 0 rfl rfl 3 (by decide) (hts _ m_X8_of_f33) (fun _ h9 => h9) rfl dX8_of_1 ?_
  refine lv_iload_n hx hb dX8_of_4 rfl (lv_at hl 1 rfl) ?_
  refine lv_iload_n hx hb dX8_of_5 rfl (lv_at hl 2 rfl) ?_
  obtain ⟨u1, eu1, hf⟩ := Option.bind_eq_some_iff.mp hf
  refine cq_i (wc' := fun (u : Unit) => (wX0 cy qHb Hb_berthsOf Hb_port Hb_berth Hb_first Hb_last Hb_isGivenUp Hb_told Hb_held)) (ws' := fun (u : Unit) => (wX8 cy qSC (qWe 0) (qPa 0) (qHo 0) (qHb 0) (qTa 0) (qRe 0) (qVo 0) (qAg 0) (qDr 0) SC_faultPlace SC_refusedBy ++ (wX0 cy qHb Hb_berthsOf Hb_port Hb_berth Hb_first Hb_last Hb_isGivenUp Hb_told Hb_held))) (wc := (wX0 cy qHb Hb_berthsOf Hb_port Hb_berth Hb_first Hb_last Hb_isGivenUp Hb_told Hb_held)) (wr := (wX8 cy qSC (qWe 0) (qPa 0) (qHo 0) (qHb 0) (qTa 0) (qRe 0) (qVo 0) (qAg 0) (qDr 0) SC_faultPlace SC_refusedBy)) C0 hP hD hS [1, 2, 3, 4, 5, 6, 7] [0] [0, 1, 2, 3, 4, 5, 6, 7] rfl rfl (by decide) (by decide) (by decide) (fun _ => rfl) (va_runV (As := [.int x1, .int x2]) (rest := []) ⟨hx, hb, hml, hown, hts⟩ (c_X0_tell l D cy qHb Hb_berthsOf Hb_port Hb_berth Hb_first Hb_last Hb_isGivenUp Hb_told Hb_held H.size x1 x2 u1 eu1) (cwV 2 hts gX8_of_X0_tell rfl rfl rfl (by decide +kernel) ⟨Nat.le_of_ble_eq_true rfl, Nat.le_of_ble_eq_true rfl⟩) (pre_V (hP.sub (ws' := (wX0 cy qHb Hb_berthsOf Hb_port Hb_berth Hb_first Hb_last Hb_isGivenUp Hb_told Hb_held)) [1, 2, 3, 4, 5, 6, 7] rfl) hK (hD.sub (ws' := (wX0 cy qHb Hb_berthsOf Hb_port Hb_berth Hb_first Hb_last Hb_isGivenUp Hb_told Hb_held)) [1, 2, 3, 4, 5, 6, 7] (by decide) rfl) hN 0 0 rfl rfl) rfl rfl hl.1 rfl (lv_room (Nat.le_of_ble_eq_true rfl)) dX8_of_6 ⟨Nat.zero_le _, Nat.zero_le _⟩) (fun r u H locs hw hP hD hS => ?_)
  have hw := hw.symm
  subst hw
  have hP : va_P D vwCl (wX8 cy qSC (qWe 0) (qPa 0) (qHo 0) (qHb 0) (qTa 0) (qRe 0) (qVo 0) (qAg 0) (qDr 0) SC_faultPlace SC_refusedBy ++ (wX0 cy qHb Hb_berthsOf Hb_port Hb_berth Hb_first Hb_last Hb_isGivenUp Hb_told Hb_held)) H := hP
  have hD : va_D A (wX8 cy qSC (qWe 0) (qPa 0) (qHo 0) (qHb 0) (qTa 0) (qRe 0) (qVo 0) (qAg 0) (qDr 0) SC_faultPlace SC_refusedBy ++ (wX0 cy qHb Hb_berthsOf Hb_port Hb_berth Hb_first Hb_last Hb_isGivenUp Hb_told Hb_held)) := hD
  exact rq_i C0 () (Option.some.inj hf) hP hD hS dX8_of_9

theorem i_X8_free_X8 : ∀ w ∈ wsX80, w ∈ wsX8_free := by decide +kernel
theorem m_X8_free_f33 : Cond.fieldLink RX8 33 "SailCargo" "harbour" "LSailCargo$Harbour;" ∈ wsX8_free := by decide +kernel
set_option maxHeartbeats 4000000 in
set_option maxRecDepth 100000 in
theorem c_X8_free (l : Launch) (D : va_G) (cy : Nat → ClassId) (qSC qHb qWe qPa qHo qTa qRe qVo qAg qDr : Nat → Nat) (SC_faultPlace : Int32) (SC_refusedBy : Int32) (Hb_berthsOf : Nat → Int32) (Hb_port : Nat → Int32) (Hb_berth : Nat → Int32) (Hb_first : Nat → Int32) (Hb_last : Nat → Int32) (Hb_isGivenUp : Nat → Int32) (Hb_told : Int32) (Hb_held : Int32) (sz : Nat) (x1 : Int32) (X : Int32 × (Int32) × (Nat → Int32) × (Int32)) (hf : f_X8_free SC_refusedBy Hb_isGivenUp Hb_told Hb_held x1 = some X) : Met l yX8_free wsX8_free ({ frames := 3, cells := 0, slots := 0, locals := 64 } : Room) (va_Pc [.ref (qSC 0), .int x1] (PW D cy (wX8 cy qSC (qWe 0) (qPa 0) (qHo 0) (qHb 0) (qTa 0) (qRe 0) (qVo 0) (qAg 0) (qDr 0) SC_faultPlace SC_refusedBy ++ (wX0 cy qHb Hb_berthsOf Hb_port Hb_berth Hb_first Hb_last Hb_isGivenUp Hb_told Hb_held)) sz)) (va_Qi (fun (r : Int32) (u : (Int32) × (Nat → Int32) × (Int32)) => r = X.1 ∧ u = X.2) (fun u t => BW D cy (va_A (wX8 cy qSC (qWe 0) (qPa 0) (qHo 0) (qHb 0) (qTa 0) (qRe 0) (qVo 0) (qAg 0) (qDr 0) SC_faultPlace SC_refusedBy ++ (wX0 cy qHb Hb_berthsOf Hb_port Hb_berth Hb_first Hb_last Hb_isGivenUp Hb_told Hb_held)) sz) (wX8 cy qSC (qWe 0) (qPa 0) (qHo 0) (qHb 0) (qTa 0) (qRe 0) (qVo 0) (qAg 0) (qDr 0) SC_faultPlace u.1 ++ (wX0 cy qHb Hb_berthsOf Hb_port Hb_berth Hb_first Hb_last u.2.1 Hb_told u.2.2)) t) (va_A (wX8 cy qSC (qWe 0) (qPa 0) (qHo 0) (qHb 0) (qTa 0) (qRe 0) (qVo 0) (qAg 0) (qDr 0) SC_faultPlace SC_refusedBy ++ (wX0 cy qHb Hb_berthsOf Hb_port Hb_berth Hb_first Hb_last Hb_isGivenUp Hb_told Hb_held)) sz)) 0 0 (va_A (wX8 cy qSC (qWe 0) (qPa 0) (qHo 0) (qHb 0) (qTa 0) (qRe 0) (qVo 0) (qAg 0) (qDr 0) SC_faultPlace SC_refusedBy ++ (wX0 cy qHb Hb_berthsOf Hb_port Hb_berth Hb_first Hb_last Hb_isGivenUp Hb_told Hb_held)) sz) := by
  refine met_enter (Qc := fun A => (va_Qi (fun (r : Int32) (u : (Int32) × (Nat → Int32) × (Int32)) => r = X.1 ∧ u = X.2) (fun u t => BW D cy A (wX8 cy qSC (qWe 0) (qPa 0) (qHo 0) (qHb 0) (qTa 0) (qRe 0) (qVo 0) (qAg 0) (qDr 0) SC_faultPlace u.1 ++ (wX0 cy qHb Hb_berthsOf Hb_port Hb_berth Hb_first Hb_last u.2.1 Hb_told u.2.2)) t) A)) (lv0 := [(0, .ref (qSC 0)), (1, .int x1)]) (by decide) rfl (Nat.le_of_ble_eq_true rfl) rfl ?_
  intro p e s m below meth c A ls hnm C0 hP hD hS hl
  generalize hH : s.heap = H at hP ⊢
  generalize hLoc : ([] : List Loc) = locs at hS ⊢
  have hS : va_S A s.heap H locs := by rw [← hH]; exact hS
  have C0 : CX cX8_free 2 (some .int) RX8 wsX8_free D cy p s m _ meth c A := C0
  obtain ⟨hx, hb, hr, hml, hown, hts, hK, hA, hN, hlocks⟩ := id C0
  unfold f_X8_free at hf
  refine lv_aload_n hx hb dX8_free_0 rfl (lv_at hl 0 rfl) ?_
  refine lv_aload_n hx hb dX8_free_1 rfl (lv_at hl 0 rfl) ?_
  refine va_get (D := D) (ci := 8) (v := .ref (qHb 0)) (C := RX8) (T := TX8) (N := 11) hx hb hts i_X8_free_X8 hown hK hP 0 rfl rfl 3 (by decide) (hts _ m_X8_free_f33) (fun _ h9 => h9) rfl dX8_free_2 ?_
  refine lv_iload_n hx hb dX8_free_5 rfl (lv_at hl 1 rfl) ?_
  obtain ⟨u1, eu1, hf⟩ := Option.bind_eq_some_iff.mp hf
  refine cq_i (wc' := fun (u : (Nat → Int32) × (Int32)) => (wX0 cy qHb Hb_berthsOf Hb_port Hb_berth Hb_first Hb_last u.1 Hb_told u.2)) (ws' := fun (u : (Nat → Int32) × (Int32)) => (wX8 cy qSC (qWe 0) (qPa 0) (qHo 0) (qHb 0) (qTa 0) (qRe 0) (qVo 0) (qAg 0) (qDr 0) SC_faultPlace SC_refusedBy ++ (wX0 cy qHb Hb_berthsOf Hb_port Hb_berth Hb_first Hb_last u.1 Hb_told u.2))) (wc := (wX0 cy qHb Hb_berthsOf Hb_port Hb_berth Hb_first Hb_last Hb_isGivenUp Hb_told Hb_held)) (wr := (wX8 cy qSC (qWe 0) (qPa 0) (qHo 0) (qHb 0) (qTa 0) (qRe 0) (qVo 0) (qAg 0) (qDr 0) SC_faultPlace SC_refusedBy)) C0 hP hD hS [1, 2, 3, 4, 5, 6, 7] [0] [0, 1, 2, 3, 4, 5, 6, 7] rfl rfl (by decide) (by decide) (by decide) (fun _ => rfl) (va_runV (As := [.int x1]) (rest := [.ref (qSC 0)]) ⟨hx, hb, hml, hown, hts⟩ (c_X0_giveUp l D cy qHb Hb_berthsOf Hb_port Hb_berth Hb_first Hb_last Hb_isGivenUp Hb_told Hb_held H.size x1 u1 eu1) (cwV 1 hts gX8_free_X0_giveUp rfl rfl rfl (by decide +kernel) ⟨Nat.le_of_ble_eq_true rfl, Nat.le_of_ble_eq_true rfl⟩) (pre_V (hP.sub (ws' := (wX0 cy qHb Hb_berthsOf Hb_port Hb_berth Hb_first Hb_last Hb_isGivenUp Hb_told Hb_held)) [1, 2, 3, 4, 5, 6, 7] rfl) hK (hD.sub (ws' := (wX0 cy qHb Hb_berthsOf Hb_port Hb_berth Hb_first Hb_last Hb_isGivenUp Hb_told Hb_held)) [1, 2, 3, 4, 5, 6, 7] (by decide) rfl) hN 0 0 rfl rfl) rfl rfl hl.1 rfl (lv_room (Nat.le_of_ble_eq_true rfl)) dX8_free_6 ⟨Nat.zero_le _, Nat.zero_le _⟩) (fun r u H locs hw hP hD hS => ?_)
  obtain ⟨rfl, rfl⟩ := hw
  have hP : va_P D vwCl (wX8 cy qSC (qWe 0) (qPa 0) (qHo 0) (qHb 0) (qTa 0) (qRe 0) (qVo 0) (qAg 0) (qDr 0) SC_faultPlace SC_refusedBy ++ (wX0 cy qHb Hb_berthsOf Hb_port Hb_berth Hb_first Hb_last u1.2.1 Hb_told u1.2.2)) H := hP
  have hD : va_D A (wX8 cy qSC (qWe 0) (qPa 0) (qHo 0) (qHb 0) (qTa 0) (qRe 0) (qVo 0) (qAg 0) (qDr 0) SC_faultPlace SC_refusedBy ++ (wX0 cy qHb Hb_berthsOf Hb_port Hb_berth Hb_first Hb_last u1.2.1 Hb_told u1.2.2)) := hD
  obtain ⟨u2, eu2, hf⟩ := Option.bind_eq_some_iff.mp hf
  refine cq_i (wc' := fun (u : (Int32)) => (wX8 cy qSC (qWe 0) (qPa 0) (qHo 0) (qHb 0) (qTa 0) (qRe 0) (qVo 0) (qAg 0) (qDr 0) SC_faultPlace u)) (ws' := fun (u : (Int32)) => (wX8 cy qSC (qWe 0) (qPa 0) (qHo 0) (qHb 0) (qTa 0) (qRe 0) (qVo 0) (qAg 0) (qDr 0) SC_faultPlace u ++ (wX0 cy qHb Hb_berthsOf Hb_port Hb_berth Hb_first Hb_last u1.2.1 Hb_told u1.2.2))) (wc := (wX8 cy qSC (qWe 0) (qPa 0) (qHo 0) (qHb 0) (qTa 0) (qRe 0) (qVo 0) (qAg 0) (qDr 0) SC_faultPlace SC_refusedBy)) (wr := (wX0 cy qHb Hb_berthsOf Hb_port Hb_berth Hb_first Hb_last u1.2.1 Hb_told u1.2.2)) C0 hP hD hS [0] [1, 2, 3, 4, 5, 6, 7] [7, 0, 1, 2, 3, 4, 5, 6] rfl rfl (by decide) (by decide) (by decide) (fun _ => rfl) (va_runV (As := [.int u1.1]) (rest := []) ⟨hx, hb, hml, hown, hts⟩ (c_X8_answered l D cy qSC qWe qPa qHo qHb qTa qRe qVo qAg qDr SC_faultPlace SC_refusedBy H.size u1.1 u2 eu2) (cwV 1 hts gX8_free_X8_answered rfl rfl rfl (by decide +kernel) ⟨Nat.le_of_ble_eq_true rfl, Nat.le_of_ble_eq_true rfl⟩) (pre_V (hP.sub (ws' := (wX8 cy qSC (qWe 0) (qPa 0) (qHo 0) (qHb 0) (qTa 0) (qRe 0) (qVo 0) (qAg 0) (qDr 0) SC_faultPlace SC_refusedBy)) [0] rfl) hK (hD.sub (ws' := (wX8 cy qSC (qWe 0) (qPa 0) (qHo 0) (qHb 0) (qTa 0) (qRe 0) (qVo 0) (qAg 0) (qDr 0) SC_faultPlace SC_refusedBy)) [0] (by decide) rfl) hN 8 0 rfl rfl) rfl rfl hl.1 rfl (lv_room (Nat.le_of_ble_eq_true rfl)) dX8_free_9 ⟨Nat.zero_le _, Nat.zero_le _⟩) (fun r u H locs hw hP hD hS => ?_)
  obtain ⟨rfl, rfl⟩ := hw
  have hP : va_P D vwCl (wX8 cy qSC (qWe 0) (qPa 0) (qHo 0) (qHb 0) (qTa 0) (qRe 0) (qVo 0) (qAg 0) (qDr 0) SC_faultPlace u2.2 ++ (wX0 cy qHb Hb_berthsOf Hb_port Hb_berth Hb_first Hb_last u1.2.1 Hb_told u1.2.2)) H := hP
  have hD : va_D A (wX8 cy qSC (qWe 0) (qPa 0) (qHo 0) (qHb 0) (qTa 0) (qRe 0) (qVo 0) (qAg 0) (qDr 0) SC_faultPlace u2.2 ++ (wX0 cy qHb Hb_berthsOf Hb_port Hb_berth Hb_first Hb_last u1.2.1 Hb_told u1.2.2)) := hD
  exact rq_i C0 (u2.2, u1.2.1, u1.2.2) (pr_2 hf) hP hD hS dX8_free_12

theorem i_X8_feed_X8 : ∀ w ∈ wsX80, w ∈ wsX8_feed := by decide +kernel
theorem m_X8_feed_f40 : Cond.fieldLink RX8 40 "SailCargo" "tape" "LSailCargo$Tape;" ∈ wsX8_feed := by decide +kernel
theorem i_X8_feed_X4 : ∀ w ∈ wsX40, w ∈ wsX8_feed := by decide +kernel
set_option maxHeartbeats 4000000 in
set_option maxRecDepth 100000 in
theorem c_X8_feed (l : Launch) (D : va_G) (cy : Nat → ClassId) (qSC qTa qWe qPa qHo qHb qRe qVo qAg qDr : Nat → Nat) (SC_faultPlace : Int32) (SC_refusedBy : Int32) (Ta_bytes : Nat → Int32) (Ta_length : Int32) (sz : Nat) (x1 : Int32) (x2 : Int32) (x3 : Int32) (x4 : Int32) (x5 : Int32) (X : Int32 × (Nat → Int32) × (Int32)) (hf : f_X8_feed Ta_bytes Ta_length x1 x2 x3 x4 x5 = some X) : Met l yX8_feed wsX8_feed ({ frames := 1, cells := 0, slots := 0, locals := 22 } : Room) (va_Pc [.ref (qSC 0), .int x1, .int x2, .int x3, .int x4, .int x5] (PW D cy (wX8 cy qSC (qWe 0) (qPa 0) (qHo 0) (qHb 0) (qTa 0) (qRe 0) (qVo 0) (qAg 0) (qDr 0) SC_faultPlace SC_refusedBy ++ (wX4 cy qTa Ta_bytes Ta_length)) sz)) (va_Qi (fun (r : Int32) (u : (Nat → Int32) × (Int32)) => r = X.1 ∧ u = X.2) (fun u t => BW D cy (va_A (wX8 cy qSC (qWe 0) (qPa 0) (qHo 0) (qHb 0) (qTa 0) (qRe 0) (qVo 0) (qAg 0) (qDr 0) SC_faultPlace SC_refusedBy ++ (wX4 cy qTa Ta_bytes Ta_length)) sz) (wX8 cy qSC (qWe 0) (qPa 0) (qHo 0) (qHb 0) (qTa 0) (qRe 0) (qVo 0) (qAg 0) (qDr 0) SC_faultPlace SC_refusedBy ++ (wX4 cy qTa u.1 u.2)) t) (va_A (wX8 cy qSC (qWe 0) (qPa 0) (qHo 0) (qHb 0) (qTa 0) (qRe 0) (qVo 0) (qAg 0) (qDr 0) SC_faultPlace SC_refusedBy ++ (wX4 cy qTa Ta_bytes Ta_length)) sz)) 0 0 (va_A (wX8 cy qSC (qWe 0) (qPa 0) (qHo 0) (qHb 0) (qTa 0) (qRe 0) (qVo 0) (qAg 0) (qDr 0) SC_faultPlace SC_refusedBy ++ (wX4 cy qTa Ta_bytes Ta_length)) sz) := by
  refine met_enter (Qc := fun A => (va_Qi (fun (r : Int32) (u : (Nat → Int32) × (Int32)) => r = X.1 ∧ u = X.2) (fun u t => BW D cy A (wX8 cy qSC (qWe 0) (qPa 0) (qHo 0) (qHb 0) (qTa 0) (qRe 0) (qVo 0) (qAg 0) (qDr 0) SC_faultPlace SC_refusedBy ++ (wX4 cy qTa u.1 u.2)) t) A)) (lv0 := [(0, .ref (qSC 0)), (1, .int x1), (2, .int x2), (3, .int x3), (4, .int x4), (5, .int x5)]) (by decide) rfl (Nat.le_of_ble_eq_true rfl) rfl ?_
  intro p e s m below meth c A ls hnm C0 hP hD hS hl
  generalize hH : s.heap = H at hP ⊢
  generalize hLoc : ([] : List Loc) = locs at hS ⊢
  have hS : va_S A s.heap H locs := by rw [← hH]; exact hS
  have C0 : CX cX8_feed 6 (some .int) RX8 wsX8_feed D cy p s m _ meth c A := C0
  obtain ⟨hx, hb, hr, hml, hown, hts, hK, hA, hN, hlocks⟩ := id C0
  unfold f_X8_feed at hf
  refine lv_aload_n hx hb dX8_feed_0 rfl (lv_at hl 0 rfl) ?_
  refine va_get (D := D) (ci := 8) (v := .ref (qTa 0)) (C := RX8) (T := TX8) (N := 11) hx hb hts i_X8_feed_X8 hown hK hP 0 rfl rfl 4 (by decide) (hts _ m_X8_feed_f40) (fun _ h9 => h9) rfl dX8_feed_1 ?_
  obtain ⟨u1, eu1, hf⟩ := Option.bind_eq_some_iff.mp hf
  refine cq_i (wc' := fun (u : Unit) => (wX4 cy qTa Ta_bytes Ta_length)) (ws' := fun (u : Unit) => (wX8 cy qSC (qWe 0) (qPa 0) (qHo 0) (qHb 0) (qTa 0) (qRe 0) (qVo 0) (qAg 0) (qDr 0) SC_faultPlace SC_refusedBy ++ (wX4 cy qTa Ta_bytes Ta_length))) (wc := (wX4 cy qTa Ta_bytes Ta_length)) (wr := (wX8 cy qSC (qWe 0) (qPa 0) (qHo 0) (qHb 0) (qTa 0) (qRe 0) (qVo 0) (qAg 0) (qDr 0) SC_faultPlace SC_refusedBy)) C0 hP hD hS [1, 2] [0] [0, 1, 2] rfl rfl (by decide) (by decide) (by decide) (fun _ => rfl) (va_runV (As := []) (rest := []) ⟨hx, hb, hml, hown, hts⟩ (c_X4_hasRoom l D cy qTa Ta_bytes Ta_length H.size  u1 eu1) (cwV 0 hts gX8_feed_X4_hasRoom rfl rfl rfl (by decide +kernel) ⟨Nat.le_of_ble_eq_true rfl, Nat.le_of_ble_eq_true rfl⟩) (pre_V (hP.sub (ws' := (wX4 cy qTa Ta_bytes Ta_length)) [1, 2] rfl) hK (hD.sub (ws' := (wX4 cy qTa Ta_bytes Ta_length)) [1, 2] (by decide) rfl) hN 4 0 rfl rfl) rfl rfl hl.1 rfl (lv_room (Nat.le_of_ble_eq_true rfl)) dX8_feed_4 ⟨Nat.zero_le _, Nat.zero_le _⟩) (fun r u H locs hw hP hD hS => ?_)
  have hw := hw.symm
  subst hw
  have hP : va_P D vwCl (wX8 cy qSC (qWe 0) (qPa 0) (qHo 0) (qHb 0) (qTa 0) (qRe 0) (qVo 0) (qAg 0) (qDr 0) SC_faultPlace SC_refusedBy ++ (wX4 cy qTa Ta_bytes Ta_length)) H := hP
  have hD : va_D A (wX8 cy qSC (qWe 0) (qPa 0) (qHo 0) (qHb 0) (qTa 0) (qRe 0) (qVo 0) (qAg 0) (qDr 0) SC_faultPlace SC_refusedBy ++ (wX4 cy qTa Ta_bytes Ta_length)) := hD
  refine lv_if_ne (tgt := 12) hx hb dX8_feed_7 (by decide) (fun hc2 => ?_) (fun hc2 => ?_)
  · have hf := iff_ hf hc2
    refine lv_aload_n hx hb dX8_feed_12 rfl (lv_at hl 0 rfl) ?_
    refine va_get (D := D) (ci := 8) (v := .ref (qTa 0)) (C := RX8) (T := TX8) (N := 11) hx hb hts i_X8_feed_X8 hown hK hP 0 rfl rfl 4 (by decide) (hts _ m_X8_feed_f40) (fun _ h9 => h9) rfl dX8_feed_13 ?_
    refine lv_iload_n hx hb dX8_feed_16 rfl (lv_at hl 1 rfl) ?_
    obtain ⟨u3, eu3, hf⟩ := Option.bind_eq_some_iff.mp hf
    refine cq_v (wc' := fun (u : (Nat → Int32) × (Int32)) => (wX4 cy qTa u.1 u.2)) (ws' := fun (u : (Nat → Int32) × (Int32)) => (wX8 cy qSC (qWe 0) (qPa 0) (qHo 0) (qHb 0) (qTa 0) (qRe 0) (qVo 0) (qAg 0) (qDr 0) SC_faultPlace SC_refusedBy ++ (wX4 cy qTa u.1 u.2))) (wc := (wX4 cy qTa Ta_bytes Ta_length)) (wr := (wX8 cy qSC (qWe 0) (qPa 0) (qHo 0) (qHb 0) (qTa 0) (qRe 0) (qVo 0) (qAg 0) (qDr 0) SC_faultPlace SC_refusedBy)) C0 hP hD hS [1, 2] [0] [0, 1, 2] rfl rfl (by decide) (by decide) (by decide) (fun _ => rfl) (va_runV (As := [.int x1]) (rest := []) ⟨hx, hb, hml, hown, hts⟩ (c_X4_add l D cy qTa Ta_bytes Ta_length H.size x1 u3 eu3) (cwV 1 hts gX8_feed_X4_add rfl rfl rfl (by decide +kernel) ⟨Nat.le_of_ble_eq_true rfl, Nat.le_of_ble_eq_true rfl⟩) (pre_V (hP.sub (ws' := (wX4 cy qTa Ta_bytes Ta_length)) [1, 2] rfl) hK (hD.sub (ws' := (wX4 cy qTa Ta_bytes Ta_length)) [1, 2] (by decide) rfl) hN 4 0 rfl rfl) rfl rfl hl.1 rfl (lv_room (Nat.le_of_ble_eq_true rfl)) dX8_feed_17 ⟨Nat.zero_le _, Nat.zero_le _⟩) (fun u H locs hw hP hD hS => ?_)
    have hw := hw.symm
    subst hw
    have hP : va_P D vwCl (wX8 cy qSC (qWe 0) (qPa 0) (qHo 0) (qHb 0) (qTa 0) (qRe 0) (qVo 0) (qAg 0) (qDr 0) SC_faultPlace SC_refusedBy ++ (wX4 cy qTa u3.1 u3.2)) H := hP
    have hD : va_D A (wX8 cy qSC (qWe 0) (qPa 0) (qHo 0) (qHb 0) (qTa 0) (qRe 0) (qVo 0) (qAg 0) (qDr 0) SC_faultPlace SC_refusedBy ++ (wX4 cy qTa u3.1 u3.2)) := hD
    refine lv_aload_n hx hb dX8_feed_20 rfl (lv_at hl 0 rfl) ?_
    refine va_get (D := D) (ci := 8) (v := .ref (qTa 0)) (C := RX8) (T := TX8) (N := 11) hx hb hts i_X8_feed_X8 hown hK hP 0 rfl rfl 4 (by decide) (hts _ m_X8_feed_f40) (fun _ h9 => h9) rfl dX8_feed_21 ?_
    refine lv_iload_n hx hb dX8_feed_24 rfl (lv_at hl 2 rfl) ?_
    obtain ⟨u4, eu4, hf⟩ := Option.bind_eq_some_iff.mp hf
    refine cq_v (wc' := fun (u : (Nat → Int32) × (Int32)) => (wX4 cy qTa u.1 u.2)) (ws' := fun (u : (Nat → Int32) × (Int32)) => (wX8 cy qSC (qWe 0) (qPa 0) (qHo 0) (qHb 0) (qTa 0) (qRe 0) (qVo 0) (qAg 0) (qDr 0) SC_faultPlace SC_refusedBy ++ (wX4 cy qTa u.1 u.2))) (wc := (wX4 cy qTa u3.1 u3.2)) (wr := (wX8 cy qSC (qWe 0) (qPa 0) (qHo 0) (qHb 0) (qTa 0) (qRe 0) (qVo 0) (qAg 0) (qDr 0) SC_faultPlace SC_refusedBy)) C0 hP hD hS [1, 2] [0] [0, 1, 2] rfl rfl (by decide) (by decide) (by decide) (fun _ => rfl) (va_runV (As := [.int x2]) (rest := []) ⟨hx, hb, hml, hown, hts⟩ (c_X4_add l D cy qTa u3.1 u3.2 H.size x2 u4 eu4) (cwV 1 hts gX8_feed_X4_add rfl rfl rfl (by decide +kernel) ⟨Nat.le_of_ble_eq_true rfl, Nat.le_of_ble_eq_true rfl⟩) (pre_V (hP.sub (ws' := (wX4 cy qTa u3.1 u3.2)) [1, 2] rfl) hK (hD.sub (ws' := (wX4 cy qTa u3.1 u3.2)) [1, 2] (by decide) rfl) hN 4 0 rfl rfl) rfl rfl hl.1 rfl (lv_room (Nat.le_of_ble_eq_true rfl)) dX8_feed_25 ⟨Nat.zero_le _, Nat.zero_le _⟩) (fun u H locs hw hP hD hS => ?_)
    have hw := hw.symm
    subst hw
    have hP : va_P D vwCl (wX8 cy qSC (qWe 0) (qPa 0) (qHo 0) (qHb 0) (qTa 0) (qRe 0) (qVo 0) (qAg 0) (qDr 0) SC_faultPlace SC_refusedBy ++ (wX4 cy qTa u4.1 u4.2)) H := hP
    have hD : va_D A (wX8 cy qSC (qWe 0) (qPa 0) (qHo 0) (qHb 0) (qTa 0) (qRe 0) (qVo 0) (qAg 0) (qDr 0) SC_faultPlace SC_refusedBy ++ (wX4 cy qTa u4.1 u4.2)) := hD
    refine lv_aload_n hx hb dX8_feed_28 rfl (lv_at hl 0 rfl) ?_
    refine va_get (D := D) (ci := 8) (v := .ref (qTa 0)) (C := RX8) (T := TX8) (N := 11) hx hb hts i_X8_feed_X8 hown hK hP 0 rfl rfl 4 (by decide) (hts _ m_X8_feed_f40) (fun _ h9 => h9) rfl dX8_feed_29 ?_
    refine lv_iload_n hx hb dX8_feed_32 rfl (lv_at hl 3 rfl) ?_
    obtain ⟨u5, eu5, hf⟩ := Option.bind_eq_some_iff.mp hf
    refine cq_v (wc' := fun (u : (Nat → Int32) × (Int32)) => (wX4 cy qTa u.1 u.2)) (ws' := fun (u : (Nat → Int32) × (Int32)) => (wX8 cy qSC (qWe 0) (qPa 0) (qHo 0) (qHb 0) (qTa 0) (qRe 0) (qVo 0) (qAg 0) (qDr 0) SC_faultPlace SC_refusedBy ++ (wX4 cy qTa u.1 u.2))) (wc := (wX4 cy qTa u4.1 u4.2)) (wr := (wX8 cy qSC (qWe 0) (qPa 0) (qHo 0) (qHb 0) (qTa 0) (qRe 0) (qVo 0) (qAg 0) (qDr 0) SC_faultPlace SC_refusedBy)) C0 hP hD hS [1, 2] [0] [0, 1, 2] rfl rfl (by decide) (by decide) (by decide) (fun _ => rfl) (va_runV (As := [.int x3]) (rest := []) ⟨hx, hb, hml, hown, hts⟩ (c_X4_add l D cy qTa u4.1 u4.2 H.size x3 u5 eu5) (cwV 1 hts gX8_feed_X4_add rfl rfl rfl (by decide +kernel) ⟨Nat.le_of_ble_eq_true rfl, Nat.le_of_ble_eq_true rfl⟩) (pre_V (hP.sub (ws' := (wX4 cy qTa u4.1 u4.2)) [1, 2] rfl) hK (hD.sub (ws' := (wX4 cy qTa u4.1 u4.2)) [1, 2] (by decide) rfl) hN 4 0 rfl rfl) rfl rfl hl.1 rfl (lv_room (Nat.le_of_ble_eq_true rfl)) dX8_feed_33 ⟨Nat.zero_le _, Nat.zero_le _⟩) (fun u H locs hw hP hD hS => ?_)
    have hw := hw.symm
    subst hw
    have hP : va_P D vwCl (wX8 cy qSC (qWe 0) (qPa 0) (qHo 0) (qHb 0) (qTa 0) (qRe 0) (qVo 0) (qAg 0) (qDr 0) SC_faultPlace SC_refusedBy ++ (wX4 cy qTa u5.1 u5.2)) H := hP
    have hD : va_D A (wX8 cy qSC (qWe 0) (qPa 0) (qHo 0) (qHb 0) (qTa 0) (qRe 0) (qVo 0) (qAg 0) (qDr 0) SC_faultPlace SC_refusedBy ++ (wX4 cy qTa u5.1 u5.2)) := hD
    refine lv_aload_n hx hb dX8_feed_36 rfl (lv_at hl 0 rfl) ?_
    refine va_get (D := D) (ci := 8) (v := .ref (qTa 0)) (C := RX8) (T := TX8) (N := 11) hx hb hts i_X8_feed_X8 hown hK hP 0 rfl rfl 4 (by decide) (hts _ m_X8_feed_f40) (fun _ h9 => h9) rfl dX8_feed_37 ?_
    refine lv_iload hx hb dX8_feed_40 (lv_at hl 4 rfl) ?_
    obtain ⟨u6, eu6, hf⟩ := Option.bind_eq_some_iff.mp hf
    refine cq_v (wc' := fun (u : (Nat → Int32) × (Int32)) => (wX4 cy qTa u.1 u.2)) (ws' := fun (u : (Nat → Int32) × (Int32)) => (wX8 cy qSC (qWe 0) (qPa 0) (qHo 0) (qHb 0) (qTa 0) (qRe 0) (qVo 0) (qAg 0) (qDr 0) SC_faultPlace SC_refusedBy ++ (wX4 cy qTa u.1 u.2))) (wc := (wX4 cy qTa u5.1 u5.2)) (wr := (wX8 cy qSC (qWe 0) (qPa 0) (qHo 0) (qHb 0) (qTa 0) (qRe 0) (qVo 0) (qAg 0) (qDr 0) SC_faultPlace SC_refusedBy)) C0 hP hD hS [1, 2] [0] [0, 1, 2] rfl rfl (by decide) (by decide) (by decide) (fun _ => rfl) (va_runV (As := [.int x4]) (rest := []) ⟨hx, hb, hml, hown, hts⟩ (c_X4_add l D cy qTa u5.1 u5.2 H.size x4 u6 eu6) (cwV 1 hts gX8_feed_X4_add rfl rfl rfl (by decide +kernel) ⟨Nat.le_of_ble_eq_true rfl, Nat.le_of_ble_eq_true rfl⟩) (pre_V (hP.sub (ws' := (wX4 cy qTa u5.1 u5.2)) [1, 2] rfl) hK (hD.sub (ws' := (wX4 cy qTa u5.1 u5.2)) [1, 2] (by decide) rfl) hN 4 0 rfl rfl) rfl rfl hl.1 rfl (lv_room (Nat.le_of_ble_eq_true rfl)) dX8_feed_42 ⟨Nat.zero_le _, Nat.zero_le _⟩) (fun u H locs hw hP hD hS => ?_)
    have hw := hw.symm
    subst hw
    have hP : va_P D vwCl (wX8 cy qSC (qWe 0) (qPa 0) (qHo 0) (qHb 0) (qTa 0) (qRe 0) (qVo 0) (qAg 0) (qDr 0) SC_faultPlace SC_refusedBy ++ (wX4 cy qTa u6.1 u6.2)) H := hP
    have hD : va_D A (wX8 cy qSC (qWe 0) (qPa 0) (qHo 0) (qHb 0) (qTa 0) (qRe 0) (qVo 0) (qAg 0) (qDr 0) SC_faultPlace SC_refusedBy ++ (wX4 cy qTa u6.1 u6.2)) := hD
    refine lv_aload_n hx hb dX8_feed_45 rfl (lv_at hl 0 rfl) ?_
    refine va_get (D := D) (ci := 8) (v := .ref (qTa 0)) (C := RX8) (T := TX8) (N := 11) hx hb hts i_X8_feed_X8 hown hK hP 0 rfl rfl 4 (by decide) (hts _ m_X8_feed_f40) (fun _ h9 => h9) rfl dX8_feed_46 ?_
    refine lv_iload hx hb dX8_feed_49 (lv_at hl 5 rfl) ?_
    obtain ⟨u7, eu7, hf⟩ := Option.bind_eq_some_iff.mp hf
    refine cq_v (wc' := fun (u : (Nat → Int32) × (Int32)) => (wX4 cy qTa u.1 u.2)) (ws' := fun (u : (Nat → Int32) × (Int32)) => (wX8 cy qSC (qWe 0) (qPa 0) (qHo 0) (qHb 0) (qTa 0) (qRe 0) (qVo 0) (qAg 0) (qDr 0) SC_faultPlace SC_refusedBy ++ (wX4 cy qTa u.1 u.2))) (wc := (wX4 cy qTa u6.1 u6.2)) (wr := (wX8 cy qSC (qWe 0) (qPa 0) (qHo 0) (qHb 0) (qTa 0) (qRe 0) (qVo 0) (qAg 0) (qDr 0) SC_faultPlace SC_refusedBy)) C0 hP hD hS [1, 2] [0] [0, 1, 2] rfl rfl (by decide) (by decide) (by decide) (fun _ => rfl) (va_runV (As := [.int x5]) (rest := []) ⟨hx, hb, hml, hown, hts⟩ (c_X4_add l D cy qTa u6.1 u6.2 H.size x5 u7 eu7) (cwV 1 hts gX8_feed_X4_add rfl rfl rfl (by decide +kernel) ⟨Nat.le_of_ble_eq_true rfl, Nat.le_of_ble_eq_true rfl⟩) (pre_V (hP.sub (ws' := (wX4 cy qTa u6.1 u6.2)) [1, 2] rfl) hK (hD.sub (ws' := (wX4 cy qTa u6.1 u6.2)) [1, 2] (by decide) rfl) hN 4 0 rfl rfl) rfl rfl hl.1 rfl (lv_room (Nat.le_of_ble_eq_true rfl)) dX8_feed_51 ⟨Nat.zero_le _, Nat.zero_le _⟩) (fun u H locs hw hP hD hS => ?_)
    have hw := hw.symm
    subst hw
    have hP : va_P D vwCl (wX8 cy qSC (qWe 0) (qPa 0) (qHo 0) (qHb 0) (qTa 0) (qRe 0) (qVo 0) (qAg 0) (qDr 0) SC_faultPlace SC_refusedBy ++ (wX4 cy qTa u7.1 u7.2)) H := hP
    have hD : va_D A (wX8 cy qSC (qWe 0) (qPa 0) (qHo 0) (qHb 0) (qTa 0) (qRe 0) (qVo 0) (qAg 0) (qDr 0) SC_faultPlace SC_refusedBy ++ (wX4 cy qTa u7.1 u7.2)) := hD
    refine lv_aload_n hx hb dX8_feed_54 rfl (lv_at hl 0 rfl) ?_
    refine va_get (D := D) (ci := 8) (v := .ref (qTa 0)) (C := RX8) (T := TX8) (N := 11) hx hb hts i_X8_feed_X8 hown hK hP 0 rfl rfl 4 (by decide) (hts _ m_X8_feed_f40) (fun _ h9 => h9) rfl dX8_feed_55 ?_
    refine va_getN (D := D) (ci := 4) (v := .int u7.2) (C := RX4) (T := TX4) (N := 2) hx hb hts i_X8_feed_X4 hown hK hP 1 rfl rfl 1 (by decide) (va_Nw.use rfl (hN _ nw_X8_173)) (fun _ h9 => h9) rfl dX8_feed_58 ?_
    exact rq_i C0 (u7.1, u7.2) (pr_2 hf) hP hD hS dX8_feed_61
  · have hf := ift hf hc2
    refine lv_iconst (v := (-1 : Int32)) hx hb dX8_feed_10 (by decide) ?_
    exact rq_i C0 (Ta_bytes, Ta_length) (pr_2 hf) hP hD hS dX8_feed_11

theorem i_X8_end_X8 : ∀ w ∈ wsX80, w ∈ wsX8_end := by decide +kernel
theorem m_X8_end_f40 : Cond.fieldLink RX8 40 "SailCargo" "tape" "LSailCargo$Tape;" ∈ wsX8_end := by decide +kernel
theorem i_X8_end_X4 : ∀ w ∈ wsX40, w ∈ wsX8_end := by decide +kernel
set_option maxHeartbeats 4000000 in
set_option maxRecDepth 100000 in
theorem c_X8_end (l : Launch) (D : va_G) (cy : Nat → ClassId) (qSC qTa qWe qPa qHo qHb qRe qVo qAg qDr : Nat → Nat) (SC_faultPlace : Int32) (SC_refusedBy : Int32) (Ta_bytes : Nat → Int32) (Ta_length : Int32) (sz : Nat) (x1 : Int32) (X : Int32 × (Int32)) (hf : f_X8_end Ta_length x1 = some X) : Met l yX8_end wsX8_end ({ frames := 1, cells := 0, slots := 0, locals := 22 } : Room) (va_Pc [.ref (qSC 0), .int x1] (PW D cy (wX8 cy qSC (qWe 0) (qPa 0) (qHo 0) (qHb 0) (qTa 0) (qRe 0) (qVo 0) (qAg 0) (qDr 0) SC_faultPlace SC_refusedBy ++ (wX4 cy qTa Ta_bytes Ta_length)) sz)) (va_Qi (fun (r : Int32) (u : (Int32)) => r = X.1 ∧ u = X.2) (fun u t => BW D cy (va_A (wX8 cy qSC (qWe 0) (qPa 0) (qHo 0) (qHb 0) (qTa 0) (qRe 0) (qVo 0) (qAg 0) (qDr 0) SC_faultPlace SC_refusedBy ++ (wX4 cy qTa Ta_bytes Ta_length)) sz) (wX8 cy qSC (qWe 0) (qPa 0) (qHo 0) (qHb 0) (qTa 0) (qRe 0) (qVo 0) (qAg 0) (qDr 0) SC_faultPlace SC_refusedBy ++ (wX4 cy qTa Ta_bytes u)) t) (va_A (wX8 cy qSC (qWe 0) (qPa 0) (qHo 0) (qHb 0) (qTa 0) (qRe 0) (qVo 0) (qAg 0) (qDr 0) SC_faultPlace SC_refusedBy ++ (wX4 cy qTa Ta_bytes Ta_length)) sz)) 0 0 (va_A (wX8 cy qSC (qWe 0) (qPa 0) (qHo 0) (qHb 0) (qTa 0) (qRe 0) (qVo 0) (qAg 0) (qDr 0) SC_faultPlace SC_refusedBy ++ (wX4 cy qTa Ta_bytes Ta_length)) sz) := by
  refine met_enter (Qc := fun A => (va_Qi (fun (r : Int32) (u : (Int32)) => r = X.1 ∧ u = X.2) (fun u t => BW D cy A (wX8 cy qSC (qWe 0) (qPa 0) (qHo 0) (qHb 0) (qTa 0) (qRe 0) (qVo 0) (qAg 0) (qDr 0) SC_faultPlace SC_refusedBy ++ (wX4 cy qTa Ta_bytes u)) t) A)) (lv0 := [(0, .ref (qSC 0)), (1, .int x1)]) (by decide) rfl (Nat.le_of_ble_eq_true rfl) rfl ?_
  intro p e s m below meth c A ls hnm C0 hP hD hS hl
  generalize hH : s.heap = H at hP ⊢
  generalize hLoc : ([] : List Loc) = locs at hS ⊢
  have hS : va_S A s.heap H locs := by rw [← hH]; exact hS
  have C0 : CX cX8_end 2 (some .int) RX8 wsX8_end D cy p s m _ meth c A := C0
  obtain ⟨hx, hb, hr, hml, hown, hts, hK, hA, hN, hlocks⟩ := id C0
  unfold f_X8_end at hf
  refine lv_iload_n hx hb dX8_end_0 rfl (lv_at hl 1 rfl) ?_
  refine lv_iconst (v := (0 : Int32)) hx hb dX8_end_1 (by decide) ?_
  refine lv_aload_n hx hb dX8_end_2 rfl (lv_at hl 0 rfl) ?_
  refine va_get (D := D) (ci := 8) (v := .ref (qTa 0)) (C := RX8) (T := TX8) (N := 11) hx hb hts i_X8_end_X8 hown hK hP 0 rfl rfl 4 (by decide) (hts _ m_X8_end_f40) (fun _ h9 => h9) rfl dX8_end_3 ?_
  refine va_getN (D := D) (ci := 4) (v := .int Ta_length) (C := RX4) (T := TX4) (N := 2) hx hb hts i_X8_end_X4 hown hK hP 1 rfl rfl 1 (by decide) (va_Nw.use rfl (hN _ nw_X8_173)) (fun _ h9 => h9) rfl dX8_end_6 ?_
  obtain ⟨u1, eu1, hf⟩ := Option.bind_eq_some_iff.mp hf
  refine cq_i (wc' := fun (u : Unit) => ([] : va_W)) (ws' := fun (u : Unit) => (wX8 cy qSC (qWe 0) (qPa 0) (qHo 0) (qHb 0) (qTa 0) (qRe 0) (qVo 0) (qAg 0) (qDr 0) SC_faultPlace SC_refusedBy ++ (wX4 cy qTa Ta_bytes Ta_length))) (wc := ([] : va_W)) (wr := (wX8 cy qSC (qWe 0) (qPa 0) (qHo 0) (qHb 0) (qTa 0) (qRe 0) (qVo 0) (qAg 0) (qDr 0) SC_faultPlace SC_refusedBy ++ (wX4 cy qTa Ta_bytes Ta_length))) C0 hP hD hS [] [0, 1, 2] [0, 1, 2] rfl rfl (by decide) (by decide) (by decide) (fun _ => rfl) (va_runS (As := [.int x1, .int (0 : Int32), .int Ta_length]) (rest := []) ⟨hx, hb, hml, hown, hts⟩ (c_X8_isWithin l D cy   H.size x1 (0 : Int32) Ta_length u1 eu1) (va_cwS 3 hts gX8_end_X8_isWithin rfl rfl rfl (by decide +kernel) ⟨Nat.le_of_ble_eq_true rfl, Nat.le_of_ble_eq_true rfl⟩) (pre_S (hP.sub (ws' := ([] : va_W)) [] rfl) hK (hD.sub (ws' := ([] : va_W)) [] (by decide) rfl) hN) rfl rfl hl.1 rfl (lv_room (Nat.le_of_ble_eq_true rfl)) dX8_end_9 ⟨Nat.zero_le _, Nat.zero_le _⟩) (fun r u H locs hw hP hD hS => ?_)
  have hw := hw.symm
  subst hw
  have hP : va_P D vwCl (wX8 cy qSC (qWe 0) (qPa 0) (qHo 0) (qHb 0) (qTa 0) (qRe 0) (qVo 0) (qAg 0) (qDr 0) SC_faultPlace SC_refusedBy ++ (wX4 cy qTa Ta_bytes Ta_length)) H := hP
  have hD : va_D A (wX8 cy qSC (qWe 0) (qPa 0) (qHo 0) (qHb 0) (qTa 0) (qRe 0) (qVo 0) (qAg 0) (qDr 0) SC_faultPlace SC_refusedBy ++ (wX4 cy qTa Ta_bytes Ta_length)) := hD
  refine lv_if_ne (tgt := 17) hx hb dX8_end_12 (by decide) (fun hc2 => ?_) (fun hc2 => ?_)
  · have hf := iff_ hf hc2
    refine lv_aload_n hx hb dX8_end_17 rfl (lv_at hl 0 rfl) ?_
    refine va_get (D := D) (ci := 8) (v := .ref (qTa 0)) (C := RX8) (T := TX8) (N := 11) hx hb hts i_X8_end_X8 hown hK hP 0 rfl rfl 4 (by decide) (hts _ m_X8_end_f40) (fun _ h9 => h9) rfl dX8_end_18 ?_
    refine lv_iload_n hx hb dX8_end_21 rfl (lv_at hl 1 rfl) ?_
    refine va_putN (D := D) (ci := 4) (v := .int x1) (ty := .int) (C := RX4) (T := TX4) (N := 2) hx hb hts i_X8_end_X4 tyX4 tyX4_ok nmX4 hown hK hP hD hS 1 rfl rfl 1 (by decide) (va_Nw.use rfl (hN _ nw_X8_173)) (fun _ h9 => h9) rfl (by decide +kernel) rfl rfl (Nat.le_of_ble_eq_true rfl) dX8_end_22 (fun H locs hP hD hS => ?_)
    have hP : va_P D vwCl (wX8 cy qSC (qWe 0) (qPa 0) (qHo 0) (qHb 0) (qTa 0) (qRe 0) (qVo 0) (qAg 0) (qDr 0) SC_faultPlace SC_refusedBy ++ (wX4 cy qTa Ta_bytes x1)) H := hP
    have hD : va_D A (wX8 cy qSC (qWe 0) (qPa 0) (qHo 0) (qHb 0) (qTa 0) (qRe 0) (qVo 0) (qAg 0) (qDr 0) SC_faultPlace SC_refusedBy ++ (wX4 cy qTa Ta_bytes x1)) := hD
    refine lv_iload_n hx hb dX8_end_25 rfl (lv_at hl 1 rfl) ?_
    exact rq_i C0 x1 (pr_2 hf) hP hD hS dX8_end_26
  · have hf := ift hf hc2
    refine lv_iconst (v := (-1 : Int32)) hx hb dX8_end_15 (by decide) ?_
    exact rq_i C0 Ta_length (pr_2 hf) hP hD hS dX8_end_16

theorem i_X8_fault_X8 : ∀ w ∈ wsX80, w ∈ wsX8_fault := by decide +kernel
theorem m_X8_fault_f72 : Cond.fieldLink RX8 72 "SailCargo" "faultPlace" "I" ∈ wsX8_fault := by decide +kernel
set_option maxHeartbeats 4000000 in
set_option maxRecDepth 100000 in
theorem c_X8_fault (l : Launch) (D : va_G) (cy : Nat → ClassId) (qSC qWe qPa qHo qHb qTa qRe qVo qAg qDr : Nat → Nat) (SC_faultPlace : Int32) (SC_refusedBy : Int32) (sz : Nat)  (X : Int32) (hf : f_X8_fault SC_faultPlace = some X) : Met l yX8_fault wsX8_fault ({ frames := 0, cells := 0, slots := 0, locals := 0 } : Room) (va_Pc [.ref (qSC 0)] (PW D cy (wX8 cy qSC (qWe 0) (qPa 0) (qHo 0) (qHb 0) (qTa 0) (qRe 0) (qVo 0) (qAg 0) (qDr 0) SC_faultPlace SC_refusedBy) sz)) (va_Qi (fun (r : Int32) (_ : Unit) => r = X) (fun u t => BW D cy (va_A (wX8 cy qSC (qWe 0) (qPa 0) (qHo 0) (qHb 0) (qTa 0) (qRe 0) (qVo 0) (qAg 0) (qDr 0) SC_faultPlace SC_refusedBy) sz) (wX8 cy qSC (qWe 0) (qPa 0) (qHo 0) (qHb 0) (qTa 0) (qRe 0) (qVo 0) (qAg 0) (qDr 0) SC_faultPlace SC_refusedBy) t) (va_A (wX8 cy qSC (qWe 0) (qPa 0) (qHo 0) (qHb 0) (qTa 0) (qRe 0) (qVo 0) (qAg 0) (qDr 0) SC_faultPlace SC_refusedBy) sz)) 0 0 (va_A (wX8 cy qSC (qWe 0) (qPa 0) (qHo 0) (qHb 0) (qTa 0) (qRe 0) (qVo 0) (qAg 0) (qDr 0) SC_faultPlace SC_refusedBy) sz) := by
  refine met_enter (Qc := fun A => (va_Qi (fun (r : Int32) (_ : Unit) => r = X) (fun u t => BW D cy A (wX8 cy qSC (qWe 0) (qPa 0) (qHo 0) (qHb 0) (qTa 0) (qRe 0) (qVo 0) (qAg 0) (qDr 0) SC_faultPlace SC_refusedBy) t) A)) (lv0 := [(0, .ref (qSC 0))]) (by decide) rfl (Nat.le_of_ble_eq_true rfl) rfl ?_
  intro p e s m below meth c A ls hnm C0 hP hD hS hl
  generalize hH : s.heap = H at hP ⊢
  generalize hLoc : ([] : List Loc) = locs at hS ⊢
  have hS : va_S A s.heap H locs := by rw [← hH]; exact hS
  have C0 : CX cX8_fault 1 (some .int) RX8 wsX8_fault D cy p s m _ meth c A := C0
  obtain ⟨hx, hb, hr, hml, hown, hts, hK, hA, hN, hlocks⟩ := id C0
  unfold f_X8_fault at hf
  refine lv_aload_n hx hb dX8_fault_0 rfl (lv_at hl 0 rfl) ?_
  refine va_get (D := D) (ci := 8) (v := .int SC_faultPlace) (C := RX8) (T := TX8) (N := 11) hx hb hts i_X8_fault_X8 hown hK hP 0 rfl rfl 9 (by decide) (hts _ m_X8_fault_f72) (fun _ h9 => h9) rfl dX8_fault_1 ?_
  exact rq_i C0 () (Option.some.inj hf) hP hD hS dX8_fault_4

set_option maxHeartbeats 4000000 in
set_option maxRecDepth 100000 in
theorem c_X8_isTerm (l : Launch) (D : va_G) (cy : Nat → ClassId)   (sz : Nat) (x0 : Int32) (X : Int32) (hf : f_X8_isTerm x0 = some X) : Met l yX8_isTerm wsX8_isTerm ({ frames := 1, cells := 0, slots := 0, locals := 22 } : Room) (va_Pc [.int x0] (PW D cy ([] : va_W) sz)) (va_Qi (fun (r : Int32) (_ : Unit) => r = X) (fun u t => BW D cy (va_A ([] : va_W) sz) ([] : va_W) t) (va_A ([] : va_W) sz)) 0 0 (va_A ([] : va_W) sz) := by
  refine met_enter (Qc := fun A => (va_Qi (fun (r : Int32) (_ : Unit) => r = X) (fun u t => BW D cy A ([] : va_W) t) A)) (lv0 := [(0, .int x0)]) (by decide) rfl (Nat.le_of_ble_eq_true rfl) rfl ?_
  intro p e s m below meth c A ls hnm C0 hP hD hS hl
  generalize hH : s.heap = H at hP ⊢
  generalize hLoc : ([] : List Loc) = locs at hS ⊢
  have hS : va_S A s.heap H locs := by rw [← hH]; exact hS
  have C0 : CX cX8_isTerm 1 (some .boolean) RX8 wsX8_isTerm D cy p s m _ meth c A := C0
  obtain ⟨hx, hb, hr, hml, hown, hts, hK, hA, hN, hlocks⟩ := id C0
  unfold f_X8_isTerm at hf
  refine lv_iload_n hx hb dX8_isTerm_0 rfl (lv_at hl 0 rfl) ?_
  refine lv_iconst (v := (0 : Int32)) hx hb dX8_isTerm_1 (by decide) ?_
  refine lv_sipush (v := (10000 : Int32)) hx hb dX8_isTerm_2 (by decide) ?_
  obtain ⟨u1, eu1, hf⟩ := Option.bind_eq_some_iff.mp hf
  refine cq_i (wc' := fun (u : Unit) => ([] : va_W)) (ws' := fun (u : Unit) => ([] : va_W)) (wc := ([] : va_W)) (wr := ([] : va_W)) C0 hP hD hS [] [] [] rfl rfl (by decide) (by decide) (by decide) (fun _ => rfl) (va_runS (As := [.int x0, .int (0 : Int32), .int (10000 : Int32)]) (rest := []) ⟨hx, hb, hml, hown, hts⟩ (c_X8_isWithin l D cy   H.size x0 (0 : Int32) (10000 : Int32) u1 eu1) (va_cwS 3 hts gX8_isTerm_X8_isWithin rfl rfl rfl (by decide +kernel) ⟨Nat.le_of_ble_eq_true rfl, Nat.le_of_ble_eq_true rfl⟩) (pre_S (hP.sub (ws' := ([] : va_W)) [] rfl) hK (hD.sub (ws' := ([] : va_W)) [] (by decide) rfl) hN) rfl rfl hl.1 rfl (lv_room (Nat.le_of_ble_eq_true rfl)) dX8_isTerm_5 ⟨Nat.zero_le _, Nat.zero_le _⟩) (fun r u H locs hw hP hD hS => ?_)
  have hw := hw.symm
  subst hw
  have hP : va_P D vwCl ([] : va_W) H := hP
  have hD : va_D A ([] : va_W) := hD
  obtain ⟨hz2, hf⟩ := ifn hf
  exact rq_z C0 (isb_nar hz2) () (Option.some.inj hf) hP hD hS dX8_isTerm_8

