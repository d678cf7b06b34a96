theorem m_X8_due_c111 : Cond.constantLong RX8 111 (-1) ∈ wsX8_due := by decide +kernel
theorem m_X8_due_c186 : Cond.constant RX8 186 (1000000) ∈ wsX8_due := by decide +kernel
theorem i_X8_due_X8 : ∀ w ∈ wsX80, w ∈ wsX8_due := by decide +kernel
theorem m_X8_due_f65 : Cond.fieldLink RX8 65 "SailCargo" "agreed" "LSailCargo$Terms;" ∈ wsX8_due := by decide +kernel
set_option maxHeartbeats 4000000 in
set_option maxRecDepth 100000 in
theorem c_X8_due (l : Launch) (D : va_G) (cy : Nat → ClassId) (qSC qAg qWe qPa qHo qHb qTa qRe qVo qDr : Nat → Nat) (SC_faultPlace : Int32) (SC_refusedBy : Int32) (Ag_kind : Nat → Int32) (Ag_amount : Nat → Int32) (Ag_mark : Nat → Int32) (Ag_clauses : Int32) (sz : Nat) (x1 : Int32) (x2 : Int32) (x3 : Int32) (X : Int64) (hf : f_X8_due Ag_kind Ag_amount Ag_mark Ag_clauses x1 x2 x3 = some X) : Met l yX8_due wsX8_due ({ frames := 3, cells := 0, slots := 0, locals := 79 } : Room) (va_Pc [.ref (qSC 0), .int x1, .int x2, .int x3] (PW D cy (wX8 cy qSC (qWe 0) (qPa 0) (qHo 0) (qHb 0) (qTa 0) (qRe 0) (qVo 0) (qAg 0) (qDr 0) SC_faultPlace SC_refusedBy ++ (wX5 cy qAg Ag_kind Ag_amount Ag_mark Ag_clauses)) sz)) (va_Ql (fun (r : Int64) (_ : Unit) => r = X) (fun u t => BW D cy (va_A (wX8 cy qSC (qWe 0) (qPa 0) (qHo 0) (qHb 0) (qTa 0) (qRe 0) (qVo 0) (qAg 0) (qDr 0) SC_faultPlace SC_refusedBy ++ (wX5 cy qAg Ag_kind Ag_amount Ag_mark Ag_clauses)) sz) (wX8 cy qSC (qWe 0) (qPa 0) (qHo 0) (qHb 0) (qTa 0) (qRe 0) (qVo 0) (qAg 0) (qDr 0) SC_faultPlace SC_refusedBy ++ (wX5 cy qAg Ag_kind Ag_amount Ag_mark Ag_clauses)) t) (va_A (wX8 cy qSC (qWe 0) (qPa 0) (qHo 0) (qHb 0) (qTa 0) (qRe 0) (qVo 0) (qAg 0) (qDr 0) SC_faultPlace SC_refusedBy ++ (wX5 cy qAg Ag_kind Ag_amount Ag_mark Ag_clauses)) sz)) 0 0 (va_A (wX8 cy qSC (qWe 0) (qPa 0) (qHo 0) (qHb 0) (qTa 0) (qRe 0) (qVo 0) (qAg 0) (qDr 0) SC_faultPlace SC_refusedBy ++ (wX5 cy qAg Ag_kind Ag_amount Ag_mark Ag_clauses)) sz) := by
  refine met_enter (Qc := fun A => (va_Ql (fun (r : Int64) (_ : Unit) => r = X) (fun u t => BW D cy A (wX8 cy qSC (qWe 0) (qPa 0) (qHo 0) (qHb 0) (qTa 0) (qRe 0) (qVo 0) (qAg 0) (qDr 0) SC_faultPlace SC_refusedBy ++ (wX5 cy qAg Ag_kind Ag_amount Ag_mark Ag_clauses)) t) A)) (lv0 := [(0, .ref (qSC 0)), (1, .int x1), (2, .int x2), (3, .int x3)]) (by decide) rfl (Nat.le_of_ble_eq_true rfl) rfl ?_
  intro p e s m below meth c A ls hnm C0 hP hD hS hl
  generalize hH : s.heap = H at hP ⊢
  generalize hLoc : ([] : List Loc) = locs at hS ⊢
  have hS : va_S A s.heap H locs := by rw [← hH]; exact hS
  have C0 : CX cX8_due 4 (some .long) RX8 wsX8_due D cy p s m _ meth c A := C0
  obtain ⟨hx, hb, hr, hml, hown, hts, hK, hA, hN, hlocks⟩ := id C0
  unfold f_X8_due at hf
  refine lv_iload_n hx hb dX8_due_0 rfl (lv_at hl 1 rfl) ?_
  obtain ⟨u1, eu1, hf⟩ := Option.bind_eq_some_iff.mp hf
  refine cq_i (wc' := fun (u : Unit) => ([] : va_W)) (ws' := fun (u : Unit) => (wX8 cy qSC (qWe 0) (qPa 0) (qHo 0) (qHb 0) (qTa 0) (qRe 0) (qVo 0) (qAg 0) (qDr 0) SC_faultPlace SC_refusedBy ++ (wX5 cy qAg Ag_kind Ag_amount Ag_mark Ag_clauses))) (wc := ([] : va_W)) (wr := (wX8 cy qSC (qWe 0) (qPa 0) (qHo 0) (qHb 0) (qTa 0) (qRe 0) (qVo 0) (qAg 0) (qDr 0) SC_faultPlace SC_refusedBy ++ (wX5 cy qAg Ag_kind Ag_amount Ag_mark Ag_clauses))) C0 hP hD hS [] [0, 1, 2, 3, 4] [0, 1, 2, 3, 4] rfl rfl (by decide) (by decide) (by decide) (fun _ => rfl) (va_runS (As := [.int x1]) (rest := []) ⟨hx, hb, hml, hown, hts⟩ (c_X8_isTerm l D cy   H.size x1 u1 eu1) (va_cwS 1 hts gX8_due_X8_isTerm rfl rfl rfl (by decide +kernel) ⟨Nat.le_of_ble_eq_true rfl, Nat.le_of_ble_eq_true rfl⟩) (pre_S (hP.sub (ws' := ([] : va_W)) [] rfl) hK (hD.sub (ws' := ([] : va_W)) [] (by decide) rfl) hN) rfl rfl hl.1 rfl (lv_room (Nat.le_of_ble_eq_true rfl)) dX8_due_1 ⟨Nat.zero_le _, Nat.zero_le _⟩) (fun r u H locs hw hP hD hS => ?_)
  have hw := hw.symm
  subst hw
  have hP : va_P D vwCl (wX8 cy qSC (qWe 0) (qPa 0) (qHo 0) (qHb 0) (qTa 0) (qRe 0) (qVo 0) (qAg 0) (qDr 0) SC_faultPlace SC_refusedBy ++ (wX5 cy qAg Ag_kind Ag_amount Ag_mark Ag_clauses)) H := hP
  have hD : va_D A (wX8 cy qSC (qWe 0) (qPa 0) (qHo 0) (qHb 0) (qTa 0) (qRe 0) (qVo 0) (qAg 0) (qDr 0) SC_faultPlace SC_refusedBy ++ (wX5 cy qAg Ag_kind Ag_amount Ag_mark Ag_clauses)) := hD
  refine lv_if_eq (tgt := 24) hx hb dX8_due_4 (by decide) (fun hc2 => ?_) (fun hc2 => ?_)
  · have hf := ift hf hc2
    refine lv_ldc2 (v := (-1 : Int64)) hx hb hown (hts _ m_X8_due_c111) dX8_due_24 ?_
    exact rq_l C0 () (Option.some.inj hf) hP hD hS dX8_due_27
  · have hf := iff_ hf hc2
    refine lv_iload_n hx hb dX8_due_7 rfl (lv_at hl 2 rfl) ?_
    obtain ⟨u3, eu3, hf⟩ := Option.bind_eq_some_iff.mp hf
    refine cq_i (wc' := fun (u : Unit) => ([] : va_W)) (ws' := fun (u : Unit) => (wX8 cy qSC (qWe 0) (qPa 0) (qHo 0) (qHb 0) (qTa 0) (qRe 0) (qVo 0) (qAg 0) (qDr 0) SC_faultPlace SC_refusedBy ++ (wX5 cy qAg Ag_kind Ag_amount Ag_mark Ag_clauses))) (wc := ([] : va_W)) (wr := (wX8 cy qSC (qWe 0) (qPa 0) (qHo 0) (qHb 0) (qTa 0) (qRe 0) (qVo 0) (qAg 0) (qDr 0) SC_faultPlace SC_refusedBy ++ (wX5 cy qAg Ag_kind Ag_amount Ag_mark Ag_clauses))) C0 hP hD hS [] [0, 1, 2, 3, 4] [0, 1, 2, 3, 4] rfl rfl (by decide) (by decide) (by decide) (fun _ => rfl) (va_runS (As := [.int x2]) (rest := []) ⟨hx, hb, hml, hown, hts⟩ (c_X8_isTerm l D cy   H.size x2 u3 eu3) (va_cwS 1 hts gX8_due_X8_isTerm rfl rfl rfl (by decide +kernel) ⟨Nat.le_of_ble_eq_true rfl, Nat.le_of_ble_eq_true rfl⟩) (pre_S (hP.sub (ws' := ([] : va_W)) [] rfl) hK (hD.sub (ws' := ([] : va_W)) [] (by decide) rfl) hN) rfl rfl hl.1 rfl (lv_room (Nat.le_of_ble_eq_true rfl)) dX8_due_8 ⟨Nat.zero_le _, Nat.zero_le _⟩) (fun r u H locs hw hP hD hS => ?_)
    have hw := hw.symm
    subst hw
    have hP : va_P D vwCl (wX8 cy qSC (qWe 0) (qPa 0) (qHo 0) (qHb 0) (qTa 0) (qRe 0) (qVo 0) (qAg 0) (qDr 0) SC_faultPlace SC_refusedBy ++ (wX5 cy qAg Ag_kind Ag_amount Ag_mark Ag_clauses)) H := hP
    have hD : va_D A (wX8 cy qSC (qWe 0) (qPa 0) (qHo 0) (qHb 0) (qTa 0) (qRe 0) (qVo 0) (qAg 0) (qDr 0) SC_faultPlace SC_refusedBy ++ (wX5 cy qAg Ag_kind Ag_amount Ag_mark Ag_clauses)) := hD
    refine lv_if_eq (tgt := 24) hx hb dX8_due_11 (by decide) (fun hc4 => ?_) (fun hc4 => ?_)
    · have hf := ift hf hc4
      refine lv_ldc2 (v := (-1 : Int64)) hx hb hown (hts _ m_X8_due_c111) dX8_due_24 ?_
      exact rq_l C0 () (Option.some.inj hf) hP hD hS dX8_due_27
    · have hf := iff_ hf hc4
      refine lv_iload_n hx hb dX8_due_14 rfl (lv_at hl 3 rfl) ?_
      refine lv_iconst (v := (0 : Int32)) hx hb dX8_due_15 (by decide) ?_
      refine lv_ldc (v := (1000000 : Int32)) hx hb hown (hts _ m_X8_due_c186) dX8_due_16 ?_
      obtain ⟨u5, eu5, hf⟩ := Option.bind_eq_some_iff.mp hf
      refine cq_i (wc' := fun (u : Unit) => ([] : va_W)) (ws' := fun (u : Unit) => (wX8 cy qSC (qWe 0) (qPa 0) (qHo 0) (qHb 0) (qTa 0) (qRe 0) (qVo 0) (qAg 0) (qDr 0) SC_faultPlace SC_refusedBy ++ (wX5 cy qAg Ag_kind Ag_amount Ag_mark Ag_clauses))) (wc := ([] : va_W)) (wr := (wX8 cy qSC (qWe 0) (qPa 0) (qHo 0) (qHb 0) (qTa 0) (qRe 0) (qVo 0) (qAg 0) (qDr 0) SC_faultPlace SC_refusedBy ++ (wX5 cy qAg Ag_kind Ag_amount Ag_mark Ag_clauses))) C0 hP hD hS [] [0, 1, 2, 3, 4] [0, 1, 2, 3, 4] rfl rfl (by decide) (by decide) (by decide) (fun _ => rfl) (va_runS (As := [.int x3, .int (0 : Int32), .int (1000000 : Int32)]) (rest := []) ⟨hx, hb, hml, hown, hts⟩ (c_X8_isWithin l D cy   H.size x3 (0 : Int32) (1000000 : Int32) u5 eu5) (va_cwS 3 hts gX8_due_X8_isWithin rfl rfl rfl (by decide +kernel) ⟨Nat.le_of_ble_eq_true rfl, Nat.le_of_ble_eq_true rfl⟩) (pre_S (hP.sub (ws' := ([] : va_W)) [] rfl) hK (hD.sub (ws' := ([] : va_W)) [] (by decide) rfl) hN) rfl rfl hl.1 rfl (lv_room (Nat.le_of_ble_eq_true rfl)) dX8_due_18 ⟨Nat.zero_le _, Nat.zero_le _⟩) (fun r u H locs hw hP hD hS => ?_)
      have hw := hw.symm
      subst hw
      have hP : va_P D vwCl (wX8 cy qSC (qWe 0) (qPa 0) (qHo 0) (qHb 0) (qTa 0) (qRe 0) (qVo 0) (qAg 0) (qDr 0) SC_faultPlace SC_refusedBy ++ (wX5 cy qAg Ag_kind Ag_amount Ag_mark Ag_clauses)) H := hP
      have hD : va_D A (wX8 cy qSC (qWe 0) (qPa 0) (qHo 0) (qHb 0) (qTa 0) (qRe 0) (qVo 0) (qAg 0) (qDr 0) SC_faultPlace SC_refusedBy ++ (wX5 cy qAg Ag_kind Ag_amount Ag_mark Ag_clauses)) := hD
      refine lv_if_ne (tgt := 28) hx hb dX8_due_21 (by decide) (fun hc6 => ?_) (fun hc6 => ?_)
      · have hf := iff_ hf hc6
        refine lv_aload_n hx hb dX8_due_28 rfl (lv_at hl 0 rfl) ?_
        refine va_get (D := D) (ci := 8) (v := .ref (qAg 0)) (C := RX8) (T := TX8) (N := 11) hx hb hts i_X8_due_X8 hown hK hP 0 rfl rfl 7 (by decide) (hts _ m_X8_due_f65) (fun _ h9 => h9) rfl dX8_due_29 ?_
        refine lv_iload_n hx hb dX8_due_32 rfl (lv_at hl 1 rfl) ?_
        refine lv_iload_n hx hb dX8_due_33 rfl (lv_at hl 2 rfl) ?_
        refine lv_iload_n hx hb dX8_due_34 rfl (lv_at hl 3 rfl) ?_
        obtain ⟨u7, eu7, hf⟩ := Option.bind_eq_some_iff.mp hf
        refine cq_l (wc' := fun (u : Unit) => (wX5 cy qAg Ag_kind Ag_amount Ag_mark Ag_clauses)) (ws' := fun (u : Unit) => (wX8 cy qSC (qWe 0) (qPa 0) (qHo 0) (qHb 0) (qTa 0) (qRe 0) (qVo 0) (qAg 0) (qDr 0) SC_faultPlace SC_refusedBy ++ (wX5 cy qAg Ag_kind Ag_amount Ag_mark Ag_clauses))) (wc := (wX5 cy qAg Ag_kind Ag_amount Ag_mark Ag_clauses)) (wr := (wX8 cy qSC (qWe 0) (qPa 0) (qHo 0) (qHb 0) (qTa 0) (qRe 0) (qVo 0) (qAg 0) (qDr 0) SC_faultPlace SC_refusedBy)) C0 hP hD hS [1, 2, 3, 4] [0] [0, 1, 2, 3, 4] rfl rfl (by decide) (by decide) (by decide) (fun _ => rfl) (va_runV (As := [.int x1, .int x2, .int x3]) (rest := []) ⟨hx, hb, hml, hown, hts⟩ (c_X5_sum l D cy qAg Ag_kind Ag_amount Ag_mark Ag_clauses H.size x1 x2 x3 u7 eu7) (cwV 3 hts gX8_due_X5_sum rfl rfl rfl (by decide +kernel) ⟨Nat.le_of_ble_eq_true rfl, Nat.le_of_ble_eq_true rfl⟩) (pre_V (hP.sub (ws' := (wX5 cy qAg Ag_kind Ag_amount Ag_mark Ag_clauses)) [1, 2, 3, 4] rfl) hK (hD.sub (ws' := (wX5 cy qAg Ag_kind Ag_amount Ag_mark Ag_clauses)) [1, 2, 3, 4] (by decide) rfl) hN 5 0 rfl rfl) rfl rfl hl.1 rfl (lv_room (Nat.le_of_ble_eq_true rfl)) dX8_due_35 ⟨Nat.zero_le _, Nat.zero_le _⟩) (fun r u H locs hw hP hD hS => ?_)
        have hw := hw.symm
        subst hw
        have hP : va_P D vwCl (wX8 cy qSC (qWe 0) (qPa 0) (qHo 0) (qHb 0) (qTa 0) (qRe 0) (qVo 0) (qAg 0) (qDr 0) SC_faultPlace SC_refusedBy ++ (wX5 cy qAg Ag_kind Ag_amount Ag_mark Ag_clauses)) H := hP
        have hD : va_D A (wX8 cy qSC (qWe 0) (qPa 0) (qHo 0) (qHb 0) (qTa 0) (qRe 0) (qVo 0) (qAg 0) (qDr 0) SC_faultPlace SC_refusedBy ++ (wX5 cy qAg Ag_kind Ag_amount Ag_mark Ag_clauses)) := hD
        exact rq_l C0 () (Option.some.inj hf) hP hD hS dX8_due_38
      · have hf := ift hf hc6
        refine lv_ldc2 (v := (-1 : Int64)) hx hb hown (hts _ m_X8_due_c111) dX8_due_24 ?_
        exact rq_l C0 () (Option.some.inj hf) hP hD hS dX8_due_27

theorem i_X8_leg_X8 : ∀ w ∈ wsX80, w ∈ wsX8_leg := by decide +kernel
theorem m_X8_leg_f58 : Cond.fieldLink RX8 58 "SailCargo" "voyage" "LSailCargo$Voyage;" ∈ wsX8_leg := by decide +kernel
set_option maxHeartbeats 4000000 in
set_option maxRecDepth 100000 in
theorem c_X8_leg (l : Launch) (D : va_G) (cy : Nat → ClassId) (qSC qVo qWe qPa qHo qHb qTa qRe qAg qDr : Nat → Nat) (SC_faultPlace : Int32) (SC_refusedBy : Int32) (Vo_legSmoke : Nat → Int32) (Vo_firstLeg : Nat → Int32) (Vo_lastLeg : Nat → Int32) (Vo_legs : Int32) (sz : Nat) (x1 : Int32) (X : Int32 × (Int32) × (Nat → Int32) × (Int32)) (hf : f_X8_leg SC_refusedBy Vo_legSmoke Vo_legs x1 = some X) : Met l yX8_leg wsX8_leg ({ frames := 2, cells := 0, slots := 0, locals := 43 } : Room) (va_Pc [.ref (qSC 0), .int x1] (PW D cy (wX8 cy qSC (qWe 0) (qPa 0) (qHo 0) (qHb 0) (qTa 0) (qRe 0) (qVo 0) (qAg 0) (qDr 0) SC_faultPlace SC_refusedBy ++ (wX6 cy qVo (qHo 0) Vo_legSmoke Vo_firstLeg Vo_lastLeg Vo_legs)) sz)) (va_Qi (fun (r : Int32) (u : (Int32) × (Nat → Int32) × (Int32)) => r = X.1 ∧ u = X.2) (fun u t => BW D cy (va_A (wX8 cy qSC (qWe 0) (qPa 0) (qHo 0) (qHb 0) (qTa 0) (qRe 0) (qVo 0) (qAg 0) (qDr 0) SC_faultPlace SC_refusedBy ++ (wX6 cy qVo (qHo 0) Vo_legSmoke Vo_firstLeg Vo_lastLeg Vo_legs)) sz) (wX8 cy qSC (qWe 0) (qPa 0) (qHo 0) (qHb 0) (qTa 0) (qRe 0) (qVo 0) (qAg 0) (qDr 0) SC_faultPlace u.1 ++ (wX6 cy qVo (qHo 0) u.2.1 Vo_firstLeg Vo_lastLeg u.2.2)) t) (va_A (wX8 cy qSC (qWe 0) (qPa 0) (qHo 0) (qHb 0) (qTa 0) (qRe 0) (qVo 0) (qAg 0) (qDr 0) SC_faultPlace SC_refusedBy ++ (wX6 cy qVo (qHo 0) Vo_legSmoke Vo_firstLeg Vo_lastLeg Vo_legs)) sz)) 0 0 (va_A (wX8 cy qSC (qWe 0) (qPa 0) (qHo 0) (qHb 0) (qTa 0) (qRe 0) (qVo 0) (qAg 0) (qDr 0) SC_faultPlace SC_refusedBy ++ (wX6 cy qVo (qHo 0) Vo_legSmoke Vo_firstLeg Vo_lastLeg Vo_legs)) sz) := by
  refine met_enter (Qc := fun A => (va_Qi (fun (r : Int32) (u : (Int32) × (Nat → Int32) × (Int32)) => r = X.1 ∧ u = X.2) (fun u t => BW D cy A (wX8 cy qSC (qWe 0) (qPa 0) (qHo 0) (qHb 0) (qTa 0) (qRe 0) (qVo 0) (qAg 0) (qDr 0) SC_faultPlace u.1 ++ (wX6 cy qVo (qHo 0) u.2.1 Vo_firstLeg Vo_lastLeg u.2.2)) t) A)) (lv0 := [(0, .ref (qSC 0)), (1, .int x1)]) (by decide) rfl (Nat.le_of_ble_eq_true rfl) rfl ?_
  intro p e s m below meth c A ls hnm C0 hP hD hS hl
  generalize hH : s.heap = H at hP ⊢
  generalize hLoc : ([] : List Loc) = locs at hS ⊢
  have hS : va_S A s.heap H locs := by rw [← hH]; exact hS
  have C0 : CX cX8_leg 2 (some .int) RX8 wsX8_leg D cy p s m _ meth c A := C0
  obtain ⟨hx, hb, hr, hml, hown, hts, hK, hA, hN, hlocks⟩ := id C0
  unfold f_X8_leg at hf
  refine lv_aload_n hx hb dX8_leg_0 rfl (lv_at hl 0 rfl) ?_
  refine lv_aload_n hx hb dX8_leg_1 rfl (lv_at hl 0 rfl) ?_
  refine va_get (D := D) (ci := 8) (v := .ref (qVo 0)) (C := RX8) (T := TX8) (N := 11) hx hb hts i_X8_leg_X8 hown hK hP 0 rfl rfl 6 (by decide) (hts _ m_X8_leg_f58) (fun _ h9 => h9) rfl dX8_leg_2 ?_
  refine lv_iload_n hx hb dX8_leg_5 rfl (lv_at hl 1 rfl) ?_
  obtain ⟨u1, eu1, hf⟩ := Option.bind_eq_some_iff.mp hf
  refine cq_i (wc' := fun (u : (Nat → Int32) × (Int32)) => (wX6 cy qVo (qHo 0) u.1 Vo_firstLeg Vo_lastLeg u.2)) (ws' := fun (u : (Nat → Int32) × (Int32)) => (wX8 cy qSC (qWe 0) (qPa 0) (qHo 0) (qHb 0) (qTa 0) (qRe 0) (qVo 0) (qAg 0) (qDr 0) SC_faultPlace SC_refusedBy ++ (wX6 cy qVo (qHo 0) u.1 Vo_firstLeg Vo_lastLeg u.2))) (wc := (wX6 cy qVo (qHo 0) Vo_legSmoke Vo_firstLeg Vo_lastLeg Vo_legs)) (wr := (wX8 cy qSC (qWe 0) (qPa 0) (qHo 0) (qHb 0) (qTa 0) (qRe 0) (qVo 0) (qAg 0) (qDr 0) SC_faultPlace SC_refusedBy)) C0 hP hD hS [1, 2, 3, 4] [0] [0, 1, 2, 3, 4] rfl rfl (by decide) (by decide) (by decide) (fun _ => rfl) (va_runV (As := [.int x1]) (rest := [.ref (qSC 0)]) ⟨hx, hb, hml, hown, hts⟩ (c_X6_add l D cy qVo qHo Vo_legSmoke Vo_firstLeg Vo_lastLeg Vo_legs H.size x1 u1 eu1) (cwV 1 hts gX8_leg_X6_add rfl rfl rfl (by decide +kernel) ⟨Nat.le_of_ble_eq_true rfl, Nat.le_of_ble_eq_true rfl⟩) (pre_V (hP.sub (ws' := (wX6 cy qVo (qHo 0) Vo_legSmoke Vo_firstLeg Vo_lastLeg Vo_legs)) [1, 2, 3, 4] rfl) hK (hD.sub (ws' := (wX6 cy qVo (qHo 0) Vo_legSmoke Vo_firstLeg Vo_lastLeg Vo_legs)) [1, 2, 3, 4] (by decide) rfl) hN 6 0 rfl rfl) rfl rfl hl.1 rfl (lv_room (Nat.le_of_ble_eq_true rfl)) dX8_leg_6 ⟨Nat.zero_le _, Nat.zero_le _⟩) (fun r u H locs hw hP hD hS => ?_)
  obtain ⟨rfl, rfl⟩ := hw
  have hP : va_P D vwCl (wX8 cy qSC (qWe 0) (qPa 0) (qHo 0) (qHb 0) (qTa 0) (qRe 0) (qVo 0) (qAg 0) (qDr 0) SC_faultPlace SC_refusedBy ++ (wX6 cy qVo (qHo 0) u1.2.1 Vo_firstLeg Vo_lastLeg u1.2.2)) H := hP
  have hD : va_D A (wX8 cy qSC (qWe 0) (qPa 0) (qHo 0) (qHb 0) (qTa 0) (qRe 0) (qVo 0) (qAg 0) (qDr 0) SC_faultPlace SC_refusedBy ++ (wX6 cy qVo (qHo 0) u1.2.1 Vo_firstLeg Vo_lastLeg u1.2.2)) := hD
  obtain ⟨u2, eu2, hf⟩ := Option.bind_eq_some_iff.mp hf
  refine cq_i (wc' := fun (u : (Int32)) => (wX8 cy qSC (qWe 0) (qPa 0) (qHo 0) (qHb 0) (qTa 0) (qRe 0) (qVo 0) (qAg 0) (qDr 0) SC_faultPlace u)) (ws' := fun (u : (Int32)) => (wX8 cy qSC (qWe 0) (qPa 0) (qHo 0) (qHb 0) (qTa 0) (qRe 0) (qVo 0) (qAg 0) (qDr 0) SC_faultPlace u ++ (wX6 cy qVo (qHo 0) u1.2.1 Vo_firstLeg Vo_lastLeg u1.2.2))) (wc := (wX8 cy qSC (qWe 0) (qPa 0) (qHo 0) (qHb 0) (qTa 0) (qRe 0) (qVo 0) (qAg 0) (qDr 0) SC_faultPlace SC_refusedBy)) (wr := (wX6 cy qVo (qHo 0) u1.2.1 Vo_firstLeg Vo_lastLeg u1.2.2)) C0 hP hD hS [0] [1, 2, 3, 4] [4, 0, 1, 2, 3] rfl rfl (by decide) (by decide) (by decide) (fun _ => rfl) (va_runV (As := [.int u1.1]) (rest := []) ⟨hx, hb, hml, hown, hts⟩ (c_X8_answered l D cy qSC qWe qPa qHo qHb qTa qRe qVo qAg qDr SC_faultPlace SC_refusedBy H.size u1.1 u2 eu2) (cwV 1 hts gX8_leg_X8_answered rfl rfl rfl (by decide +kernel) ⟨Nat.le_of_ble_eq_true rfl, Nat.le_of_ble_eq_true rfl⟩) (pre_V (hP.sub (ws' := (wX8 cy qSC (qWe 0) (qPa 0) (qHo 0) (qHb 0) (qTa 0) (qRe 0) (qVo 0) (qAg 0) (qDr 0) SC_faultPlace SC_refusedBy)) [0] rfl) hK (hD.sub (ws' := (wX8 cy qSC (qWe 0) (qPa 0) (qHo 0) (qHb 0) (qTa 0) (qRe 0) (qVo 0) (qAg 0) (qDr 0) SC_faultPlace SC_refusedBy)) [0] (by decide) rfl) hN 8 0 rfl rfl) rfl rfl hl.1 rfl (lv_room (Nat.le_of_ble_eq_true rfl)) dX8_leg_9 ⟨Nat.zero_le _, Nat.zero_le _⟩) (fun r u H locs hw hP hD hS => ?_)
  obtain ⟨rfl, rfl⟩ := hw
  have hP : va_P D vwCl (wX8 cy qSC (qWe 0) (qPa 0) (qHo 0) (qHb 0) (qTa 0) (qRe 0) (qVo 0) (qAg 0) (qDr 0) SC_faultPlace u2.2 ++ (wX6 cy qVo (qHo 0) u1.2.1 Vo_firstLeg Vo_lastLeg u1.2.2)) H := hP
  have hD : va_D A (wX8 cy qSC (qWe 0) (qPa 0) (qHo 0) (qHb 0) (qTa 0) (qRe 0) (qVo 0) (qAg 0) (qDr 0) SC_faultPlace u2.2 ++ (wX6 cy qVo (qHo 0) u1.2.1 Vo_firstLeg Vo_lastLeg u1.2.2)) := hD
  exact rq_i C0 (u2.2, u1.2.1, u1.2.2) (pr_2 hf) hP hD hS dX8_leg_12

theorem i_X8_aboard_X8 : ∀ w ∈ wsX80, w ∈ wsX8_aboard := by decide +kernel
theorem m_X8_aboard_f58 : Cond.fieldLink RX8 58 "SailCargo" "voyage" "LSailCargo$Voyage;" ∈ wsX8_aboard := by decide +kernel
set_option maxHeartbeats 4000000 in
set_option maxRecDepth 100000 in
theorem c_X8_aboard (l : Launch) (D : va_G) (cy : Nat → ClassId) (qSC qHo qVo qWe qPa qHb qTa qRe qAg qDr : Nat → Nat) (SC_faultPlace : Int32) (SC_refusedBy : Int32) (Ho_tons : Nat → Int32) (Ho_worth : Nat → Int32) (Ho_apartBits : Nat → Int32) (Ho_loads : Int32) (Ho_room : Int32) (Ho_bestBits : Int32) (Ho_bestTons : Int32) (Ho_bestWorth : Int32) (Vo_legSmoke : Nat → Int32) (Vo_firstLeg : Nat → Int32) (Vo_lastLeg : Nat → Int32) (Vo_legs : Int32) (sz : Nat) (x1 : Int32) (x2 : Int32) (x3 : Int32) (X : Int32 × (Int32) × (Nat → Int32) × (Nat → Int32)) (hf : f_X8_aboard SC_refusedBy Ho_loads Vo_firstLeg Vo_lastLeg Vo_legs x1 x2 x3 = some X) : Met l yX8_aboard wsX8_aboard ({ frames := 3, cells := 0, slots := 0, locals := 66 } : Room) (va_Pc [.ref (qSC 0), .int x1, .int x2, .int x3] (PW D cy (wX8 cy qSC (qWe 0) (qPa 0) (qHo 0) (qHb 0) (qTa 0) (qRe 0) (qVo 0) (qAg 0) (qDr 0) SC_faultPlace SC_refusedBy ++ (wX1 cy qHo Ho_tons Ho_worth Ho_apartBits Ho_loads Ho_room Ho_bestBits Ho_bestTons Ho_bestWorth ++ (wX6 cy qVo (qHo 0) Vo_legSmoke Vo_firstLeg Vo_lastLeg Vo_legs))) sz)) (va_Qi (fun (r : Int32) (u : (Int32) × (Nat → Int32) × (Nat → Int32)) => r = X.1 ∧ u = X.2) (fun u t => BW D cy (va_A (wX8 cy qSC (qWe 0) (qPa 0) (qHo 0) (qHb 0) (qTa 0) (qRe 0) (qVo 0) (qAg 0) (qDr 0) SC_faultPlace SC_refusedBy ++ (wX1 cy qHo Ho_tons Ho_worth Ho_apartBits Ho_loads Ho_room Ho_bestBits Ho_bestTons Ho_bestWorth ++ (wX6 cy qVo (qHo 0) Vo_legSmoke Vo_firstLeg Vo_lastLeg Vo_legs))) sz) (wX8 cy qSC (qWe 0) (qPa 0) (qHo 0) (qHb 0) (qTa 0) (qRe 0) (qVo 0) (qAg 0) (qDr 0) SC_faultPlace u.1 ++ (wX1 cy qHo Ho_tons Ho_worth Ho_apartBits Ho_loads Ho_room Ho_bestBits Ho_bestTons Ho_bestWorth ++ (wX6 cy qVo (qHo 0) Vo_legSmoke u.2.1 u.2.2 Vo_legs))) t) (va_A (wX8 cy qSC (qWe 0) (qPa 0) (qHo 0) (qHb 0) (qTa 0) (qRe 0) (qVo 0) (qAg 0) (qDr 0) SC_faultPlace SC_refusedBy ++ (wX1 cy qHo Ho_tons Ho_worth Ho_apartBits Ho_loads Ho_room Ho_bestBits Ho_bestTons Ho_bestWorth ++ (wX6 cy qVo (qHo 0) Vo_legSmoke Vo_firstLeg Vo_lastLeg Vo_legs))) sz)) 0 0 (va_A (wX8 cy qSC (qWe 0) (qPa 0) (qHo 0) (qHb 0) (qTa 0) (qRe 0) (qVo 0) (qAg 0) (qDr 0) SC_faultPlace SC_refusedBy ++ (wX1 cy qHo Ho_tons Ho_worth Ho_apartBits Ho_loads Ho_room Ho_bestBits Ho_bestTons Ho_bestWorth ++ (wX6 cy qVo (qHo 0) Vo_legSmoke Vo_firstLeg Vo_lastLeg Vo_legs))) sz) := by
  refine met_enter (Qc := fun A => (va_Qi (fun (r : Int32) (u : (Int32) × (Nat → Int32) × (Nat → Int32)) => r = X.1 ∧ u = X.2) (fun u t => BW D cy A (wX8 cy qSC (qWe 0) (qPa 0) (qHo 0) (qHb 0) (qTa 0) (qRe 0) (qVo 0) (qAg 0) (qDr 0) SC_faultPlace u.1 ++ (wX1 cy qHo Ho_tons Ho_worth Ho_apartBits Ho_loads Ho_room Ho_bestBits Ho_bestTons Ho_bestWorth ++ (wX6 cy qVo (qHo 0) Vo_legSmoke u.2.1 u.2.2 Vo_legs))) t) A)) (lv0 := [(0, .ref (qSC 0)), (1, .int x1), (2, .int x2), (3, .int x3)]) (by decide) rfl (Nat.le_of_ble_eq_true rfl) rfl ?_
  intro p e s m below meth c A ls hnm C0 hP hD hS hl
  generalize hH : s.heap = H at hP ⊢
  generalize hLoc : ([] : List Loc) = locs at hS ⊢
  have hS : va_S A s.heap H locs := by rw [← hH]; exact hS
  have C0 : CX cX8_aboard 4 (some .int) RX8 wsX8_aboard D cy p s m _ meth c A := C0
  obtain ⟨hx, hb, hr, hml, hown, hts, hK, hA, hN, hlocks⟩ := id C0
  unfold f_X8_aboard at hf
  refine lv_aload_n hx hb dX8_aboard_0 rfl (lv_at hl 0 rfl) ?_
  refine lv_aload_n hx hb dX8_aboard_1 rfl (lv_at hl 0 rfl) ?_
  refine va_get (D := D) (ci := 8) (v := .ref (qVo 0)) (C := RX8) (T := TX8) (N := 11) hx hb hts i_X8_aboard_X8 hown hK hP 0 rfl rfl 6 (by decide) (hts _ m_X8_aboard_f58) (fun _ h9 => h9) rfl dX8_aboard_2 ?_
  refine lv_iload_n hx hb dX8_aboard_5 rfl (lv_at hl 1 rfl) ?_
  refine lv_iload_n hx hb dX8_aboard_6 rfl (lv_at hl 2 rfl) ?_
  refine lv_iload_n hx hb dX8_aboard_7 rfl (lv_at hl 3 rfl) ?_
  obtain ⟨u1, eu1, hf⟩ := Option.bind_eq_some_iff.mp hf
  refine cq_i (wc' := fun (u : (Nat → Int32) × (Nat → Int32)) => (wX1 cy qHo Ho_tons Ho_worth Ho_apartBits Ho_loads Ho_room Ho_bestBits Ho_bestTons Ho_bestWorth ++ (wX6 cy qVo (qHo 0) Vo_legSmoke u.1 u.2 Vo_legs))) (ws' := fun (u : (Nat → Int32) × (Nat → Int32)) => (wX8 cy qSC (qWe 0) (qPa 0) (qHo 0) (qHb 0) (qTa 0) (qRe 0) (qVo 0) (qAg 0) (qDr 0) SC_faultPlace SC_refusedBy ++ (wX1 cy qHo Ho_tons Ho_worth Ho_apartBits Ho_loads Ho_room Ho_bestBits Ho_bestTons Ho_bestWorth ++ (wX6 cy qVo (qHo 0) Vo_legSmoke u.1 u.2 Vo_legs)))) (wc := (wX1 cy qHo Ho_tons Ho_worth Ho_apartBits Ho_loads Ho_room Ho_bestBits Ho_bestTons Ho_bestWorth ++ (wX6 cy qVo (qHo 0) Vo_legSmoke Vo_firstLeg Vo_lastLeg Vo_legs))) (wr := (wX8 cy qSC (qWe 0) (qPa 0) (qHo 0) (qHb 0) (qTa 0) (qRe 0) (qVo 0) (qAg 0) (qDr 0) SC_faultPlace SC_refusedBy)) C0 hP hD hS [1, 2, 3, 4, 5, 6, 7, 8] [0] [0, 1, 2, 3, 4, 5, 6, 7, 8] rfl rfl (by decide) (by decide) (by decide) (fun _ => rfl) (va_runV (As := [.int x1, .int x2, .int x3]) (rest := [.ref (qSC 0)]) ⟨hx, hb, hml, hown, hts⟩ (c_X6_take l D cy qHo qVo Ho_tons Ho_worth Ho_apartBits Ho_loads Ho_room Ho_bestBits Ho_bestTons Ho_bestWorth Vo_legSmoke Vo_firstLeg Vo_lastLeg Vo_legs H.size x1 x2 x3 u1 eu1) (cwV 3 hts gX8_aboard_X6_take rfl rfl rfl (by decide +kernel) ⟨Nat.le_of_ble_eq_true rfl, Nat.le_of_ble_eq_true rfl⟩) (pre_V (hP.sub (ws' := (wX1 cy qHo Ho_tons Ho_worth Ho_apartBits Ho_loads Ho_room Ho_bestBits Ho_bestTons Ho_bestWorth ++ (wX6 cy qVo (qHo 0) Vo_legSmoke Vo_firstLeg Vo_lastLeg Vo_legs))) [1, 2, 3, 4, 5, 6, 7, 8] rfl) hK (hD.sub (ws' := (wX1 cy qHo Ho_tons Ho_worth Ho_apartBits Ho_loads Ho_room Ho_bestBits Ho_bestTons Ho_bestWorth ++ (wX6 cy qVo (qHo 0) Vo_legSmoke Vo_firstLeg Vo_lastLeg Vo_legs))) [1, 2, 3, 4, 5, 6, 7, 8] (by decide) rfl) hN 6 4 rfl rfl) rfl rfl hl.1 rfl (lv_room (Nat.le_of_ble_eq_true rfl)) dX8_aboard_8 ⟨Nat.zero_le _, Nat.zero_le _⟩) (fun r u H locs hw hP hD hS => ?_)
  obtain ⟨rfl, rfl⟩ := hw
  have hP : va_P D vwCl (wX8 cy qSC (qWe 0) (qPa 0) (qHo 0) (qHb 0) (qTa 0) (qRe 0) (qVo 0) (qAg 0) (qDr 0) SC_faultPlace SC_refusedBy ++ (wX1 cy qHo Ho_tons Ho_worth Ho_apartBits Ho_loads Ho_room Ho_bestBits Ho_bestTons Ho_bestWorth ++ (wX6 cy qVo (qHo 0) Vo_legSmoke u1.2.1 u1.2.2 Vo_legs))) H := hP
  have hD : va_D A (wX8 cy qSC (qWe 0) (qPa 0) (qHo 0) (qHb 0) (qTa 0) (qRe 0) (qVo 0) (qAg 0) (qDr 0) SC_faultPlace SC_refusedBy ++ (wX1 cy qHo Ho_tons Ho_worth Ho_apartBits Ho_loads Ho_room Ho_bestBits Ho_bestTons Ho_bestWorth ++ (wX6 cy qVo (qHo 0) Vo_legSmoke u1.2.1 u1.2.2 Vo_legs))) := hD
  obtain ⟨u2, eu2, hf⟩ := Option.bind_eq_some_iff.mp hf
  refine cq_i (wc' := fun (u : (Int32)) => (wX8 cy qSC (qWe 0) (qPa 0) (qHo 0) (qHb 0) (qTa 0) (qRe 0) (qVo 0) (qAg 0) (qDr 0) SC_faultPlace u)) (ws' := fun (u : (Int32)) => (wX8 cy qSC (qWe 0) (qPa 0) (qHo 0) (qHb 0) (qTa 0) (qRe 0) (qVo 0) (qAg 0) (qDr 0) SC_faultPlace u ++ (wX1 cy qHo Ho_tons Ho_worth Ho_apartBits Ho_loads Ho_room Ho_bestBits Ho_bestTons Ho_bestWorth ++ (wX6 cy qVo (qHo 0) Vo_legSmoke u1.2.1 u1.2.2 Vo_legs)))) (wc := (wX8 cy qSC (qWe 0) (qPa 0) (qHo 0) (qHb 0) (qTa 0) (qRe 0) (qVo 0) (qAg 0) (qDr 0) SC_faultPlace SC_refusedBy)) (wr := (wX1 cy qHo Ho_tons Ho_worth Ho_apartBits Ho_loads Ho_room Ho_bestBits Ho_bestTons Ho_bestWorth ++ (wX6 cy qVo (qHo 0) Vo_legSmoke u1.2.1 u1.2.2 Vo_legs))) C0 hP hD hS [0] [1, 2, 3, 4, 5, 6, 7, 8] [8, 0, 1, 2, 3, 4, 5, 6, 7] rfl rfl (by decide) (by decide) (by decide) (fun _ => rfl) (va_runV (As := [.int u1.1]) (rest := []) ⟨hx, hb, hml, hown, hts⟩ (c_X8_answered l D cy qSC qWe qPa qHo qHb qTa qRe qVo qAg qDr SC_faultPlace SC_refusedBy H.size u1.1 u2 eu2) (cwV 1 hts gX8_aboard_X8_answered rfl rfl rfl (by decide +kernel) ⟨Nat.le_of_ble_eq_true rfl, Nat.le_of_ble_eq_true rfl⟩) (pre_V (hP.sub (ws' := (wX8 cy qSC (qWe 0) (qPa 0) (qHo 0) (qHb 0) (qTa 0) (qRe 0) (qVo 0) (qAg 0) (qDr 0) SC_faultPlace SC_refusedBy)) [0] rfl) hK (hD.sub (ws' := (wX8 cy qSC (qWe 0) (qPa 0) (qHo 0) (qHb 0) (qTa 0) (qRe 0) (qVo 0) (qAg 0) (qDr 0) SC_faultPlace SC_refusedBy)) [0] (by decide) rfl) hN 8 0 rfl rfl) rfl rfl hl.1 rfl (lv_room (Nat.le_of_ble_eq_true rfl)) dX8_aboard_11 ⟨Nat.zero_le _, Nat.zero_le _⟩) (fun r u H locs hw hP hD hS => ?_)
  obtain ⟨rfl, rfl⟩ := hw
  have hP : va_P D vwCl (wX8 cy qSC (qWe 0) (qPa 0) (qHo 0) (qHb 0) (qTa 0) (qRe 0) (qVo 0) (qAg 0) (qDr 0) SC_faultPlace u2.2 ++ (wX1 cy qHo Ho_tons Ho_worth Ho_apartBits Ho_loads Ho_room Ho_bestBits Ho_bestTons Ho_bestWorth ++ (wX6 cy qVo (qHo 0) Vo_legSmoke u1.2.1 u1.2.2 Vo_legs))) H := hP
  have hD : va_D A (wX8 cy qSC (qWe 0) (qPa 0) (qHo 0) (qHb 0) (qTa 0) (qRe 0) (qVo 0) (qAg 0) (qDr 0) SC_faultPlace u2.2 ++ (wX1 cy qHo Ho_tons Ho_worth Ho_apartBits Ho_loads Ho_room Ho_bestBits Ho_bestTons Ho_bestWorth ++ (wX6 cy qVo (qHo 0) Vo_legSmoke u1.2.1 u1.2.2 Vo_legs))) := hD
  exact rq_i C0 (u2.2, u1.2.1, u1.2.2) (pr_2 hf) hP hD hS dX8_aboard_14

theorem i_X8_part_X8 : ∀ w ∈ wsX80, w ∈ wsX8_part := by decide +kernel
theorem m_X8_part_f26 : Cond.fieldLink RX8 26 "SailCargo" "hold" "LSailCargo$Hold;" ∈ wsX8_part := by decide +kernel
theorem m_X8_part_f58 : Cond.fieldLink RX8 58 "SailCargo" "voyage" "LSailCargo$Voyage;" ∈ wsX8_part := by decide +kernel
set_option maxHeartbeats 4000000 in
set_option maxRecDepth 100000 in
theorem c_X8_part (l : Launch) (D : va_G) (cy : Nat → ClassId) (qSC qHo qVo qWe qPa qHb qTa qRe qAg qDr : Nat → Nat) (SC_faultPlace : Int32) (SC_refusedBy : Int32) (Ho_tons : Nat → Int32) (Ho_worth : Nat → Int32) (Ho_apartBits : Nat → Int32) (Ho_loads : Int32) (Ho_room : Int32) (Ho_bestBits : Int32) (Ho_bestTons : Int32) (Ho_bestWorth : Int32) (Vo_legSmoke : Nat → Int32) (Vo_firstLeg : Nat → Int32) (Vo_lastLeg : Nat → Int32) (Vo_legs : Int32) (sz : Nat) (x1 : Int32) (x2 : Int32) (X : Int32) (hf : f_X8_part Ho_tons Ho_loads Vo_legSmoke Vo_firstLeg Vo_lastLeg Vo_legs x1 x2 = some X) : Met l yX8_part wsX8_part ({ frames := 3, cells := 0, slots := 0, locals := 73 } : Room) (va_Pc [.ref (qSC 0), .int x1, .int x2] (PW D cy (wX8 cy qSC (qWe 0) (qPa 0) (qHo 0) (qHb 0) (qTa 0) (qRe 0) (qVo 0) (qAg 0) (qDr 0) SC_faultPlace SC_refusedBy ++ (wX1 cy qHo Ho_tons Ho_worth Ho_apartBits Ho_loads Ho_room Ho_bestBits Ho_bestTons Ho_bestWorth ++ (wX6 cy qVo (qHo 0) Vo_legSmoke Vo_firstLeg Vo_lastLeg Vo_legs))) sz)) (va_Qi (fun (r : Int32) (_ : Unit) => r = X) (fun u t => BW D cy (va_A (wX8 cy qSC (qWe 0) (qPa 0) (qHo 0) (qHb 0) (qTa 0) (qRe 0) (qVo 0) (qAg 0) (qDr 0) SC_faultPlace SC_refusedBy ++ (wX1 cy qHo Ho_tons Ho_worth Ho_apartBits Ho_loads Ho_room Ho_bestBits Ho_bestTons Ho_bestWorth ++ (wX6 cy qVo (qHo 0) Vo_legSmoke Vo_firstLeg Vo_lastLeg Vo_legs))) sz) (wX8 cy qSC (qWe 0) (qPa 0) (qHo 0) (qHb 0) (qTa 0) (qRe 0) (qVo 0) (qAg 0) (qDr 0) SC_faultPlace SC_refusedBy ++ (wX1 cy qHo Ho_tons Ho_worth Ho_apartBits Ho_loads Ho_room Ho_bestBits Ho_bestTons Ho_bestWorth ++ (wX6 cy qVo (qHo 0) Vo_legSmoke Vo_firstLeg Vo_lastLeg Vo_legs))) t) (va_A (wX8 cy qSC (qWe 0) (qPa 0) (qHo 0) (qHb 0) (qTa 0) (qRe 0) (qVo 0) (qAg 0) (qDr 0) SC_faultPlace SC_refusedBy ++ (wX1 cy qHo Ho_tons Ho_worth Ho_apartBits Ho_loads Ho_room Ho_bestBits Ho_bestTons Ho_bestWorth ++ (wX6 cy qVo (qHo 0) Vo_legSmoke Vo_firstLeg Vo_lastLeg Vo_legs))) sz)) 0 0 (va_A (wX8 cy qSC (qWe 0) (qPa 0) (qHo 0) (qHb 0) (qTa 0) (qRe 0) (qVo 0) (qAg 0) (qDr 0) SC_faultPlace SC_refusedBy ++ (wX1 cy qHo Ho_tons Ho_worth Ho_apartBits Ho_loads Ho_room Ho_bestBits Ho_bestTons Ho_bestWorth ++ (wX6 cy qVo (qHo 0) Vo_legSmoke Vo_firstLeg Vo_lastLeg Vo_legs))) sz) := by
  refine met_enter (Qc := fun A => (va_Qi (fun (r : Int32) (_ : Unit) => r = X) (fun u t => BW D cy A (wX8 cy qSC (qWe 0) (qPa 0) (qHo 0) (qHb 0) (qTa 0) (qRe 0) (qVo 0) (qAg 0) (qDr 0) SC_faultPlace SC_refusedBy ++ (wX1 cy qHo Ho_tons Ho_worth Ho_apartBits Ho_loads Ho_room Ho_bestBits Ho_bestTons Ho_bestWorth ++ (wX6 cy qVo (qHo 0) Vo_legSmoke Vo_firstLeg Vo_lastLeg Vo_legs))) t) A)) (lv0 := [(0, .ref (qSC 0)), (1, .int x1), (2, .int x2)]) (by decide) rfl (Nat.le_of_ble_eq_true rfl) rfl ?_
  intro p e s m below meth c A ls hnm C0 hP hD hS hl
  generalize hH : s.heap = H at hP ⊢
  generalize hLoc : ([] : List Loc) = locs at hS ⊢
  have hS : va_S A s.heap H locs := by rw [← hH]; exact hS
  have C0 : CX cX8_part 3 (some .int) RX8 wsX8_part D cy p s m _ meth c A := C0
  obtain ⟨hx, hb, hr, hml, hown, hts, hK, hA, hN, hlocks⟩ := id C0
  unfold f_X8_part at hf
  refine lv_aload_n hx hb dX8_part_0 rfl (lv_at hl 0 rfl) ?_
  refine va_get (D := D) (ci := 8) (v := .ref (qHo 0)) (C := RX8) (T := TX8) (N := 11) hx hb hts i_X8_part_X8 hown hK hP 0 rfl rfl 2 (by decide) (hts _ m_X8_part_f26) (fun _ h9 => h9) rfl dX8_part_1 ?_
  refine lv_iload_n hx hb dX8_part_4 rfl (lv_at hl 1 rfl) ?_
  obtain ⟨u1, eu1, hf⟩ := Option.bind_eq_some_iff.mp hf
  refine cq_i (wc' := fun (u : Unit) => (wX1 cy qHo Ho_tons Ho_worth Ho_apartBits Ho_loads Ho_room Ho_bestBits Ho_bestTons Ho_bestWorth)) (ws' := fun (u : Unit) => (wX8 cy qSC (qWe 0) (qPa 0) (qHo 0) (qHb 0) (qTa 0) (qRe 0) (qVo 0) (qAg 0) (qDr 0) SC_faultPlace SC_refusedBy ++ (wX1 cy qHo Ho_tons Ho_worth Ho_apartBits Ho_loads Ho_room Ho_bestBits Ho_bestTons Ho_bestWorth ++ (wX6 cy qVo (qHo 0) Vo_legSmoke Vo_firstLeg Vo_lastLeg Vo_legs)))) (wc := (wX1 cy qHo Ho_tons Ho_worth Ho_apartBits Ho_loads Ho_room Ho_bestBits Ho_bestTons Ho_bestWorth)) (wr := (wX8 cy qSC (qWe 0) (qPa 0) (qHo 0) (qHb 0) (qTa 0) (qRe 0) (qVo 0) (qAg 0) (qDr 0) SC_faultPlace SC_refusedBy ++ (wX6 cy qVo (qHo 0) Vo_legSmoke Vo_firstLeg Vo_lastLeg Vo_legs))) C0 hP hD hS [1, 2, 3, 4] [0, 5, 6, 7, 8] [0, 5, 6, 7, 8, 1, 2, 3, 4] rfl rfl (by decide) (by decide) (by decide) (fun _ => rfl) (va_runV (As := [.int x1]) (rest := []) ⟨hx, hb, hml, hown, hts⟩ (c_X1_has l D cy qHo Ho_tons Ho_worth Ho_apartBits Ho_loads Ho_room Ho_bestBits Ho_bestTons Ho_bestWorth H.size x1 u1 eu1) (cwV 1 hts gX8_part_X1_has rfl rfl rfl (by decide +kernel) ⟨Nat.le_of_ble_eq_true rfl, Nat.le_of_ble_eq_true rfl⟩) (pre_V (hP.sub (ws' := (wX1 cy qHo Ho_tons Ho_worth Ho_apartBits Ho_loads Ho_room Ho_bestBits Ho_bestTons Ho_bestWorth)) [1, 2, 3, 4] rfl) hK (hD.sub (ws' := (wX1 cy qHo Ho_tons Ho_worth Ho_apartBits Ho_loads Ho_room Ho_bestBits Ho_bestTons Ho_bestWorth)) [1, 2, 3, 4] (by decide) rfl) hN 1 0 rfl rfl) rfl rfl hl.1 rfl (lv_room (Nat.le_of_ble_eq_true rfl)) dX8_part_5 ⟨Nat.zero_le _, Nat.zero_le _⟩) (fun r u H locs hw hP hD hS => ?_)
  have hw := hw.symm
  subst hw
  have hP : va_P D vwCl (wX8 cy qSC (qWe 0) (qPa 0) (qHo 0) (qHb 0) (qTa 0) (qRe 0) (qVo 0) (qAg 0) (qDr 0) SC_faultPlace SC_refusedBy ++ (wX1 cy qHo Ho_tons Ho_worth Ho_apartBits Ho_loads Ho_room Ho_bestBits Ho_bestTons Ho_bestWorth ++ (wX6 cy qVo (qHo 0) Vo_legSmoke Vo_firstLeg Vo_lastLeg Vo_legs))) H := hP
  have hD : va_D A (wX8 cy qSC (qWe 0) (qPa 0) (qHo 0) (qHb 0) (qTa 0) (qRe 0) (qVo 0) (qAg 0) (qDr 0) SC_faultPlace SC_refusedBy ++ (wX1 cy qHo Ho_tons Ho_worth Ho_apartBits Ho_loads Ho_room Ho_bestBits Ho_bestTons Ho_bestWorth ++ (wX6 cy qVo (qHo 0) Vo_legSmoke Vo_firstLeg Vo_lastLeg Vo_legs))) := hD
  refine lv_if_eq (tgt := 22) hx hb dX8_part_8 (by decide) (fun hc2 => ?_) (fun hc2 => ?_)
  · have hf := ift hf hc2
    refine lv_iconst (v := (-1 : Int32)) hx hb dX8_part_22 (by decide) ?_
    exact rq_i C0 () (Option.some.inj hf) hP hD hS dX8_part_23
  · have hf := iff_ hf hc2
    refine lv_aload_n hx hb dX8_part_11 rfl (lv_at hl 0 rfl) ?_
    refine va_get (D := D) (ci := 8) (v := .ref (qVo 0)) (C := RX8) (T := TX8) (N := 11) hx hb hts i_X8_part_X8 hown hK hP 0 rfl rfl 6 (by decide) (hts _ m_X8_part_f58) (fun _ h9 => h9) rfl dX8_part_12 ?_
    refine lv_iload_n hx hb dX8_part_15 rfl (lv_at hl 2 rfl) ?_
    obtain ⟨u3, eu3, hf⟩ := Option.bind_eq_some_iff.mp hf
    refine cq_i (wc' := fun (u : Unit) => (wX6 cy qVo (qHo 0) Vo_legSmoke Vo_firstLeg Vo_lastLeg Vo_legs)) (ws' := fun (u : Unit) => (wX8 cy qSC (qWe 0) (qPa 0) (qHo 0) (qHb 0) (qTa 0) (qRe 0) (qVo 0) (qAg 0) (qDr 0) SC_faultPlace SC_refusedBy ++ (wX1 cy qHo Ho_tons Ho_worth Ho_apartBits Ho_loads Ho_room Ho_bestBits Ho_bestTons Ho_bestWorth ++ (wX6 cy qVo (qHo 0) Vo_legSmoke Vo_firstLeg Vo_lastLeg Vo_legs)))) (wc := (wX6 cy qVo (qHo 0) Vo_legSmoke Vo_firstLeg Vo_lastLeg Vo_legs)) (wr := (wX8 cy qSC (qWe 0) (qPa 0) (qHo 0) (qHb 0) (qTa 0) (qRe 0) (qVo 0) (qAg 0) (qDr 0) SC_faultPlace SC_refusedBy ++ (wX1 cy qHo Ho_tons Ho_worth Ho_apartBits Ho_loads Ho_room Ho_bestBits Ho_bestTons Ho_bestWorth))) C0 hP hD hS [5, 6, 7, 8] [0, 1, 2, 3, 4] [0, 1, 2, 3, 4, 5, 6, 7, 8] rfl rfl (by decide) (by decide) (by decide) (fun _ => rfl) (va_runV (As := [.int x2]) (rest := []) ⟨hx, hb, hml, hown, hts⟩ (c_X6_has l D cy qVo qHo Vo_legSmoke Vo_firstLeg Vo_lastLeg Vo_legs H.size x2 u3 eu3) (cwV 1 hts gX8_part_X6_has rfl rfl rfl (by decide +kernel) ⟨Nat.le_of_ble_eq_true rfl, Nat.le_of_ble_eq_true rfl⟩) (pre_V (hP.sub (ws' := (wX6 cy qVo (qHo 0) Vo_legSmoke Vo_firstLeg Vo_lastLeg Vo_legs)) [5, 6, 7, 8] rfl) hK (hD.sub (ws' := (wX6 cy qVo (qHo 0) Vo_legSmoke Vo_firstLeg Vo_lastLeg Vo_legs)) [5, 6, 7, 8] (by decide) rfl) hN 6 0 rfl rfl) rfl rfl hl.1 rfl (lv_room (Nat.le_of_ble_eq_true rfl)) dX8_part_16 ⟨Nat.zero_le _, Nat.zero_le _⟩) (fun r u H locs hw hP hD hS => ?_)
    have hw := hw.symm
    subst hw
    have hP : va_P D vwCl (wX8 cy qSC (qWe 0) (qPa 0) (qHo 0) (qHb 0) (qTa 0) (qRe 0) (qVo 0) (qAg 0) (qDr 0) SC_faultPlace SC_refusedBy ++ (wX1 cy qHo Ho_tons Ho_worth Ho_apartBits Ho_loads Ho_room Ho_bestBits Ho_bestTons Ho_bestWorth ++ (wX6 cy qVo (qHo 0) Vo_legSmoke Vo_firstLeg Vo_lastLeg Vo_legs))) H := hP
    have hD : va_D A (wX8 cy qSC (qWe 0) (qPa 0) (qHo 0) (qHb 0) (qTa 0) (qRe 0) (qVo 0) (qAg 0) (qDr 0) SC_faultPlace SC_refusedBy ++ (wX1 cy qHo Ho_tons Ho_worth Ho_apartBits Ho_loads Ho_room Ho_bestBits Ho_bestTons Ho_bestWorth ++ (wX6 cy qVo (qHo 0) Vo_legSmoke Vo_firstLeg Vo_lastLeg Vo_legs))) := hD
    refine lv_if_ne (tgt := 24) hx hb dX8_part_19 (by decide) (fun hc4 => ?_) (fun hc4 => ?_)
    · have hf := iff_ hf hc4
      refine lv_aload_n hx hb dX8_part_24 rfl (lv_at hl 0 rfl) ?_
      refine va_get (D := D) (ci := 8) (v := .ref (qVo 0)) (C := RX8) (T := TX8) (N := 11) hx hb hts i_X8_part_X8 hown hK hP 0 rfl rfl 6 (by decide) (hts _ m_X8_part_f58) (fun _ h9 => h9) rfl dX8_part_25 ?_
      refine lv_iload_n hx hb dX8_part_28 rfl (lv_at hl 1 rfl) ?_
      refine lv_iload_n hx hb dX8_part_29 rfl (lv_at hl 2 rfl) ?_
      obtain ⟨u5, eu5, hf⟩ := Option.bind_eq_some_iff.mp hf
      refine cq_i (wc' := fun (u : Unit) => (wX1 cy qHo Ho_tons Ho_worth Ho_apartBits Ho_loads Ho_room Ho_bestBits Ho_bestTons Ho_bestWorth ++ (wX6 cy qVo (qHo 0) Vo_legSmoke Vo_firstLeg Vo_lastLeg Vo_legs))) (ws' := fun (u : Unit) => (wX8 cy qSC (qWe 0) (qPa 0) (qHo 0) (qHb 0) (qTa 0) (qRe 0) (qVo 0) (qAg 0) (qDr 0) SC_faultPlace SC_refusedBy ++ (wX1 cy qHo Ho_tons Ho_worth Ho_apartBits Ho_loads Ho_room Ho_bestBits Ho_bestTons Ho_bestWorth ++ (wX6 cy qVo (qHo 0) Vo_legSmoke Vo_firstLeg Vo_lastLeg Vo_legs)))) (wc := (wX1 cy qHo Ho_tons Ho_worth Ho_apartBits Ho_loads Ho_room Ho_bestBits Ho_bestTons Ho_bestWorth ++ (wX6 cy qVo (qHo 0) Vo_legSmoke Vo_firstLeg Vo_lastLeg Vo_legs))) (wr := (wX8 cy qSC (qWe 0) (qPa 0) (qHo 0) (qHb 0) (qTa 0) (qRe 0) (qVo 0) (qAg 0) (qDr 0) SC_faultPlace SC_refusedBy)) C0 hP hD hS [1, 2, 3, 4, 5, 6, 7, 8] [0] [0, 1, 2, 3, 4, 5, 6, 7, 8] rfl rfl (by decide) (by decide) (by decide) (fun _ => rfl) (va_runV (As := [.int x1, .int x2]) (rest := []) ⟨hx, hb, hml, hown, hts⟩ (c_X6_partOf l D cy qHo qVo Ho_tons Ho_worth Ho_apartBits Ho_loads Ho_room Ho_bestBits Ho_bestTons Ho_bestWorth Vo_legSmoke Vo_firstLeg Vo_lastLeg Vo_legs H.size x1 x2 u5 eu5) (cwV 2 hts gX8_part_X6_partOf rfl rfl rfl (by decide +kernel) ⟨Nat.le_of_ble_eq_true rfl, Nat.le_of_ble_eq_true rfl⟩) (pre_V (hP.sub (ws' := (wX1 cy qHo Ho_tons Ho_worth Ho_apartBits Ho_loads Ho_room Ho_bestBits Ho_bestTons Ho_bestWorth ++ (wX6 cy qVo (qHo 0) Vo_legSmoke Vo_firstLeg Vo_lastLeg Vo_legs))) [1, 2, 3, 4, 5, 6, 7, 8] rfl) hK (hD.sub (ws' := (wX1 cy qHo Ho_tons Ho_worth Ho_apartBits Ho_loads Ho_room Ho_bestBits Ho_bestTons Ho_bestWorth ++ (wX6 cy qVo (qHo 0) Vo_legSmoke Vo_firstLeg Vo_lastLeg Vo_legs))) [1, 2, 3, 4, 5, 6, 7, 8] (by decide) rfl) hN 6 4 rfl rfl) rfl rfl hl.1 rfl (lv_room (Nat.le_of_ble_eq_true rfl)) dX8_part_30 ⟨Nat.zero_le _, Nat.zero_le _⟩) (fun r u H locs hw hP hD hS => ?_)
      have hw := hw.symm
      subst hw
      have hP : va_P D vwCl (wX8 cy qSC (qWe 0) (qPa 0) (qHo 0) (qHb 0) (qTa 0) (qRe 0) (qVo 0) (qAg 0) (qDr 0) SC_faultPlace SC_refusedBy ++ (wX1 cy qHo Ho_tons Ho_worth Ho_apartBits Ho_loads Ho_room Ho_bestBits Ho_bestTons Ho_bestWorth ++ (wX6 cy qVo (qHo 0) Vo_legSmoke Vo_firstLeg Vo_lastLeg Vo_legs))) H := hP
      have hD : va_D A (wX8 cy qSC (qWe 0) (qPa 0) (qHo 0) (qHb 0) (qTa 0) (qRe 0) (qVo 0) (qAg 0) (qDr 0) SC_faultPlace SC_refusedBy ++ (wX1 cy qHo Ho_tons Ho_worth Ho_apartBits Ho_loads Ho_room Ho_bestBits Ho_bestTons Ho_bestWorth ++ (wX6 cy qVo (qHo 0) Vo_legSmoke Vo_firstLeg Vo_lastLeg Vo_legs))) := hD
      exact rq_i C0 () (Option.some.inj hf) hP hD hS dX8_part_33
    · have hf := ift hf hc4
      refine lv_iconst (v := (-1 : Int32)) hx hb dX8_part_22 (by decide) ?_
      exact rq_i C0 () (Option.some.inj hf) hP hD hS dX8_part_23

theorem i_X8_smoke_X8 : ∀ w ∈ wsX80, w ∈ wsX8_smoke := by decide +kernel
theorem m_X8_smoke_f26 : Cond.fieldLink RX8 26 "SailCargo" "hold" "LSailCargo$Hold;" ∈ wsX8_smoke := by decide +kernel
theorem m_X8_smoke_f58 : Cond.fieldLink RX8 58 "SailCargo" "voyage" "LSailCargo$Voyage;" ∈ wsX8_smoke := by decide +kernel
set_option maxHeartbeats 4000000 in
set_option maxRecDepth 100000 in
theorem c_X8_smoke (l : Launch) (D : va_G) (cy : Nat → ClassId) (qSC qHo qVo qWe qPa qHb qTa qRe qAg qDr : Nat → Nat) (SC_faultPlace : Int32) (SC_refusedBy : Int32) (Ho_tons : Nat → Int32) (Ho_worth : Nat → Int32) (Ho_apartBits : Nat → Int32) (Ho_loads : Int32) (Ho_room : Int32) (Ho_bestBits : Int32) (Ho_bestTons : Int32) (Ho_bestWorth : Int32) (Vo_legSmoke : Nat → Int32) (Vo_firstLeg : Nat → Int32) (Vo_lastLeg : Nat → Int32) (Vo_legs : Int32) (sz : Nat) (x1 : Int32) (X : Int32) (hf : f_X8_smoke Ho_tons Ho_loads Vo_legSmoke Vo_firstLeg Vo_lastLeg Vo_legs x1 = some X) : Met l yX8_smoke wsX8_smoke ({ frames := 4, cells := 0, slots := 0, locals := 96 } : Room) (va_Pc [.ref (qSC 0), .int x1] (PW D cy (wX8 cy qSC (qWe 0) (qPa 0) (qHo 0) (qHb 0) (qTa 0) (qRe 0) (qVo 0) (qAg 0) (qDr 0) SC_faultPlace SC_refusedBy ++ (wX1 cy qHo Ho_tons Ho_worth Ho_apartBits Ho_loads Ho_room Ho_bestBits Ho_bestTons Ho_bestWorth ++ (wX6 cy qVo (qHo 0) Vo_legSmoke Vo_firstLeg Vo_lastLeg Vo_legs))) sz)) (va_Qi (fun (r : Int32) (_ : Unit) => r = X) (fun u t => BW D cy (va_A (wX8 cy qSC (qWe 0) (qPa 0) (qHo 0) (qHb 0) (qTa 0) (qRe 0) (qVo 0) (qAg 0) (qDr 0) SC_faultPlace SC_refusedBy ++ (wX1 cy qHo Ho_tons Ho_worth Ho_apartBits Ho_loads Ho_room Ho_bestBits Ho_bestTons Ho_bestWorth ++ (wX6 cy qVo (qHo 0) Vo_legSmoke Vo_firstLeg Vo_lastLeg Vo_legs))) sz) (wX8 cy qSC (qWe 0) (qPa 0) (qHo 0) (qHb 0) (qTa 0) (qRe 0) (qVo 0) (qAg 0) (qDr 0) SC_faultPlace SC_refusedBy ++ (wX1 cy qHo Ho_tons Ho_worth Ho_apartBits Ho_loads Ho_room Ho_bestBits Ho_bestTons Ho_bestWorth ++ (wX6 cy qVo (qHo 0) Vo_legSmoke Vo_firstLeg Vo_lastLeg Vo_legs))) t) (va_A (wX8 cy qSC (qWe 0) (qPa 0) (qHo 0) (qHb 0) (qTa 0) (qRe 0) (qVo 0) (qAg 0) (qDr 0) SC_faultPlace SC_refusedBy ++ (wX1 cy qHo Ho_tons Ho_worth Ho_apartBits Ho_loads Ho_room Ho_bestBits Ho_bestTons Ho_bestWorth ++ (wX6 cy qVo (qHo 0) Vo_legSmoke Vo_firstLeg Vo_lastLeg Vo_legs))) sz)) 0 0 (va_A (wX8 cy qSC (qWe 0) (qPa 0) (qHo 0) (qHb 0) (qTa 0) (qRe 0) (qVo 0) (qAg 0) (qDr 0) SC_faultPlace SC_refusedBy ++ (wX1 cy qHo Ho_tons Ho_worth Ho_apartBits Ho_loads Ho_room Ho_bestBits Ho_bestTons Ho_bestWorth ++ (wX6 cy qVo (qHo 0) Vo_legSmoke Vo_firstLeg Vo_lastLeg Vo_legs))) sz) := by
  refine met_enter (Qc := fun A => (va_Qi (fun (r : Int32) (_ : Unit) => r = X) (fun u t => BW D cy A (wX8 cy qSC (qWe 0) (qPa 0) (qHo 0) (qHb 0) (qTa 0) (qRe 0) (qVo 0) (qAg 0) (qDr 0) SC_faultPlace SC_refusedBy ++ (wX1 cy qHo Ho_tons Ho_worth Ho_apartBits Ho_loads Ho_room Ho_bestBits Ho_bestTons Ho_bestWorth ++ (wX6 cy qVo (qHo 0) Vo_legSmoke Vo_firstLeg Vo_lastLeg Vo_legs))) t) A)) (lv0 := [(0, .ref (qSC 0)), (1, .int x1)]) (by decide) rfl (Nat.le_of_ble_eq_true rfl) rfl ?_
  intro p e s m below meth c A ls hnm C0 hP hD hS hl
  generalize hH : s.heap = H at hP ⊢
  generalize hLoc : ([] : List Loc) = locs at hS ⊢
  have hS : va_S A s.heap H locs := by rw [← hH]; exact hS
  have C0 : CX cX8_smoke 2 (some .int) RX8 wsX8_smoke D cy p s m _ meth c A := C0
  obtain ⟨hx, hb, hr, hml, hown, hts, hK, hA, hN, hlocks⟩ := id C0
  unfold f_X8_smoke at hf
  refine lv_iload_n hx hb dX8_smoke_0 rfl (lv_at hl 1 rfl) ?_
  refine lv_iconst (v := (-1 : Int32)) hx hb dX8_smoke_1 (by decide) ?_
  refine lv_icmp_ne (tgt := 13) hx hb dX8_smoke_2 (by decide) (fun hc1 => ?_) (fun hc1 => ?_)
  · have hf := iff_ hf hc1
    refine lv_aload_n hx hb dX8_smoke_13 rfl (lv_at hl 0 rfl) ?_
    refine va_get (D := D) (ci := 8) (v := .ref (qHo 0)) (C := RX8) (T := TX8) (N := 11) hx hb hts i_X8_smoke_X8 hown hK hP 0 rfl rfl 2 (by decide) (hts _ m_X8_smoke_f26) (fun _ h9 => h9) rfl dX8_smoke_14 ?_
    refine lv_iload_n hx hb dX8_smoke_17 rfl (lv_at hl 1 rfl) ?_
    obtain ⟨u2, eu2, hf⟩ := Option.bind_eq_some_iff.mp hf
    refine cq_i (wc' := fun (u : Unit) => (wX1 cy qHo Ho_tons Ho_worth Ho_apartBits Ho_loads Ho_room Ho_bestBits Ho_bestTons Ho_bestWorth)) (ws' := fun (u : Unit) => (wX8 cy qSC (qWe 0) (qPa 0) (qHo 0) (qHb 0) (qTa 0) (qRe 0) (qVo 0) (qAg 0) (qDr 0) SC_faultPlace SC_refusedBy ++ (wX1 cy qHo Ho_tons Ho_worth Ho_apartBits Ho_loads Ho_room Ho_bestBits Ho_bestTons Ho_bestWorth ++ (wX6 cy qVo (qHo 0) Vo_legSmoke Vo_firstLeg Vo_lastLeg Vo_legs)))) (wc := (wX1 cy qHo Ho_tons Ho_worth Ho_apartBits Ho_loads Ho_room Ho_bestBits Ho_bestTons Ho_bestWorth)) (wr := (wX8 cy qSC (qWe 0) (qPa 0) (qHo 0) (qHb 0) (qTa 0) (qRe 0) (qVo 0) (qAg 0) (qDr 0) SC_faultPlace SC_refusedBy ++ (wX6 cy qVo (qHo 0) Vo_legSmoke Vo_firstLeg Vo_lastLeg Vo_legs))) C0 hP hD hS [1, 2, 3, 4] [0, 5, 6, 7, 8] [0, 5, 6, 7, 8, 1, 2, 3, 4] rfl rfl (by decide) (by decide) (by decide) (fun _ => rfl) (va_runV (As := [.int x1]) (rest := []) ⟨hx, hb, hml, hown, hts⟩ (c_X1_has l D cy qHo Ho_tons Ho_worth Ho_apartBits Ho_loads Ho_room Ho_bestBits Ho_bestTons Ho_bestWorth H.size x1 u2 eu2) (cwV 1 hts gX8_smoke_X1_has rfl rfl rfl (by decide +kernel) ⟨Nat.le_of_ble_eq_true rfl, Nat.le_of_ble_eq_true rfl⟩) (pre_V (hP.sub (ws' := (wX1 cy qHo Ho_tons Ho_worth Ho_apartBits Ho_loads Ho_room Ho_bestBits Ho_bestTons Ho_bestWorth)) [1, 2, 3, 4] rfl) hK (hD.sub (ws' := (wX1 cy qHo Ho_tons Ho_worth Ho_apartBits Ho_loads Ho_room Ho_bestBits Ho_bestTons Ho_bestWorth)) [1, 2, 3, 4] (by decide) rfl) hN 1 0 rfl rfl) rfl rfl hl.1 rfl (lv_room (Nat.le_of_ble_eq_true rfl)) dX8_smoke_18 ⟨Nat.zero_le _, Nat.zero_le _⟩) (fun r u H locs hw hP hD hS => ?_)
    have hw := hw.symm
    subst hw
    have hP : va_P D vwCl (wX8 cy qSC (qWe 0) (qPa 0) (qHo 0) (qHb 0) (qTa 0) (qRe 0) (qVo 0) (qAg 0) (qDr 0) SC_faultPlace SC_refusedBy ++ (wX1 cy qHo Ho_tons Ho_worth Ho_apartBits Ho_loads Ho_room Ho_bestBits Ho_bestTons Ho_bestWorth ++ (wX6 cy qVo (qHo 0) Vo_legSmoke Vo_firstLeg Vo_lastLeg Vo_legs))) H := hP
    have hD : va_D A (wX8 cy qSC (qWe 0) (qPa 0) (qHo 0) (qHb 0) (qTa 0) (qRe 0) (qVo 0) (qAg 0) (qDr 0) SC_faultPlace SC_refusedBy ++ (wX1 cy qHo Ho_tons Ho_worth Ho_apartBits Ho_loads Ho_room Ho_bestBits Ho_bestTons Ho_bestWorth ++ (wX6 cy qVo (qHo 0) Vo_legSmoke Vo_firstLeg Vo_lastLeg Vo_legs))) := hD
    refine lv_if_eq (tgt := 35) hx hb dX8_smoke_21 (by decide) (fun hc3 => ?_) (fun hc3 => ?_)
    · have hf := ift hf hc3
      refine lv_bipush (v := (-2 : Int32)) hx hb dX8_smoke_35 (by decide) ?_
      exact rq_i C0 () (Option.some.inj hf) hP hD hS dX8_smoke_37
    · have hf := iff_ hf hc3
      refine lv_aload_n hx hb dX8_smoke_24 rfl (lv_at hl 0 rfl) ?_
      refine va_get (D := D) (ci := 8) (v := .ref (qVo 0)) (C := RX8) (T := TX8) (N := 11) hx hb hts i_X8_smoke_X8 hown hK hP 0 rfl rfl 6 (by decide) (hts _ m_X8_smoke_f58) (fun _ h9 => h9) rfl dX8_smoke_25 ?_
      refine lv_iload_n hx hb dX8_smoke_28 rfl (lv_at hl 1 rfl) ?_
      obtain ⟨u4, eu4, hf⟩ := Option.bind_eq_some_iff.mp hf
      refine cq_i (wc' := fun (u : Unit) => (wX1 cy qHo Ho_tons Ho_worth Ho_apartBits Ho_loads Ho_room Ho_bestBits Ho_bestTons Ho_bestWorth ++ (wX6 cy qVo (qHo 0) Vo_legSmoke Vo_firstLeg Vo_lastLeg Vo_legs))) (ws' := fun (u : Unit) => (wX8 cy qSC (qWe 0) (qPa 0) (qHo 0) (qHb 0) (qTa 0) (qRe 0) (qVo 0) (qAg 0) (qDr 0) SC_faultPlace SC_refusedBy ++ (wX1 cy qHo Ho_tons Ho_worth Ho_apartBits Ho_loads Ho_room Ho_bestBits Ho_bestTons Ho_bestWorth ++ (wX6 cy qVo (qHo 0) Vo_legSmoke Vo_firstLeg Vo_lastLeg Vo_legs)))) (wc := (wX1 cy qHo Ho_tons Ho_worth Ho_apartBits Ho_loads Ho_room Ho_bestBits Ho_bestTons Ho_bestWorth ++ (wX6 cy qVo (qHo 0) Vo_legSmoke Vo_firstLeg Vo_lastLeg Vo_legs))) (wr := (wX8 cy qSC (qWe 0) (qPa 0) (qHo 0) (qHb 0) (qTa 0) (qRe 0) (qVo 0) (qAg 0) (qDr 0) SC_faultPlace SC_refusedBy)) C0 hP hD hS [1, 2, 3, 4, 5, 6, 7, 8] [0] [0, 1, 2, 3, 4, 5, 6, 7, 8] rfl rfl (by decide) (by decide) (by decide) (fun _ => rfl) (va_runV (As := [.int x1]) (rest := []) ⟨hx, hb, hml, hown, hts⟩ (c_X6_smokeOf l D cy qHo qVo Ho_tons Ho_worth Ho_apartBits Ho_loads Ho_room Ho_bestBits Ho_bestTons Ho_bestWorth Vo_legSmoke Vo_firstLeg Vo_lastLeg Vo_legs H.size x1 u4 eu4) (cwV 1 hts gX8_smoke_X6_smokeOf rfl rfl rfl (by decide +kernel) ⟨Nat.le_of_ble_eq_true rfl, Nat.le_of_ble_eq_true rfl⟩) (pre_V (hP.sub (ws' := (wX1 cy qHo Ho_tons Ho_worth Ho_apartBits Ho_loads Ho_room Ho_bestBits Ho_bestTons Ho_bestWorth ++ (wX6 cy qVo (qHo 0) Vo_legSmoke Vo_firstLeg Vo_lastLeg Vo_legs))) [1, 2, 3, 4, 5, 6, 7, 8] rfl) hK (hD.sub (ws' := (wX1 cy qHo Ho_tons Ho_worth Ho_apartBits Ho_loads Ho_room Ho_bestBits Ho_bestTons Ho_bestWorth ++ (wX6 cy qVo (qHo 0) Vo_legSmoke Vo_firstLeg Vo_lastLeg Vo_legs))) [1, 2, 3, 4, 5, 6, 7, 8] (by decide) rfl) hN 6 4 rfl rfl) rfl rfl hl.1 rfl (lv_room (Nat.le_of_ble_eq_true rfl)) dX8_smoke_29 ⟨Nat.zero_le _, Nat.zero_le _⟩) (fun r u H locs hw hP hD hS => ?_)
      have hw := hw.symm
      subst hw
      have hP : va_P D vwCl (wX8 cy qSC (qWe 0) (qPa 0) (qHo 0) (qHb 0) (qTa 0) (qRe 0) (qVo 0) (qAg 0) (qDr 0) SC_faultPlace SC_refusedBy ++ (wX1 cy qHo Ho_tons Ho_worth Ho_apartBits Ho_loads Ho_room Ho_bestBits Ho_bestTons Ho_bestWorth ++ (wX6 cy qVo (qHo 0) Vo_legSmoke Vo_firstLeg Vo_lastLeg Vo_legs))) H := hP
      have hD : va_D A (wX8 cy qSC (qWe 0) (qPa 0) (qHo 0) (qHb 0) (qTa 0) (qRe 0) (qVo 0) (qAg 0) (qDr 0) SC_faultPlace SC_refusedBy ++ (wX1 cy qHo Ho_tons Ho_worth Ho_apartBits Ho_loads Ho_room Ho_bestBits Ho_bestTons Ho_bestWorth ++ (wX6 cy qVo (qHo 0) Vo_legSmoke Vo_firstLeg Vo_lastLeg Vo_legs))) := hD
      refine lv_goto (tgt := 37) hx hb dX8_smoke_32 (by decide) ?_
      exact rq_i C0 () (Option.some.inj hf) hP hD hS dX8_smoke_37
  · have hf := ift hf hc1
    refine lv_aload_n hx hb dX8_smoke_5 rfl (lv_at hl 0 rfl) ?_
    refine va_get (D := D) (ci := 8) (v := .ref (qVo 0)) (C := RX8) (T := TX8) (N := 11) hx hb hts i_X8_smoke_X8 hown hK hP 0 rfl rfl 6 (by decide) (hts _ m_X8_smoke_f58) (fun _ h9 => h9) rfl dX8_smoke_6 ?_
    obtain ⟨u5, eu5, hf⟩ := Option.bind_eq_some_iff.mp hf
    refine cq_i (wc' := fun (u : Unit) => (wX1 cy qHo Ho_tons Ho_worth Ho_apartBits Ho_loads Ho_room Ho_bestBits Ho_bestTons Ho_bestWorth ++ (wX6 cy qVo (qHo 0) Vo_legSmoke Vo_firstLeg Vo_lastLeg Vo_legs))) (ws' := fun (u : Unit) => (wX8 cy qSC (qWe 0) (qPa 0) (qHo 0) (qHb 0) (qTa 0) (qRe 0) (qVo 0) (qAg 0) (qDr 0) SC_faultPlace SC_refusedBy ++ (wX1 cy qHo Ho_tons Ho_worth Ho_apartBits Ho_loads Ho_room Ho_bestBits Ho_bestTons Ho_bestWorth ++ (wX6 cy qVo (qHo 0) Vo_legSmoke Vo_firstLeg Vo_lastLeg Vo_legs)))) (wc := (wX1 cy qHo Ho_tons Ho_worth Ho_apartBits Ho_loads Ho_room Ho_bestBits Ho_bestTons Ho_bestWorth ++ (wX6 cy qVo (qHo 0) Vo_legSmoke Vo_firstLeg Vo_lastLeg Vo_legs))) (wr := (wX8 cy qSC (qWe 0) (qPa 0) (qHo 0) (qHb 0) (qTa 0) (qRe 0) (qVo 0) (qAg 0) (qDr 0) SC_faultPlace SC_refusedBy)) C0 hP hD hS [1, 2, 3, 4, 5, 6, 7, 8] [0] [0, 1, 2, 3, 4, 5, 6, 7, 8] rfl rfl (by decide) (by decide) (by decide) (fun _ => rfl) (va_runV (As := []) (rest := []) ⟨hx, hb, hml, hown, hts⟩ (c_X6_ownSmoke l D cy qHo qVo Ho_tons Ho_worth Ho_apartBits Ho_loads Ho_room Ho_bestBits Ho_bestTons Ho_bestWorth Vo_legSmoke Vo_firstLeg Vo_lastLeg Vo_legs H.size  u5 eu5) (cwV 0 hts gX8_smoke_X6_ownSmoke rfl rfl rfl (by decide +kernel) ⟨Nat.le_of_ble_eq_true rfl, Nat.le_of_ble_eq_true rfl⟩) (pre_V (hP.sub (ws' := (wX1 cy qHo Ho_tons Ho_worth Ho_apartBits Ho_loads Ho_room Ho_bestBits Ho_bestTons Ho_bestWorth ++ (wX6 cy qVo (qHo 0) Vo_legSmoke Vo_firstLeg Vo_lastLeg Vo_legs))) [1, 2, 3, 4, 5, 6, 7, 8] rfl) hK (hD.sub (ws' := (wX1 cy qHo Ho_tons Ho_worth Ho_apartBits Ho_loads Ho_room Ho_bestBits Ho_bestTons Ho_bestWorth ++ (wX6 cy qVo (qHo 0) Vo_legSmoke Vo_firstLeg Vo_lastLeg Vo_legs))) [1, 2, 3, 4, 5, 6, 7, 8] (by decide) rfl) hN 6 4 rfl rfl) rfl rfl hl.1 rfl (lv_room (Nat.le_of_ble_eq_true rfl)) dX8_smoke_9 ⟨Nat.zero_le _, Nat.zero_le _⟩) (fun r u H locs hw hP hD hS => ?_)
    have hw := hw.symm
    subst hw
    have hP : va_P D vwCl (wX8 cy qSC (qWe 0) (qPa 0) (qHo 0) (qHb 0) (qTa 0) (qRe 0) (qVo 0) (qAg 0) (qDr 0) SC_faultPlace SC_refusedBy ++ (wX1 cy qHo Ho_tons Ho_worth Ho_apartBits Ho_loads Ho_room Ho_bestBits Ho_bestTons Ho_bestWorth ++ (wX6 cy qVo (qHo 0) Vo_legSmoke Vo_firstLeg Vo_lastLeg Vo_legs))) H := hP
    have hD : va_D A (wX8 cy qSC (qWe 0) (qPa 0) (qHo 0) (qHb 0) (qTa 0) (qRe 0) (qVo 0) (qAg 0) (qDr 0) SC_faultPlace SC_refusedBy ++ (wX1 cy qHo Ho_tons Ho_worth Ho_apartBits Ho_loads Ho_room Ho_bestBits Ho_bestTons Ho_bestWorth ++ (wX6 cy qVo (qHo 0) Vo_legSmoke Vo_firstLeg Vo_lastLeg Vo_legs))) := hD
    exact rq_i C0 () (Option.some.inj hf) hP hD hS dX8_smoke_12

theorem i_X8_count_X8 : ∀ w ∈ wsX80, w ∈ wsX8_count := by decide +kernel
theorem m_X8_count_f10 : Cond.fieldLink RX8 10 "SailCargo" "weather" "LSailCargo$Weather;" ∈ wsX8_count := by decide +kernel
theorem i_X8_count_X7 : ∀ w ∈ wsX70, w ∈ wsX8_count := by decide +kernel
theorem m_X8_count_f26 : Cond.fieldLink RX8 26 "SailCargo" "hold" "LSailCargo$Hold;" ∈ wsX8_count := by decide +kernel
theorem i_X8_count_X1 : ∀ w ∈ wsX10, w ∈ wsX8_count := by decide +kernel
theorem m_X8_count_f33 : Cond.fieldLink RX8 33 "SailCargo" "harbour" "LSailCargo$Harbour;" ∈ wsX8_count := by decide +kernel
theorem i_X8_count_X0 : ∀ w ∈ wsX00, w ∈ wsX8_count := by decide +kernel
theorem m_X8_count_f65 : Cond.fieldLink RX8 65 "SailCargo" "agreed" "LSailCargo$Terms;" ∈ wsX8_count := by decide +kernel
theorem i_X8_count_X5 : ∀ w ∈ wsX50, w ∈ wsX8_count := by decide +kernel
theorem m_X8_count_f58 : Cond.fieldLink RX8 58 "SailCargo" "voyage" "LSailCargo$Voyage;" ∈ wsX8_count := by decide +kernel
theorem i_X8_count_X6 : ∀ w ∈ wsX60, w ∈ wsX8_count := by decide +kernel
theorem m_X8_count_f40 : Cond.fieldLink RX8 40 "SailCargo" "tape" "LSailCargo$Tape;" ∈ wsX8_count := by decide +kernel
theorem i_X8_count_X4 : ∀ w ∈ wsX40, w ∈ wsX8_count := by decide +kernel
set_option maxHeartbeats 4000000 in
set_option maxRecDepth 100000 in
theorem c_X8_count (l : Launch) (D : va_G) (cy : Nat → ClassId) (qSC qHb qHo qTa qAg qVo qWe qPa qRe qDr : Nat → Nat) (SC_faultPlace : Int32) (SC_refusedBy : Int32) (Hb_berthsOf : Nat → Int32) (Hb_port : Nat → Int32) (Hb_berth : Nat → Int32) (Hb_first : Nat → Int32) (Hb_last : Nat → Int32) (Hb_isGivenUp : Nat → Int32) (Hb_told : Int32) (Hb_held : Int32) (Ho_tons : Nat → Int32) (Ho_worth : Nat → Int32) (Ho_apartBits : Nat → Int32) (Ho_loads : Int32) (Ho_room : Int32) (Ho_bestBits : Int32) (Ho_bestTons : Int32) (Ho_bestWorth : Int32) (Ta_bytes : Nat → Int32) (Ta_length : Int32) (Ag_kind : Nat → Int32) (Ag_amount : Nat → Int32) (Ag_mark : Nat → Int32) (Ag_clauses : Int32) (Vo_legSmoke : Nat → Int32) (Vo_firstLeg : Nat → Int32) (Vo_lastLeg : Nat → Int32) (Vo_legs : Int32) (We_weights : Nat → Int32) (We_knownFrom : Nat → Int32) (We_told : Int32) (sz : Nat) (x1 : Int32) (X : Int32) (hf : f_X8_count Hb_told Hb_held Ho_loads Ta_length Ag_clauses Vo_legs We_told x1 = some X) : Met l yX8_count wsX8_count ({ frames := 0, cells := 0, slots := 0, locals := 0 } : Room) (va_Pc [.ref (qSC 0), .int x1] (PW D cy (wX8 cy qSC (qWe 0) (qPa 0) (qHo 0) (qHb 0) (qTa 0) (qRe 0) (qVo 0) (qAg 0) (qDr 0) SC_faultPlace SC_refusedBy ++ (wX0 cy qHb Hb_berthsOf Hb_port Hb_berth Hb_first Hb_last Hb_isGivenUp Hb_told Hb_held ++ (wX1 cy qHo Ho_tons Ho_worth Ho_apartBits Ho_loads Ho_room Ho_bestBits Ho_bestTons Ho_bestWorth ++ (wX4 cy qTa Ta_bytes Ta_length ++ (wX5 cy qAg Ag_kind Ag_amount Ag_mark Ag_clauses ++ (wX6 cy qVo (qHo 0) Vo_legSmoke Vo_firstLeg Vo_lastLeg Vo_legs ++ (wX7 cy qWe We_weights We_knownFrom We_told))))))) sz)) (va_Qi (fun (r : Int32) (_ : Unit) => r = X) (fun u t => BW D cy (va_A (wX8 cy qSC (qWe 0) (qPa 0) (qHo 0) (qHb 0) (qTa 0) (qRe 0) (qVo 0) (qAg 0) (qDr 0) SC_faultPlace SC_refusedBy ++ (wX0 cy qHb Hb_berthsOf Hb_port Hb_berth Hb_first Hb_last Hb_isGivenUp Hb_told Hb_held ++ (wX1 cy qHo Ho_tons Ho_worth Ho_apartBits Ho_loads Ho_room Ho_bestBits Ho_bestTons Ho_bestWorth ++ (wX4 cy qTa Ta_bytes Ta_length ++ (wX5 cy qAg Ag_kind Ag_amount Ag_mark Ag_clauses ++ (wX6 cy qVo (qHo 0) Vo_legSmoke Vo_firstLeg Vo_lastLeg Vo_legs ++ (wX7 cy qWe We_weights We_knownFrom We_told))))))) sz) (wX8 cy qSC (qWe 0) (qPa 0) (qHo 0) (qHb 0) (qTa 0) (qRe 0) (qVo 0) (qAg 0) (qDr 0) SC_faultPlace SC_refusedBy ++ (wX0 cy qHb Hb_berthsOf Hb_port Hb_berth Hb_first Hb_last Hb_isGivenUp Hb_told Hb_held ++ (wX1 cy qHo Ho_tons Ho_worth Ho_apartBits Ho_loads Ho_room Ho_bestBits Ho_bestTons Ho_bestWorth ++ (wX4 cy qTa Ta_bytes Ta_length ++ (wX5 cy qAg Ag_kind Ag_amount Ag_mark Ag_clauses ++ (wX6 cy qVo (qHo 0) Vo_legSmoke Vo_firstLeg Vo_lastLeg Vo_legs ++ (wX7 cy qWe We_weights We_knownFrom We_told))))))) t) (va_A (wX8 cy qSC (qWe 0) (qPa 0) (qHo 0) (qHb 0) (qTa 0) (qRe 0) (qVo 0) (qAg 0) (qDr 0) SC_faultPlace SC_refusedBy ++ (wX0 cy qHb Hb_berthsOf Hb_port Hb_berth Hb_first Hb_last Hb_isGivenUp Hb_told Hb_held ++ (wX1 cy qHo Ho_tons Ho_worth Ho_apartBits Ho_loads Ho_room Ho_bestBits Ho_bestTons Ho_bestWorth ++ (wX4 cy qTa Ta_bytes Ta_length ++ (wX5 cy qAg Ag_kind Ag_amount Ag_mark Ag_clauses ++ (wX6 cy qVo (qHo 0) Vo_legSmoke Vo_firstLeg Vo_lastLeg Vo_legs ++ (wX7 cy qWe We_weights We_knownFrom We_told))))))) sz)) 0 0 (va_A (wX8 cy qSC (qWe 0) (qPa 0) (qHo 0) (qHb 0) (qTa 0) (qRe 0) (qVo 0) (qAg 0) (qDr 0) SC_faultPlace SC_refusedBy ++ (wX0 cy qHb Hb_berthsOf Hb_port Hb_berth Hb_first Hb_last Hb_isGivenUp Hb_told Hb_held ++ (wX1 cy qHo Ho_tons Ho_worth Ho_apartBits Ho_loads Ho_room Ho_bestBits Ho_bestTons Ho_bestWorth ++ (wX4 cy qTa Ta_bytes Ta_length ++ (wX5 cy qAg Ag_kind Ag_amount Ag_mark Ag_clauses ++ (wX6 cy qVo (qHo 0) Vo_legSmoke Vo_firstLeg Vo_lastLeg Vo_legs ++ (wX7 cy qWe We_weights We_knownFrom We_told))))))) sz) := by
  refine met_enter (Qc := fun A => (va_Qi (fun (r : Int32) (_ : Unit) => r = X) (fun u t => BW D cy A (wX8 cy qSC (qWe 0) (qPa 0) (qHo 0) (qHb 0) (qTa 0) (qRe 0) (qVo 0) (qAg 0) (qDr 0) SC_faultPlace SC_refusedBy ++ (wX0 cy qHb Hb_berthsOf Hb_port Hb_berth Hb_first Hb_last Hb_isGivenUp Hb_told Hb_held ++ (wX1 cy qHo Ho_tons Ho_worth Ho_apartBits Ho_loads Ho_room Ho_bestBits Ho_bestTons Ho_bestWorth ++ (wX4 cy qTa Ta_bytes Ta_length ++ (wX5 cy qAg Ag_kind Ag_amount Ag_mark Ag_clauses ++ (wX6 cy qVo (qHo 0) Vo_legSmoke Vo_firstLeg Vo_lastLeg Vo_legs ++ (wX7 cy qWe We_weights We_knownFrom We_told))))))) t) A)) (lv0 := [(0, .ref (qSC 0)), (1, .int x1)]) (by decide) rfl (Nat.le_of_ble_eq_true rfl) rfl ?_
  intro p e s m below meth c A ls hnm C0 hP hD hS hl
  generalize hH : s.heap = H at hP ⊢
  generalize hLoc : ([] : List Loc) = locs at hS ⊢
  have hS : va_S A s.heap H locs := by rw [← hH]; exact hS
  have C0 : CX cX8_count 2 (some .int) RX8 wsX8_count D cy p s m _ meth c A := C0
  obtain ⟨hx, hb, hr, hml, hown, hts, hK, hA, hN, hlocks⟩ := id C0
  unfold f_X8_count at hf
  refine lv_iload_n hx hb dX8_count_0 rfl (lv_at hl 1 rfl) ?_
  by_cases hc1 : x1 = (0 : Int32)
  · have hf := ift hf hc1
    refine lv_tableIn (off := 43) (tgt := 44) hx hb dX8_count_1 (by rw [hc1]; decide) (by rw [hc1]; decide) (by rw [hc1]; decide) (by decide) ?_
    refine lv_aload_n hx hb dX8_count_44 rfl (lv_at hl 0 rfl) ?_
    refine va_get (D := D) (ci := 8) (v := .ref (qWe 0)) (C := RX8) (T := TX8) (N := 11) hx hb hts i_X8_count_X8 hown hK hP 0 rfl rfl 0 (by decide) (hts _ m_X8_count_f10) (fun _ h9 => h9) rfl dX8_count_45 ?_
    refine va_getN (D := D) (ci := 7) (v := .int We_told) (C := RX7) (T := TX7) (N := 3) hx hb hts i_X8_count_X7 hown hK hP 22 rfl rfl 2 (by decide) (va_Nw.use rfl (hN _ nw_X8_209)) (fun _ h9 => h9) rfl dX8_count_48 ?_
    exact rq_i C0 () (Option.some.inj hf) hP hD hS dX8_count_51
  · have hf := iff_ hf hc1
    by_cases hc2 : x1 = (1 : Int32)
    · have hf := ift hf hc2
      refine lv_tableIn (off := 51) (tgt := 52) hx hb dX8_count_1 (by rw [hc2]; decide) (by rw [hc2]; decide) (by rw [hc2]; decide) (by decide) ?_
      refine lv_aload_n hx hb dX8_count_52 rfl (lv_at hl 0 rfl) ?_
      refine va_get (D := D) (ci := 8) (v := .ref (qHo 0)) (C := RX8) (T := TX8) (N := 11) hx hb hts i_X8_count_X8 hown hK hP 0 rfl rfl 2 (by decide) (hts _ m_X8_count_f26) (fun _ h9 => h9) rfl dX8_count_53 ?_
      refine va_getN (D := D) (ci := 1) (v := .int Ho_loads) (C := RX1) (T := TX1) (N := 8) hx hb hts i_X8_count_X1 hown hK hP 8 rfl rfl 3 (by decide) (va_Nw.use rfl (hN _ nw_X8_212)) (fun _ h9 => h9) rfl dX8_count_56 ?_
      exact rq_i C0 () (Option.some.inj hf) hP hD hS dX8_count_59
    · have hf := iff_ hf hc2
      by_cases hc3 : x1 = (2 : Int32)
      · have hf := ift hf hc3
        refine lv_tableIn (off := 59) (tgt := 60) hx hb dX8_count_1 (by rw [hc3]; decide) (by rw [hc3]; decide) (by rw [hc3]; decide) (by decide) ?_
        refine lv_aload_n hx hb dX8_count_60 rfl (lv_at hl 0 rfl) ?_
        refine va_get (D := D) (ci := 8) (v := .ref (qHb 0)) (C := RX8) (T := TX8) (N := 11) hx hb hts i_X8_count_X8 hown hK hP 0 rfl rfl 3 (by decide) (hts _ m_X8_count_f33) (fun _ h9 => h9) rfl dX8_count_61 ?_
        refine va_getN (D := D) (ci := 0) (v := .int Hb_told) (C := RX0) (T := TX0) (N := 8) hx hb hts i_X8_count_X0 hown hK hP 1 rfl rfl 6 (by decide) (va_Nw.use rfl (hN _ nw_X8_215)) (fun _ h9 => h9) rfl dX8_count_64 ?_
        exact rq_i C0 () (Option.some.inj hf) hP hD hS dX8_count_67
      · have hf := iff_ hf hc3
        by_cases hc4 : x1 = (3 : Int32)
        · have hf := ift hf hc4
          refine lv_tableIn (off := 67) (tgt := 68) hx hb dX8_count_1 (by rw [hc4]; decide) (by rw [hc4]; decide) (by rw [hc4]; decide) (by decide) ?_
          refine lv_aload_n hx hb dX8_count_68 rfl (lv_at hl 0 rfl) ?_
          refine va_get (D := D) (ci := 8) (v := .ref (qAg 0)) (C := RX8) (T := TX8) (N := 11) hx hb hts i_X8_count_X8 hown hK hP 0 rfl rfl 7 (by decide) (hts _ m_X8_count_f65) (fun _ h9 => h9) rfl dX8_count_69 ?_
          refine va_getN (D := D) (ci := 5) (v := .int Ag_clauses) (C := RX5) (T := TX5) (N := 4) hx hb hts i_X8_count_X5 hown hK hP 14 rfl rfl 3 (by decide) (va_Nw.use rfl (hN _ nw_X8_180)) (fun _ h9 => h9) rfl dX8_count_72 ?_
          exact rq_i C0 () (Option.some.inj hf) hP hD hS dX8_count_75
        · have hf := iff_ hf hc4
          by_cases hc5 : x1 = (4 : Int32)
          · have hf := ift hf hc5
            refine lv_tableIn (off := 75) (tgt := 76) hx hb dX8_count_1 (by rw [hc5]; decide) (by rw [hc5]; decide) (by rw [hc5]; decide) (by decide) ?_
            refine lv_aload_n hx hb dX8_count_76 rfl (lv_at hl 0 rfl) ?_
            refine va_get (D := D) (ci := 8) (v := .ref (qVo 0)) (C := RX8) (T := TX8) (N := 11) hx hb hts i_X8_count_X8 hown hK hP 0 rfl rfl 6 (by decide) (hts _ m_X8_count_f58) (fun _ h9 => h9) rfl dX8_count_77 ?_
            refine va_getN (D := D) (ci := 6) (v := .int Vo_legs) (C := RX6) (T := TX6) (N := 5) hx hb hts i_X8_count_X6 hown hK hP 18 rfl rfl 4 (by decide) (va_Nw.use rfl (hN _ nw_X8_216)) (fun _ h9 => h9) rfl dX8_count_80 ?_
            exact rq_i C0 () (Option.some.inj hf) hP hD hS dX8_count_83
          · have hf := iff_ hf hc5
            by_cases hc6 : x1 = (5 : Int32)
            · have hf := ift hf hc6
              refine lv_tableIn (off := 83) (tgt := 84) hx hb dX8_count_1 (by rw [hc6]; decide) (by rw [hc6]; decide) (by rw [hc6]; decide) (by decide) ?_
              refine lv_aload_n hx hb dX8_count_84 rfl (lv_at hl 0 rfl) ?_
              refine va_get (D := D) (ci := 8) (v := .ref (qTa 0)) (C := RX8) (T := TX8) (N := 11) hx hb hts i_X8_count_X8 hown hK hP 0 rfl rfl 4 (by decide) (hts _ m_X8_count_f40) (fun _ h9 => h9) rfl dX8_count_85 ?_
              refine va_getN (D := D) (ci := 4) (v := .int Ta_length) (C := RX4) (T := TX4) (N := 2) hx hb hts i_X8_count_X4 hown hK hP 12 rfl rfl 1 (by decide) (va_Nw.use rfl (hN _ nw_X8_173)) (fun _ h9 => h9) rfl dX8_count_88 ?_
              exact rq_i C0 () (Option.some.inj hf) hP hD hS dX8_count_91
            · have hf := iff_ hf hc6
              by_cases hc7 : x1 = (6 : Int32)
              · have hf := ift hf hc7
                refine lv_tableIn (off := 91) (tgt := 92) hx hb dX8_count_1 (by rw [hc7]; decide) (by rw [hc7]; decide) (by rw [hc7]; decide) (by decide) ?_
                refine lv_aload_n hx hb dX8_count_92 rfl (lv_at hl 0 rfl) ?_
                refine va_get (D := D) (ci := 8) (v := .ref (qHb 0)) (C := RX8) (T := TX8) (N := 11) hx hb hts i_X8_count_X8 hown hK hP 0 rfl rfl 3 (by decide) (hts _ m_X8_count_f33) (fun _ h9 => h9) rfl dX8_count_93 ?_
                refine va_getN (D := D) (ci := 0) (v := .int Hb_held) (C := RX0) (T := TX0) (N := 8) hx hb hts i_X8_count_X0 hown hK hP 1 rfl rfl 7 (by decide) (va_Nw.use rfl (hN _ nw_X8_219)) (fun _ h9 => h9) rfl dX8_count_96 ?_
                exact rq_i C0 () (Option.some.inj hf) hP hD hS dX8_count_99
              · have hf := iff_ hf hc7
                refine lv_tableOut (tgt := 100) hx hb dX8_count_1 (by have n0 := lv_neT hc1 (a := 0) (by decide); have n1 := lv_neT hc2 (a := 1) (by decide); have n2 := lv_neT hc3 (a := 2) (by decide); have n3 := lv_neT hc4 (a := 3) (by decide); have n4 := lv_neT hc5 (a := 4) (by decide); have n5 := lv_neT hc6 (a := 5) (by decide); have n6 := lv_neT hc7 (a := 6) (by decide); omega) (by decide) ?_
                refine lv_iconst (v := (-1 : Int32)) hx hb dX8_count_100 (by decide) ?_
                exact rq_i C0 () (Option.some.inj hf) hP hD hS dX8_count_101

theorem i_X8_status_X8 : ∀ w ∈ wsX80, w ∈ wsX8_status := by decide +kernel
theorem m_X8_status_f76 : Cond.fieldLink RX8 76 "SailCargo" "refusedBy" "I" ∈ wsX8_status := by decide +kernel
set_option maxHeartbeats 4000000 in
set_option maxRecDepth 100000 in
theorem c_X8_status (l : Launch) (D : va_G) (cy : Nat → ClassId) (qSC qWe qPa qHo qHb qTa qRe qVo qAg qDr : Nat → Nat) (SC_faultPlace : Int32) (SC_refusedBy : Int32) (sz : Nat)  (X : Int32) (hf : f_X8_status SC_refusedBy = some X) : Met l yX8_status wsX8_status ({ frames := 0, cells := 0, slots := 0, locals := 0 } : Room) (va_Pc [.ref (qSC 0)] (PW D cy (wX8 cy qSC (qWe 0) (qPa 0) (qHo 0) (qHb 0) (qTa 0) (qRe 0) (qVo 0) (qAg 0) (qDr 0) SC_faultPlace SC_refusedBy) sz)) (va_Qi (fun (r : Int32) (_ : Unit) => r = X) (fun u t => BW D cy (va_A (wX8 cy qSC (qWe 0) (qPa 0) (qHo 0) (qHb 0) (qTa 0) (qRe 0) (qVo 0) (qAg 0) (qDr 0) SC_faultPlace SC_refusedBy) sz) (wX8 cy qSC (qWe 0) (qPa 0) (qHo 0) (qHb 0) (qTa 0) (qRe 0) (qVo 0) (qAg 0) (qDr 0) SC_faultPlace SC_refusedBy) t) (va_A (wX8 cy qSC (qWe 0) (qPa 0) (qHo 0) (qHb 0) (qTa 0) (qRe 0) (qVo 0) (qAg 0) (qDr 0) SC_faultPlace SC_refusedBy) sz)) 0 0 (va_A (wX8 cy qSC (qWe 0) (qPa 0) (qHo 0) (qHb 0) (qTa 0) (qRe 0) (qVo 0) (qAg 0) (qDr 0) SC_faultPlace SC_refusedBy) sz) := by
  refine met_enter (Qc := fun A => (va_Qi (fun (r : Int32) (_ : Unit) => r = X) (fun u t => BW D cy A (wX8 cy qSC (qWe 0) (qPa 0) (qHo 0) (qHb 0) (qTa 0) (qRe 0) (qVo 0) (qAg 0) (qDr 0) SC_faultPlace SC_refusedBy) t) A)) (lv0 := [(0, .ref (qSC 0))]) (by decide) rfl (Nat.le_of_ble_eq_true rfl) rfl ?_
  intro p e s m below meth c A ls hnm C0 hP hD hS hl
  generalize hH : s.heap = H at hP ⊢
  generalize hLoc : ([] : List Loc) = locs at hS ⊢
  have hS : va_S A s.heap H locs := by rw [← hH]; exact hS
  have C0 : CX cX8_status 1 (some .int) RX8 wsX8_status D cy p s m _ meth c A := C0
  obtain ⟨hx, hb, hr, hml, hown, hts, hK, hA, hN, hlocks⟩ := id C0
  unfold f_X8_status at hf
  refine lv_aload_n hx hb dX8_status_0 rfl (lv_at hl 0 rfl) ?_
  refine va_get (D := D) (ci := 8) (v := .int SC_refusedBy) (C := RX8) (T := TX8) (N := 11) hx hb hts i_X8_status_X8 hown hK hP 0 rfl rfl 10 (by decide) (hts _ m_X8_status_f76) (fun _ h9 => h9) rfl dX8_status_1 ?_
  exact rq_i C0 () (Option.some.inj hf) hP hD hS dX8_status_4

