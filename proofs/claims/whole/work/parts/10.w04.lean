theorem m_X7_tell_s_X8_isKnownDay : Cond.static yX8_isKnownDay ∈ wsX7_tell := by decide +kernel
theorem m_X7_tell_i_X8 : Cond.initialized RX8 ∈ wsX7_tell := by decide +kernel
theorem i_X7_tell_X7 : ∀ w ∈ wsX70, w ∈ wsX7_tell := by decide +kernel
theorem m_X7_tell_f25 : Cond.fieldLink RX7 25 "SailCargo$Weather" "told" "I" ∈ wsX7_tell := by decide +kernel
theorem m_X7_tell_f11 : Cond.fieldLink RX7 11 "SailCargo$Weather" "weights" "[I" ∈ wsX7_tell := by decide +kernel
theorem m_X7_tell_f15 : Cond.fieldLink RX7 15 "SailCargo$Weather" "knownFrom" "[I" ∈ wsX7_tell := by decide +kernel
set_option maxHeartbeats 4000000 in
set_option maxRecDepth 100000 in
theorem c_X7_tell (l : Launch) (D : va_G) (cy : Nat → ClassId) (qWe : Nat → Nat) (We_weights : Nat → Int32) (We_knownFrom : Nat → Int32) (We_told : Int32) (sz : Nat) (x1 : Int32) (x2 : Int32) (x3 : Int32) (x4 : Int32) (x5 : Int32) (X : Int32 × (Nat → Int32) × (Nat → Int32) × (Int32)) (hf : f_X7_tell We_weights We_knownFrom We_told x1 x2 x3 x4 x5 = some X) : Met l yX7_tell wsX7_tell ({ frames := 2, cells := 0, slots := 0, locals := 42 } : Room) (va_Pc [.ref (qWe 0), .int x1, .int x2, .int x3, .int x4, .int x5] (PW D cy (wX7 cy qWe We_weights We_knownFrom We_told) sz)) (va_Qi (fun (r : Int32) (u : (Nat → Int32) × (Nat → Int32) × (Int32)) => r = X.1 ∧ u = X.2) (fun u t => BW D cy (va_A (wX7 cy qWe We_weights We_knownFrom We_told) sz) (wX7 cy qWe u.1 u.2.1 u.2.2) t) (va_A (wX7 cy qWe We_weights We_knownFrom We_told) sz)) 0 0 (va_A (wX7 cy qWe We_weights We_knownFrom We_told) sz) := by
  refine met_enter (Qc := fun A => (va_Qi (fun (r : Int32) (u : (Nat → Int32) × (Nat → Int32) × (Int32)) => r = X.1 ∧ u = X.2) (fun u t => BW D cy A (wX7 cy qWe u.1 u.2.1 u.2.2) t) A)) (lv0 := [(0, .ref (qWe 0)), (1, .int x1), (2, .int x2), (3, .int x3), (4, .int x4), (5, .int x5)]) (by decide) rfl (Nat.le_of_ble_eq_true rfl) rfl ?_
  intro p e s m below meth c A ls hnm C0 hP hD hS hl
  generalize hH : s.heap = H at hP ⊢
  generalize hLoc : ([] : List Loc) = locs at hS ⊢
  have hS : va_S A s.heap H locs := by rw [← hH]; exact hS
  have C0 : CX cX7_tell 7 (some .int) RX7 wsX7_tell D cy p s m _ meth c A := C0
  obtain ⟨hx, hb, hr, hml, hown, hts, hK, hA, hN, hlocks⟩ := id C0
  unfold f_X7_tell at hf
  refine lv_iload_n hx hb dX7_tell_0 rfl (lv_at hl 1 rfl) ?_
  obtain ⟨u1, eu1, hf⟩ := Option.bind_eq_some_iff.mp hf
  refine cq_i (wc' := fun (u : Unit) => ([] : va_W)) (ws' := fun (u : Unit) => (wX7 cy qWe We_weights We_knownFrom We_told)) (wc := ([] : va_W)) (wr := (wX7 cy qWe We_weights We_knownFrom We_told)) C0 hP hD hS [] [0, 1, 2] [0, 1, 2] rfl rfl (by decide) (by decide) (by decide) (fun _ => rfl) (va_runS (As := [.int x1]) (rest := []) ⟨hx, hb, hml, hown, hts⟩ (c_X7_isWeight l D cy   H.size x1 u1 eu1) (va_cwS 1 hts gX7_tell_X7_isWeight rfl rfl rfl (by decide +kernel) ⟨Nat.le_of_ble_eq_true rfl, Nat.le_of_ble_eq_true rfl⟩) (pre_S (hP.sub (ws' := ([] : va_W)) [] rfl) hK (hD.sub (ws' := ([] : va_W)) [] (by decide) rfl) hN) rfl rfl hl.1 rfl (lv_room (Nat.le_of_ble_eq_true rfl)) dX7_tell_1 ⟨Nat.zero_le _, Nat.zero_le _⟩) (fun r u H locs hw hP hD hS => ?_)
  have hw := hw.symm
  subst hw
  have hP : va_P D vwCl (wX7 cy qWe We_weights We_knownFrom We_told) H := hP
  have hD : va_D A (wX7 cy qWe We_weights We_knownFrom We_told) := hD
  refine lv_if_eq (tgt := 50) hx hb dX7_tell_4 (by decide) (fun hc2 => ?_) (fun hc2 => ?_)
  · have hf := ift hf hc2
    refine lv_iconst (v := (-1 : Int32)) hx hb dX7_tell_50 (by decide) ?_
    exact rq_i C0 (We_weights, We_knownFrom, We_told) (pr_2 hf) hP hD hS dX7_tell_51
  · have hf := iff_ hf hc2
    refine lv_iload_n hx hb dX7_tell_7 rfl (lv_at hl 2 rfl) ?_
    obtain ⟨u3, eu3, hf⟩ := Option.bind_eq_some_iff.mp hf
    refine cq_i (wc' := fun (u : Unit) => ([] : va_W)) (ws' := fun (u : Unit) => (wX7 cy qWe We_weights We_knownFrom We_told)) (wc := ([] : va_W)) (wr := (wX7 cy qWe We_weights We_knownFrom We_told)) C0 hP hD hS [] [0, 1, 2] [0, 1, 2] rfl rfl (by decide) (by decide) (by decide) (fun _ => rfl) (va_runS (As := [.int x2]) (rest := []) ⟨hx, hb, hml, hown, hts⟩ (c_X7_isWeight l D cy   H.size x2 u3 eu3) (va_cwS 1 hts gX7_tell_X7_isWeight rfl rfl rfl (by decide +kernel) ⟨Nat.le_of_ble_eq_true rfl, Nat.le_of_ble_eq_true rfl⟩) (pre_S (hP.sub (ws' := ([] : va_W)) [] rfl) hK (hD.sub (ws' := ([] : va_W)) [] (by decide) rfl) hN) rfl rfl hl.1 rfl (lv_room (Nat.le_of_ble_eq_true rfl)) dX7_tell_8 ⟨Nat.zero_le _, Nat.zero_le _⟩) (fun r u H locs hw hP hD hS => ?_)
    have hw := hw.symm
    subst hw
    have hP : va_P D vwCl (wX7 cy qWe We_weights We_knownFrom We_told) H := hP
    have hD : va_D A (wX7 cy qWe We_weights We_knownFrom We_told) := hD
    refine lv_if_eq (tgt := 50) hx hb dX7_tell_11 (by decide) (fun hc4 => ?_) (fun hc4 => ?_)
    · have hf := ift hf hc4
      refine lv_iconst (v := (-1 : Int32)) hx hb dX7_tell_50 (by decide) ?_
      exact rq_i C0 (We_weights, We_knownFrom, We_told) (pr_2 hf) hP hD hS dX7_tell_51
    · have hf := iff_ hf hc4
      refine lv_iload_n hx hb dX7_tell_14 rfl (lv_at hl 3 rfl) ?_
      obtain ⟨u5, eu5, hf⟩ := Option.bind_eq_some_iff.mp hf
      refine cq_i (wc' := fun (u : Unit) => ([] : va_W)) (ws' := fun (u : Unit) => (wX7 cy qWe We_weights We_knownFrom We_told)) (wc := ([] : va_W)) (wr := (wX7 cy qWe We_weights We_knownFrom We_told)) C0 hP hD hS [] [0, 1, 2] [0, 1, 2] rfl rfl (by decide) (by decide) (by decide) (fun _ => rfl) (va_runS (As := [.int x3]) (rest := []) ⟨hx, hb, hml, hown, hts⟩ (c_X7_isWeight l D cy   H.size x3 u5 eu5) (va_cwS 1 hts gX7_tell_X7_isWeight rfl rfl rfl (by decide +kernel) ⟨Nat.le_of_ble_eq_true rfl, Nat.le_of_ble_eq_true rfl⟩) (pre_S (hP.sub (ws' := ([] : va_W)) [] rfl) hK (hD.sub (ws' := ([] : va_W)) [] (by decide) rfl) hN) rfl rfl hl.1 rfl (lv_room (Nat.le_of_ble_eq_true rfl)) dX7_tell_15 ⟨Nat.zero_le _, Nat.zero_le _⟩) (fun r u H locs hw hP hD hS => ?_)
      have hw := hw.symm
      subst hw
      have hP : va_P D vwCl (wX7 cy qWe We_weights We_knownFrom We_told) H := hP
      have hD : va_D A (wX7 cy qWe We_weights We_knownFrom We_told) := hD
      refine lv_if_eq (tgt := 50) hx hb dX7_tell_18 (by decide) (fun hc6 => ?_) (fun hc6 => ?_)
      · have hf := ift hf hc6
        refine lv_iconst (v := (-1 : Int32)) hx hb dX7_tell_50 (by decide) ?_
        exact rq_i C0 (We_weights, We_knownFrom, We_told) (pr_2 hf) hP hD hS dX7_tell_51
      · have hf := iff_ hf hc6
        refine lv_iload hx hb dX7_tell_21 (lv_at hl 4 rfl) ?_
        obtain ⟨u7, eu7, hf⟩ := Option.bind_eq_some_iff.mp hf
        refine cq_i (wc' := fun (u : Unit) => ([] : va_W)) (ws' := fun (u : Unit) => (wX7 cy qWe We_weights We_knownFrom We_told)) (wc := ([] : va_W)) (wr := (wX7 cy qWe We_weights We_knownFrom We_told)) C0 hP hD hS [] [0, 1, 2] [0, 1, 2] rfl rfl (by decide) (by decide) (by decide) (fun _ => rfl) (va_runS (As := [.int x4]) (rest := []) ⟨hx, hb, hml, hown, hts⟩ (c_X7_isWeight l D cy   H.size x4 u7 eu7) (va_cwS 1 hts gX7_tell_X7_isWeight rfl rfl rfl (by decide +kernel) ⟨Nat.le_of_ble_eq_true rfl, Nat.le_of_ble_eq_true rfl⟩) (pre_S (hP.sub (ws' := ([] : va_W)) [] rfl) hK (hD.sub (ws' := ([] : va_W)) [] (by decide) rfl) hN) rfl rfl hl.1 rfl (lv_room (Nat.le_of_ble_eq_true rfl)) dX7_tell_23 ⟨Nat.zero_le _, Nat.zero_le _⟩) (fun r u H locs hw hP hD hS => ?_)
        have hw := hw.symm
        subst hw
        have hP : va_P D vwCl (wX7 cy qWe We_weights We_knownFrom We_told) H := hP
        have hD : va_D A (wX7 cy qWe We_weights We_knownFrom We_told) := hD
        refine lv_if_eq (tgt := 50) hx hb dX7_tell_26 (by decide) (fun hc8 => ?_) (fun hc8 => ?_)
        · have hf := ift hf hc8
          refine lv_iconst (v := (-1 : Int32)) hx hb dX7_tell_50 (by decide) ?_
          exact rq_i C0 (We_weights, We_knownFrom, We_told) (pr_2 hf) hP hD hS dX7_tell_51
        · have hf := iff_ hf hc8
          refine lv_iload_n hx hb dX7_tell_29 rfl (lv_at hl 1 rfl) ?_
          refine lv_iload_n hx hb dX7_tell_30 rfl (lv_at hl 2 rfl) ?_
          refine lv_iadd hx hb dX7_tell_31 ?_
          refine lv_iload_n hx hb dX7_tell_32 rfl (lv_at hl 3 rfl) ?_
          refine lv_iadd hx hb dX7_tell_33 ?_
          refine lv_iload hx hb dX7_tell_34 (lv_at hl 4 rfl) ?_
          refine lv_iadd hx hb dX7_tell_36 ?_
          refine lv_bipush (v := (16 : Int32)) hx hb dX7_tell_37 (by decide) ?_
          refine lv_icmp_ne (tgt := 50) hx hb dX7_tell_39 (by decide) (fun hc9 => ?_) (fun hc9 => ?_)
          · have hf := iff_ hf hc9
            refine lv_iconst (v := (-1 : Int32)) hx hb dX7_tell_50 (by decide) ?_
            exact rq_i C0 (We_weights, We_knownFrom, We_told) (pr_2 hf) hP hD hS dX7_tell_51
          · have hf := ift hf hc9
            refine lv_iload hx hb dX7_tell_42 (lv_at hl 5 rfl) ?_
            obtain ⟨u10, eu10, hf⟩ := Option.bind_eq_some_iff.mp hf
            refine cq_i (wc' := fun (u : Unit) => ([] : va_W)) (ws' := fun (u : Unit) => (wX7 cy qWe We_weights We_knownFrom We_told)) (wc := ([] : va_W)) (wr := (wX7 cy qWe We_weights We_knownFrom We_told)) C0 hP hD hS [] [0, 1, 2] [0, 1, 2] rfl rfl (by decide) (by decide) (by decide) (fun _ => rfl) (va_runSN (As := [.int x5]) (rest := []) ⟨hx, hb, hml, hown, hts⟩ (c_X8_isKnownDay l D cy   H.size x5 u10 eu10) ⟨va_cnB 1 hts gX7_tell_X8_isKnownDay_n22 rfl rfl rfl (hN _ nw_X7_22) (hts _ m_X7_tell_i_X8) (by decide +kernel) ⟨Nat.le_of_ble_eq_true rfl, Nat.le_of_ble_eq_true rfl⟩, hts _ m_X7_tell_s_X8_isKnownDay, trivial⟩ (pre_S (hP.sub (ws' := ([] : va_W)) [] rfl) hK (hD.sub (ws' := ([] : va_W)) [] (by decide) rfl) hN) rfl rfl hl.1 rfl (lv_room (Nat.le_of_ble_eq_true rfl)) dX7_tell_44 ⟨Nat.zero_le _, Nat.zero_le _⟩) (fun r u H locs hw hP hD hS => ?_)
            have hw := hw.symm
            subst hw
            have hP : va_P D vwCl (wX7 cy qWe We_weights We_knownFrom We_told) H := hP
            have hD : va_D A (wX7 cy qWe We_weights We_knownFrom We_told) := hD
            refine lv_if_ne (tgt := 52) hx hb dX7_tell_47 (by decide) (fun hc11 => ?_) (fun hc11 => ?_)
            · have hf := iff_ hf hc11
              refine lv_aload_n hx hb dX7_tell_52 rfl (lv_at hl 0 rfl) ?_
              refine va_get (D := D) (ci := 7) (v := .int We_told) (C := RX7) (T := TX7) (N := 3) hx hb hts i_X7_tell_X7 hown hK hP 0 rfl rfl 2 (by decide) (hts _ m_X7_tell_f25) (fun _ h9 => h9) rfl dX7_tell_53 ?_
              refine lv_bipush (v := (40 : Int32)) hx hb dX7_tell_56 (by decide) ?_
              refine lv_icmp_lt (tgt := 64) hx hb dX7_tell_58 (by decide) (fun hc12 => ?_) (fun hc12 => ?_)
              · have hf := ift hf hc12
                refine lv_aload_n hx hb dX7_tell_64 rfl (lv_at hl 0 rfl) ?_
                refine va_get (D := D) (ci := 7) (v := .int We_told) (C := RX7) (T := TX7) (N := 3) hx hb hts i_X7_tell_X7 hown hK hP 0 rfl rfl 2 (by decide) (hts _ m_X7_tell_f25) (fun _ h9 => h9) rfl dX7_tell_65 ?_
                refine lv_iconst (v := (4 : Int32)) hx hb dX7_tell_68 (by decide) ?_
                refine lv_imul hx hb dX7_tell_69 ?_
                refine lv_istore (lv' := [(6, .int (We_told * (4 : Int32))), (0, .ref (qWe 0)), (1, .int x1), (2, .int x2), (3, .int x3), (4, .int x4), (5, .int x5)]) hx hb dX7_tell_70 hl (by decide) rfl (fun ls hl => ?_)
                refine lv_aload_n hx hb dX7_tell_72 rfl (lv_at hl 1 rfl) ?_
                refine va_get (D := D) (ci := 7) (v := .ref (qWe 1)) (C := RX7) (T := TX7) (N := 3) hx hb hts i_X7_tell_X7 hown hK hP 0 rfl rfl 0 (by decide) (hts _ m_X7_tell_f11) (fun _ h9 => h9) rfl dX7_tell_73 ?_
                refine lv_iload hx hb dX7_tell_76 (lv_at hl 0 rfl) ?_
                refine lv_iload_n hx hb dX7_tell_78 rfl (lv_at hl 2 rfl) ?_
                obtain ⟨hz13, hf⟩ := ifn hf
                refine va_iast hx hb hK hP hD hS 1 0 rfl rfl (inb_in hz13) dX7_tell_79 (fun H locs hP hD hS => ?_)
                have hP : va_P D vwCl (wX7 cy qWe (upd We_weights (We_told * (4 : Int32)).toNatClampNeg x1) We_knownFrom We_told) H := hP
                have hD : va_D A (wX7 cy qWe (upd We_weights (We_told * (4 : Int32)).toNatClampNeg x1) We_knownFrom We_told) := hD
                refine lv_aload_n hx hb dX7_tell_80 rfl (lv_at hl 1 rfl) ?_
                refine va_get (D := D) (ci := 7) (v := .ref (qWe 1)) (C := RX7) (T := TX7) (N := 3) hx hb hts i_X7_tell_X7 hown hK hP 0 rfl rfl 0 (by decide) (hts _ m_X7_tell_f11) (fun _ h9 => h9) rfl dX7_tell_81 ?_
                refine lv_iload hx hb dX7_tell_84 (lv_at hl 0 rfl) ?_
                refine lv_iconst (v := (1 : Int32)) hx hb dX7_tell_86 (by decide) ?_
                refine lv_iadd hx hb dX7_tell_87 ?_
                refine lv_iload_n hx hb dX7_tell_88 rfl (lv_at hl 3 rfl) ?_
                obtain ⟨hz14, hf⟩ := ifn hf
                refine va_iast hx hb hK hP hD hS 1 0 rfl rfl (inb_in hz14) dX7_tell_89 (fun H locs hP hD hS => ?_)
                have hP : va_P D vwCl (wX7 cy qWe (upd (upd We_weights (We_told * (4 : Int32)).toNatClampNeg x1) ((We_told * (4 : Int32)) + (1 : Int32)).toNatClampNeg x2) We_knownFrom We_told) H := hP
                have hD : va_D A (wX7 cy qWe (upd (upd We_weights (We_told * (4 : Int32)).toNatClampNeg x1) ((We_told * (4 : Int32)) + (1 : Int32)).toNatClampNeg x2) We_knownFrom We_told) := hD
                refine lv_aload_n hx hb dX7_tell_90 rfl (lv_at hl 1 rfl) ?_
                refine va_get (D := D) (ci := 7) (v := .ref (qWe 1)) (C := RX7) (T := TX7) (N := 3) hx hb hts i_X7_tell_X7 hown hK hP 0 rfl rfl 0 (by decide) (hts _ m_X7_tell_f11) (fun _ h9 => h9) rfl dX7_tell_91 ?_
                refine lv_iload hx hb dX7_tell_94 (lv_at hl 0 rfl) ?_
                refine lv_iconst (v := (2 : Int32)) hx hb dX7_tell_96 (by decide) ?_
                refine lv_iadd hx hb dX7_tell_97 ?_
                refine lv_iload_n hx hb dX7_tell_98 rfl (lv_at hl 4 rfl) ?_
                obtain ⟨hz15, hf⟩ := ifn hf
                refine va_iast hx hb hK hP hD hS 1 0 rfl rfl (inb_in hz15) dX7_tell_99 (fun H locs hP hD hS => ?_)
                have hP : va_P D vwCl (wX7 cy qWe (upd (upd (upd We_weights (We_told * (4 : Int32)).toNatClampNeg x1) ((We_told * (4 : Int32)) + (1 : Int32)).toNatClampNeg x2) ((We_told * (4 : Int32)) + (2 : Int32)).toNatClampNeg x3) We_knownFrom We_told) H := hP
                have hD : va_D A (wX7 cy qWe (upd (upd (upd We_weights (We_told * (4 : Int32)).toNatClampNeg x1) ((We_told * (4 : Int32)) + (1 : Int32)).toNatClampNeg x2) ((We_told * (4 : Int32)) + (2 : Int32)).toNatClampNeg x3) We_knownFrom We_told) := hD
                refine lv_aload_n hx hb dX7_tell_100 rfl (lv_at hl 1 rfl) ?_
                refine va_get (D := D) (ci := 7) (v := .ref (qWe 1)) (C := RX7) (T := TX7) (N := 3) hx hb hts i_X7_tell_X7 hown hK hP 0 rfl rfl 0 (by decide) (hts _ m_X7_tell_f11) (fun _ h9 => h9) rfl dX7_tell_101 ?_
                refine lv_iload hx hb dX7_tell_104 (lv_at hl 0 rfl) ?_
                refine lv_iconst (v := (3 : Int32)) hx hb dX7_tell_106 (by decide) ?_
                refine lv_iadd hx hb dX7_tell_107 ?_
                refine lv_iload hx hb dX7_tell_108 (lv_at hl 5 rfl) ?_
                obtain ⟨hz16, hf⟩ := ifn hf
                refine va_iast hx hb hK hP hD hS 1 0 rfl rfl (inb_in hz16) dX7_tell_110 (fun H locs hP hD hS => ?_)
                have hP : va_P D vwCl (wX7 cy qWe (upd (upd (upd (upd We_weights (We_told * (4 : Int32)).toNatClampNeg x1) ((We_told * (4 : Int32)) + (1 : Int32)).toNatClampNeg x2) ((We_told * (4 : Int32)) + (2 : Int32)).toNatClampNeg x3) ((We_told * (4 : Int32)) + (3 : Int32)).toNatClampNeg x4) We_knownFrom We_told) H := hP
                have hD : va_D A (wX7 cy qWe (upd (upd (upd (upd We_weights (We_told * (4 : Int32)).toNatClampNeg x1) ((We_told * (4 : Int32)) + (1 : Int32)).toNatClampNeg x2) ((We_told * (4 : Int32)) + (2 : Int32)).toNatClampNeg x3) ((We_told * (4 : Int32)) + (3 : Int32)).toNatClampNeg x4) We_knownFrom We_told) := hD
                refine lv_aload_n hx hb dX7_tell_111 rfl (lv_at hl 1 rfl) ?_
                refine va_get (D := D) (ci := 7) (v := .ref (qWe 2)) (C := RX7) (T := TX7) (N := 3) hx hb hts i_X7_tell_X7 hown hK hP 0 rfl rfl 1 (by decide) (hts _ m_X7_tell_f15) (fun _ h9 => h9) rfl dX7_tell_112 ?_
                refine lv_aload_n hx hb dX7_tell_115 rfl (lv_at hl 1 rfl) ?_
                refine va_get (D := D) (ci := 7) (v := .int We_told) (C := RX7) (T := TX7) (N := 3) hx hb hts i_X7_tell_X7 hown hK hP 0 rfl rfl 2 (by decide) (hts _ m_X7_tell_f25) (fun _ h9 => h9) rfl dX7_tell_116 ?_
                refine lv_iload hx hb dX7_tell_119 (lv_at hl 6 rfl) ?_
                obtain ⟨hz17, hf⟩ := ifn hf
                refine va_iast hx hb hK hP hD hS 2 0 rfl rfl (inb_in hz17) dX7_tell_121 (fun H locs hP hD hS => ?_)
                have hP : va_P D vwCl (wX7 cy qWe (upd (upd (upd (upd We_weights (We_told * (4 : Int32)).toNatClampNeg x1) ((We_told * (4 : Int32)) + (1 : Int32)).toNatClampNeg x2) ((We_told * (4 : Int32)) + (2 : Int32)).toNatClampNeg x3) ((We_told * (4 : Int32)) + (3 : Int32)).toNatClampNeg x4) (upd We_knownFrom We_told.toNatClampNeg x5) We_told) H := hP
                have hD : va_D A (wX7 cy qWe (upd (upd (upd (upd We_weights (We_told * (4 : Int32)).toNatClampNeg x1) ((We_told * (4 : Int32)) + (1 : Int32)).toNatClampNeg x2) ((We_told * (4 : Int32)) + (2 : Int32)).toNatClampNeg x3) ((We_told * (4 : Int32)) + (3 : Int32)).toNatClampNeg x4) (upd We_knownFrom We_told.toNatClampNeg x5) We_told) := hD
                refine lv_aload_n hx hb dX7_tell_122 rfl (lv_at hl 1 rfl) ?_
                refine lv_dup hx hb dX7_tell_123 rfl ?_
                refine va_get (D := D) (ci := 7) (v := .int We_told) (C := RX7) (T := TX7) (N := 3) hx hb hts i_X7_tell_X7 hown hK hP 0 rfl rfl 2 (by decide) (hts _ m_X7_tell_f25) (fun _ h9 => h9) rfl dX7_tell_124 ?_
                refine lv_iconst (v := (1 : Int32)) hx hb dX7_tell_127 (by decide) ?_
                refine lv_iadd hx hb dX7_tell_128 ?_
                refine va_put (D := D) (ci := 7) (v := .int (We_told + (1 : Int32))) (ty := .int) (C := RX7) (T := TX7) (N := 3) hx hb hts i_X7_tell_X7 tyX7 tyX7_ok nmX7 hown hK hP hD hS 0 rfl rfl 2 (by decide) (hts _ m_X7_tell_f25) (fun _ h9 => h9) rfl (by decide +kernel) rfl rfl (Nat.le_of_ble_eq_true rfl) dX7_tell_129 (fun H locs hP hD hS => ?_)
                have hP : va_P D vwCl (wX7 cy qWe (upd (upd (upd (upd We_weights (We_told * (4 : Int32)).toNatClampNeg x1) ((We_told * (4 : Int32)) + (1 : Int32)).toNatClampNeg x2) ((We_told * (4 : Int32)) + (2 : Int32)).toNatClampNeg x3) ((We_told * (4 : Int32)) + (3 : Int32)).toNatClampNeg x4) (upd We_knownFrom We_told.toNatClampNeg x5) (We_told + (1 : Int32))) H := hP
                have hD : va_D A (wX7 cy qWe (upd (upd (upd (upd We_weights (We_told * (4 : Int32)).toNatClampNeg x1) ((We_told * (4 : Int32)) + (1 : Int32)).toNatClampNeg x2) ((We_told * (4 : Int32)) + (2 : Int32)).toNatClampNeg x3) ((We_told * (4 : Int32)) + (3 : Int32)).toNatClampNeg x4) (upd We_knownFrom We_told.toNatClampNeg x5) (We_told + (1 : Int32))) := hD
                refine lv_aload_n hx hb dX7_tell_132 rfl (lv_at hl 1 rfl) ?_
                refine va_get (D := D) (ci := 7) (v := .int (We_told + (1 : Int32))) (C := RX7) (T := TX7) (N := 3) hx hb hts i_X7_tell_X7 hown hK hP 0 rfl rfl 2 (by decide) (hts _ m_X7_tell_f25) (fun _ h9 => h9) rfl dX7_tell_133 ?_
                exact rq_i C0 ((upd (upd (upd (upd We_weights (We_told * (4 : Int32)).toNatClampNeg x1) ((We_told * (4 : Int32)) + (1 : Int32)).toNatClampNeg x2) ((We_told * (4 : Int32)) + (2 : Int32)).toNatClampNeg x3) ((We_told * (4 : Int32)) + (3 : Int32)).toNatClampNeg x4), (upd We_knownFrom We_told.toNatClampNeg x5), (We_told + (1 : Int32))) (pr_2 hf) hP hD hS dX7_tell_136
              · have hf := iff_ hf hc12
                refine lv_bipush (v := (-5 : Int32)) hx hb dX7_tell_61 (by decide) ?_
                exact rq_i C0 (We_weights, We_knownFrom, We_told) (pr_2 hf) hP hD hS dX7_tell_63
            · have hf := ift hf hc11
              refine lv_iconst (v := (-1 : Int32)) hx hb dX7_tell_50 (by decide) ?_
              exact rq_i C0 (We_weights, We_knownFrom, We_told) (pr_2 hf) hP hD hS dX7_tell_51

theorem m_X8_answered_m222 : Cond.methodLink RX8 222 Lib.Math.min.name ∈ wsX8_answered := by decide +kernel
theorem m_X8_answered_s222 : Cond.static Lib.Math.min.name ∈ wsX8_answered := by decide +kernel
theorem m_X8_answered_iMath : Cond.initialized "java/lang/Math" ∈ wsX8_answered := by decide +kernel
theorem m_X8_answered_k222 : Cond.code Lib.Math.min.name Lib.Math.min.code 2 (some .int) ∈ wsX8_answered := by decide +kernel
theorem i_X8_answered_X8 : ∀ w ∈ wsX80, w ∈ wsX8_answered := by decide +kernel
theorem m_X8_answered_f76 : Cond.fieldLink RX8 76 "SailCargo" "refusedBy" "I" ∈ wsX8_answered := by decide +kernel
set_option maxHeartbeats 4000000 in
set_option maxRecDepth 100000 in
theorem c_X8_answered (l : Launch) (D : va_G) (cy : Nat → ClassId) (qSC qWe qPa qHo qHb qTa qRe qVo qAg qDr : Nat → Nat) (SC_faultPlace : Int32) (SC_refusedBy : Int32) (sz : Nat) (x1 : Int32) (X : Int32 × (Int32)) (hf : f_X8_answered SC_refusedBy x1 = some X) : Met l yX8_answered wsX8_answered ({ frames := 1, cells := 0, slots := 0, locals := 21 } : Room) (va_Pc [.ref (qSC 0), .int x1] (PW D cy (wX8 cy qSC (qWe 0) (qPa 0) (qHo 0) (qHb 0) (qTa 0) (qRe 0) (qVo 0) (qAg 0) (qDr 0) SC_faultPlace SC_refusedBy) sz)) (va_Qi (fun (r : Int32) (u : (Int32)) => r = X.1 ∧ u = X.2) (fun u t => BW D cy (va_A (wX8 cy qSC (qWe 0) (qPa 0) (qHo 0) (qHb 0) (qTa 0) (qRe 0) (qVo 0) (qAg 0) (qDr 0) SC_faultPlace SC_refusedBy) sz) (wX8 cy qSC (qWe 0) (qPa 0) (qHo 0) (qHb 0) (qTa 0) (qRe 0) (qVo 0) (qAg 0) (qDr 0) SC_faultPlace u) t) (va_A (wX8 cy qSC (qWe 0) (qPa 0) (qHo 0) (qHb 0) (qTa 0) (qRe 0) (qVo 0) (qAg 0) (qDr 0) SC_faultPlace SC_refusedBy) sz)) 0 0 (va_A (wX8 cy qSC (qWe 0) (qPa 0) (qHo 0) (qHb 0) (qTa 0) (qRe 0) (qVo 0) (qAg 0) (qDr 0) SC_faultPlace SC_refusedBy) sz) := by
  refine met_enter (Qc := fun A => (va_Qi (fun (r : Int32) (u : (Int32)) => r = X.1 ∧ u = X.2) (fun u t => BW D cy A (wX8 cy qSC (qWe 0) (qPa 0) (qHo 0) (qHb 0) (qTa 0) (qRe 0) (qVo 0) (qAg 0) (qDr 0) SC_faultPlace u) t) A)) (lv0 := [(0, .ref (qSC 0)), (1, .int x1)]) (by decide) rfl (Nat.le_of_ble_eq_true rfl) rfl ?_
  intro p e s m below meth c A ls hnm C0 hP hD hS hl
  generalize hH : s.heap = H at hP ⊢
  generalize hLoc : ([] : List Loc) = locs at hS ⊢
  have hS : va_S A s.heap H locs := by rw [← hH]; exact hS
  have C0 : CX cX8_answered 2 (some .int) RX8 wsX8_answered D cy p s m _ meth c A := C0
  obtain ⟨hx, hb, hr, hml, hown, hts, hK, hA, hN, hlocks⟩ := id C0
  unfold f_X8_answered at hf
  refine lv_aload_n hx hb dX8_answered_0 rfl (lv_at hl 0 rfl) ?_
  refine lv_iload_n hx hb dX8_answered_1 rfl (lv_at hl 1 rfl) ?_
  refine lv_iconst (v := (0 : Int32)) hx hb dX8_answered_2 (by decide) ?_
  refine va_mmin hx hb (by rw [hml]; exact hl.1.symm) hown (hts _ m_X8_answered_m222) (hts _ m_X8_answered_s222) (hts _ m_X8_answered_iMath) (hts _ m_X8_answered_k222) (Nat.le_of_ble_eq_true rfl) (Nat.le_of_ble_eq_true rfl) (Nat.zero_le _) (Nat.zero_le _) dX8_answered_3 ?_
  refine va_put (D := D) (ci := 8) (v := .int (if (0 : Int32) < x1 then (0 : Int32) else x1)) (ty := .int) (C := RX8) (T := TX8) (N := 11) hx hb hts i_X8_answered_X8 tyX8 tyX8_ok nmX8 hown hK hP hD hS 0 rfl rfl 10 (by decide) (hts _ m_X8_answered_f76) (fun _ h9 => h9) rfl (by decide +kernel) rfl rfl (Nat.le_of_ble_eq_true rfl) dX8_answered_6 (fun H locs hP hD hS => ?_)
  have hP : va_P D vwCl (wX8 cy qSC (qWe 0) (qPa 0) (qHo 0) (qHb 0) (qTa 0) (qRe 0) (qVo 0) (qAg 0) (qDr 0) SC_faultPlace (if (0 : Int32) < x1 then (0 : Int32) else x1)) H := hP
  have hD : va_D A (wX8 cy qSC (qWe 0) (qPa 0) (qHo 0) (qHb 0) (qTa 0) (qRe 0) (qVo 0) (qAg 0) (qDr 0) SC_faultPlace (if (0 : Int32) < x1 then (0 : Int32) else x1)) := hD
  refine lv_iload_n hx hb dX8_answered_9 rfl (lv_at hl 1 rfl) ?_
  exact rq_i C0 (if (0 : Int32) < x1 then (0 : Int32) else x1) (pr_2 hf) hP hD hS dX8_answered_10

theorem i_X8_winds_X8 : ∀ w ∈ wsX80, w ∈ wsX8_winds := by decide +kernel
theorem m_X8_winds_f10 : Cond.fieldLink RX8 10 "SailCargo" "weather" "LSailCargo$Weather;" ∈ wsX8_winds := by decide +kernel
set_option maxHeartbeats 4000000 in
set_option maxRecDepth 100000 in
theorem c_X8_winds (l : Launch) (D : va_G) (cy : Nat → ClassId) (qSC qWe qPa qHo qHb qTa qRe qVo qAg qDr : Nat → Nat) (SC_faultPlace : Int32) (SC_refusedBy : Int32) (We_weights : Nat → Int32) (We_knownFrom : Nat → Int32) (We_told : Int32) (sz : Nat) (x1 : Int32) (x2 : Int32) (x3 : Int32) (x4 : Int32) (x5 : Int32) (X : Int32 × (Int32) × (Nat → Int32) × (Nat → Int32) × (Int32)) (hf : f_X8_winds SC_refusedBy We_weights We_knownFrom We_told x1 x2 x3 x4 x5 = some X) : Met l yX8_winds wsX8_winds ({ frames := 3, cells := 0, slots := 0, locals := 68 } : Room) (va_Pc [.ref (qSC 0), .int x1, .int x2, .int x3, .int x4, .int x5] (PW D cy (wX8 cy qSC (qWe 0) (qPa 0) (qHo 0) (qHb 0) (qTa 0) (qRe 0) (qVo 0) (qAg 0) (qDr 0) SC_faultPlace SC_refusedBy ++ (wX7 cy qWe We_weights We_knownFrom We_told)) sz)) (va_Qi (fun (r : Int32) (u : (Int32) × (Nat → Int32) × (Nat → Int32) × (Int32)) => r = X.1 ∧ u = X.2) (fun u t => BW D cy (va_A (wX8 cy qSC (qWe 0) (qPa 0) (qHo 0) (qHb 0) (qTa 0) (qRe 0) (qVo 0) (qAg 0) (qDr 0) SC_faultPlace SC_refusedBy ++ (wX7 cy qWe We_weights We_knownFrom We_told)) sz) (wX8 cy qSC (qWe 0) (qPa 0) (qHo 0) (qHb 0) (qTa 0) (qRe 0) (qVo 0) (qAg 0) (qDr 0) SC_faultPlace u.1 ++ (wX7 cy qWe u.2.1 u.2.2.1 u.2.2.2)) t) (va_A (wX8 cy qSC (qWe 0) (qPa 0) (qHo 0) (qHb 0) (qTa 0) (qRe 0) (qVo 0) (qAg 0) (qDr 0) SC_faultPlace SC_refusedBy ++ (wX7 cy qWe We_weights We_knownFrom We_told)) sz)) 0 0 (va_A (wX8 cy qSC (qWe 0) (qPa 0) (qHo 0) (qHb 0) (qTa 0) (qRe 0) (qVo 0) (qAg 0) (qDr 0) SC_faultPlace SC_refusedBy ++ (wX7 cy qWe We_weights We_knownFrom We_told)) sz) := by
  refine met_enter (Qc := fun A => (va_Qi (fun (r : Int32) (u : (Int32) × (Nat → Int32) × (Nat → Int32) × (Int32)) => r = X.1 ∧ u = X.2) (fun u t => BW D cy A (wX8 cy qSC (qWe 0) (qPa 0) (qHo 0) (qHb 0) (qTa 0) (qRe 0) (qVo 0) (qAg 0) (qDr 0) SC_faultPlace u.1 ++ (wX7 cy qWe u.2.1 u.2.2.1 u.2.2.2)) t) A)) (lv0 := [(0, .ref (qSC 0)), (1, .int x1), (2, .int x2), (3, .int x3), (4, .int x4), (5, .int x5)]) (by decide) rfl (Nat.le_of_ble_eq_true rfl) rfl ?_
  intro p e s m below meth c A ls hnm C0 hP hD hS hl
  generalize hH : s.heap = H at hP ⊢
  generalize hLoc : ([] : List Loc) = locs at hS ⊢
  have hS : va_S A s.heap H locs := by rw [← hH]; exact hS
  have C0 : CX cX8_winds 6 (some .int) RX8 wsX8_winds D cy p s m _ meth c A := C0
  obtain ⟨hx, hb, hr, hml, hown, hts, hK, hA, hN, hlocks⟩ := id C0
  unfold f_X8_winds at hf
  refine lv_aload_n hx hb dX8_winds_0 rfl (lv_at hl 0 rfl) ?_
  refine lv_aload_n hx hb dX8_winds_1 rfl (lv_at hl 0 rfl) ?_
  refine va_get (D := D) (ci := 8) (v := .ref (qWe 0)) (C := RX8) (T := TX8) (N := 11) hx hb hts i_X8_winds_X8 hown hK hP 0 rfl rfl 0 (by decide) (hts _ m_X8_winds_f10) (fun _ h9 => h9) rfl dX8_winds_2 ?_
  refine lv_iload_n hx hb dX8_winds_5 rfl (lv_at hl 1 rfl) ?_
  refine lv_iload_n hx hb dX8_winds_6 rfl (lv_at hl 2 rfl) ?_
  refine lv_iload_n hx hb dX8_winds_7 rfl (lv_at hl 3 rfl) ?_
  refine lv_iload hx hb dX8_winds_8 (lv_at hl 4 rfl) ?_
  refine lv_iload hx hb dX8_winds_10 (lv_at hl 5 rfl) ?_
  obtain ⟨u1, eu1, hf⟩ := Option.bind_eq_some_iff.mp hf
  refine cq_i (wc' := fun (u : (Nat → Int32) × (Nat → Int32) × (Int32)) => (wX7 cy qWe u.1 u.2.1 u.2.2)) (ws' := fun (u : (Nat → Int32) × (Nat → Int32) × (Int32)) => (wX8 cy qSC (qWe 0) (qPa 0) (qHo 0) (qHb 0) (qTa 0) (qRe 0) (qVo 0) (qAg 0) (qDr 0) SC_faultPlace SC_refusedBy ++ (wX7 cy qWe u.1 u.2.1 u.2.2))) (wc := (wX7 cy qWe We_weights We_knownFrom We_told)) (wr := (wX8 cy qSC (qWe 0) (qPa 0) (qHo 0) (qHb 0) (qTa 0) (qRe 0) (qVo 0) (qAg 0) (qDr 0) SC_faultPlace SC_refusedBy)) C0 hP hD hS [1, 2, 3] [0] [0, 1, 2, 3] rfl rfl (by decide) (by decide) (by decide) (fun _ => rfl) (va_runV (As := [.int x1, .int x2, .int x3, .int x4, .int x5]) (rest := [.ref (qSC 0)]) ⟨hx, hb, hml, hown, hts⟩ (c_X7_tell l D cy qWe We_weights We_knownFrom We_told H.size x1 x2 x3 x4 x5 u1 eu1) (cwV 5 hts gX8_winds_X7_tell rfl rfl rfl (by decide +kernel) ⟨Nat.le_of_ble_eq_true rfl, Nat.le_of_ble_eq_true rfl⟩) (pre_V (hP.sub (ws' := (wX7 cy qWe We_weights We_knownFrom We_told)) [1, 2, 3] rfl) hK (hD.sub (ws' := (wX7 cy qWe We_weights We_knownFrom We_told)) [1, 2, 3] (by decide) rfl) hN 7 0 rfl rfl) rfl rfl hl.1 rfl (lv_room (Nat.le_of_ble_eq_true rfl)) dX8_winds_12 ⟨Nat.zero_le _, Nat.zero_le _⟩) (fun r u H locs hw hP hD hS => ?_)
  obtain ⟨rfl, rfl⟩ := hw
  have hP : va_P D vwCl (wX8 cy qSC (qWe 0) (qPa 0) (qHo 0) (qHb 0) (qTa 0) (qRe 0) (qVo 0) (qAg 0) (qDr 0) SC_faultPlace SC_refusedBy ++ (wX7 cy qWe u1.2.1 u1.2.2.1 u1.2.2.2)) H := hP
  have hD : va_D A (wX8 cy qSC (qWe 0) (qPa 0) (qHo 0) (qHb 0) (qTa 0) (qRe 0) (qVo 0) (qAg 0) (qDr 0) SC_faultPlace SC_refusedBy ++ (wX7 cy qWe u1.2.1 u1.2.2.1 u1.2.2.2)) := hD
  obtain ⟨u2, eu2, hf⟩ := Option.bind_eq_some_iff.mp hf
  refine cq_i (wc' := fun (u : (Int32)) => (wX8 cy qSC (qWe 0) (qPa 0) (qHo 0) (qHb 0) (qTa 0) (qRe 0) (qVo 0) (qAg 0) (qDr 0) SC_faultPlace u)) (ws' := fun (u : (Int32)) => (wX8 cy qSC (qWe 0) (qPa 0) (qHo 0) (qHb 0) (qTa 0) (qRe 0) (qVo 0) (qAg 0) (qDr 0) SC_faultPlace u ++ (wX7 cy qWe u1.2.1 u1.2.2.1 u1.2.2.2))) (wc := (wX8 cy qSC (qWe 0) (qPa 0) (qHo 0) (qHb 0) (qTa 0) (qRe 0) (qVo 0) (qAg 0) (qDr 0) SC_faultPlace SC_refusedBy)) (wr := (wX7 cy qWe u1.2.1 u1.2.2.1 u1.2.2.2)) C0 hP hD hS [0] [1, 2, 3] [3, 0, 1, 2] rfl rfl (by decide) (by decide) (by decide) (fun _ => rfl) (va_runV (As := [.int u1.1]) (rest := []) ⟨hx, hb, hml, hown, hts⟩ (c_X8_answered l D cy qSC qWe qPa qHo qHb qTa qRe qVo qAg qDr SC_faultPlace SC_refusedBy H.size u1.1 u2 eu2) (cwV 1 hts gX8_winds_X8_answered rfl rfl rfl (by decide +kernel) ⟨Nat.le_of_ble_eq_true rfl, Nat.le_of_ble_eq_true rfl⟩) (pre_V (hP.sub (ws' := (wX8 cy qSC (qWe 0) (qPa 0) (qHo 0) (qHb 0) (qTa 0) (qRe 0) (qVo 0) (qAg 0) (qDr 0) SC_faultPlace SC_refusedBy)) [0] rfl) hK (hD.sub (ws' := (wX8 cy qSC (qWe 0) (qPa 0) (qHo 0) (qHb 0) (qTa 0) (qRe 0) (qVo 0) (qAg 0) (qDr 0) SC_faultPlace SC_refusedBy)) [0] (by decide) rfl) hN 8 0 rfl rfl) rfl rfl hl.1 rfl (lv_room (Nat.le_of_ble_eq_true rfl)) dX8_winds_15 ⟨Nat.zero_le _, Nat.zero_le _⟩) (fun r u H locs hw hP hD hS => ?_)
  obtain ⟨rfl, rfl⟩ := hw
  have hP : va_P D vwCl (wX8 cy qSC (qWe 0) (qPa 0) (qHo 0) (qHb 0) (qTa 0) (qRe 0) (qVo 0) (qAg 0) (qDr 0) SC_faultPlace u2.2 ++ (wX7 cy qWe u1.2.1 u1.2.2.1 u1.2.2.2)) H := hP
  have hD : va_D A (wX8 cy qSC (qWe 0) (qPa 0) (qHo 0) (qHb 0) (qTa 0) (qRe 0) (qVo 0) (qAg 0) (qDr 0) SC_faultPlace u2.2 ++ (wX7 cy qWe u1.2.1 u1.2.2.1 u1.2.2.2)) := hD
  exact rq_i C0 (u2.2, u1.2.1, u1.2.2.1, u1.2.2.2) (pr_2 hf) hP hD hS dX8_winds_18

theorem i_X8_weight_X8 : ∀ w ∈ wsX80, w ∈ wsX8_weight := by decide +kernel
theorem m_X8_weight_f10 : Cond.fieldLink RX8 10 "SailCargo" "weather" "LSailCargo$Weather;" ∈ wsX8_weight := by decide +kernel
set_option maxHeartbeats 4000000 in
set_option maxRecDepth 100000 in
theorem c_X8_weight (l : Launch) (D : va_G) (cy : Nat → ClassId) (qSC qWe qPa qHo qHb qTa qRe qVo qAg qDr : Nat → Nat) (SC_faultPlace : Int32) (SC_refusedBy : Int32) (We_weights : Nat → Int32) (We_knownFrom : Nat → Int32) (We_told : Int32) (sz : Nat) (x1 : Int32) (x2 : Int32) (X : Int32) (hf : f_X8_weight We_weights We_knownFrom We_told x1 x2 = some X) : Met l yX8_weight wsX8_weight ({ frames := 2, cells := 0, slots := 0, locals := 42 } : Room) (va_Pc [.ref (qSC 0), .int x1, .int x2] (PW D cy (wX8 cy qSC (qWe 0) (qPa 0) (qHo 0) (qHb 0) (qTa 0) (qRe 0) (qVo 0) (qAg 0) (qDr 0) SC_faultPlace SC_refusedBy ++ (wX7 cy qWe We_weights We_knownFrom We_told)) sz)) (va_Qi (fun (r : Int32) (_ : Unit) => r = X) (fun u t => BW D cy (va_A (wX8 cy qSC (qWe 0) (qPa 0) (qHo 0) (qHb 0) (qTa 0) (qRe 0) (qVo 0) (qAg 0) (qDr 0) SC_faultPlace SC_refusedBy ++ (wX7 cy qWe We_weights We_knownFrom We_told)) sz) (wX8 cy qSC (qWe 0) (qPa 0) (qHo 0) (qHb 0) (qTa 0) (qRe 0) (qVo 0) (qAg 0) (qDr 0) SC_faultPlace SC_refusedBy ++ (wX7 cy qWe We_weights We_knownFrom We_told)) t) (va_A (wX8 cy qSC (qWe 0) (qPa 0) (qHo 0) (qHb 0) (qTa 0) (qRe 0) (qVo 0) (qAg 0) (qDr 0) SC_faultPlace SC_refusedBy ++ (wX7 cy qWe We_weights We_knownFrom We_told)) sz)) 0 0 (va_A (wX8 cy qSC (qWe 0) (qPa 0) (qHo 0) (qHb 0) (qTa 0) (qRe 0) (qVo 0) (qAg 0) (qDr 0) SC_faultPlace SC_refusedBy ++ (wX7 cy qWe We_weights We_knownFrom We_told)) sz) := by
  refine met_enter (Qc := fun A => (va_Qi (fun (r : Int32) (_ : Unit) => r = X) (fun u t => BW D cy A (wX8 cy qSC (qWe 0) (qPa 0) (qHo 0) (qHb 0) (qTa 0) (qRe 0) (qVo 0) (qAg 0) (qDr 0) SC_faultPlace SC_refusedBy ++ (wX7 cy qWe We_weights We_knownFrom We_told)) t) A)) (lv0 := [(0, .ref (qSC 0)), (1, .int x1), (2, .int x2)]) (by decide) rfl (Nat.le_of_ble_eq_true rfl) rfl ?_
  intro p e s m below meth c A ls hnm C0 hP hD hS hl
  generalize hH : s.heap = H at hP ⊢
  generalize hLoc : ([] : List Loc) = locs at hS ⊢
  have hS : va_S A s.heap H locs := by rw [← hH]; exact hS
  have C0 : CX cX8_weight 3 (some .int) RX8 wsX8_weight D cy p s m _ meth c A := C0
  obtain ⟨hx, hb, hr, hml, hown, hts, hK, hA, hN, hlocks⟩ := id C0
  unfold f_X8_weight at hf
  refine lv_iload_n hx hb dX8_weight_0 rfl (lv_at hl 1 rfl) ?_
  obtain ⟨u1, eu1, hf⟩ := Option.bind_eq_some_iff.mp hf
  refine cq_i (wc' := fun (u : Unit) => ([] : va_W)) (ws' := fun (u : Unit) => (wX8 cy qSC (qWe 0) (qPa 0) (qHo 0) (qHb 0) (qTa 0) (qRe 0) (qVo 0) (qAg 0) (qDr 0) SC_faultPlace SC_refusedBy ++ (wX7 cy qWe We_weights We_knownFrom We_told))) (wc := ([] : va_W)) (wr := (wX8 cy qSC (qWe 0) (qPa 0) (qHo 0) (qHb 0) (qTa 0) (qRe 0) (qVo 0) (qAg 0) (qDr 0) SC_faultPlace SC_refusedBy ++ (wX7 cy qWe We_weights We_knownFrom We_told))) C0 hP hD hS [] [0, 1, 2, 3] [0, 1, 2, 3] rfl rfl (by decide) (by decide) (by decide) (fun _ => rfl) (va_runS (As := [.int x1]) (rest := []) ⟨hx, hb, hml, hown, hts⟩ (c_X8_isWind l D cy   H.size x1 u1 eu1) (va_cwS 1 hts gX8_weight_X8_isWind rfl rfl rfl (by decide +kernel) ⟨Nat.le_of_ble_eq_true rfl, Nat.le_of_ble_eq_true rfl⟩) (pre_S (hP.sub (ws' := ([] : va_W)) [] rfl) hK (hD.sub (ws' := ([] : va_W)) [] (by decide) rfl) hN) rfl rfl hl.1 rfl (lv_room (Nat.le_of_ble_eq_true rfl)) dX8_weight_1 ⟨Nat.zero_le _, Nat.zero_le _⟩) (fun r u H locs hw hP hD hS => ?_)
  have hw := hw.symm
  subst hw
  have hP : va_P D vwCl (wX8 cy qSC (qWe 0) (qPa 0) (qHo 0) (qHb 0) (qTa 0) (qRe 0) (qVo 0) (qAg 0) (qDr 0) SC_faultPlace SC_refusedBy ++ (wX7 cy qWe We_weights We_knownFrom We_told)) H := hP
  have hD : va_D A (wX8 cy qSC (qWe 0) (qPa 0) (qHo 0) (qHb 0) (qTa 0) (qRe 0) (qVo 0) (qAg 0) (qDr 0) SC_faultPlace SC_refusedBy ++ (wX7 cy qWe We_weights We_knownFrom We_told)) := hD
  refine lv_if_eq (tgt := 14) hx hb dX8_weight_4 (by decide) (fun hc2 => ?_) (fun hc2 => ?_)
  · have hf := ift hf hc2
    refine lv_iconst (v := (-1 : Int32)) hx hb dX8_weight_14 (by decide) ?_
    exact rq_i C0 () (Option.some.inj hf) hP hD hS dX8_weight_15
  · have hf := iff_ hf hc2
    refine lv_iload_n hx hb dX8_weight_7 rfl (lv_at hl 2 rfl) ?_
    obtain ⟨u3, eu3, hf⟩ := Option.bind_eq_some_iff.mp hf
    refine cq_i (wc' := fun (u : Unit) => ([] : va_W)) (ws' := fun (u : Unit) => (wX8 cy qSC (qWe 0) (qPa 0) (qHo 0) (qHb 0) (qTa 0) (qRe 0) (qVo 0) (qAg 0) (qDr 0) SC_faultPlace SC_refusedBy ++ (wX7 cy qWe We_weights We_knownFrom We_told))) (wc := ([] : va_W)) (wr := (wX8 cy qSC (qWe 0) (qPa 0) (qHo 0) (qHb 0) (qTa 0) (qRe 0) (qVo 0) (qAg 0) (qDr 0) SC_faultPlace SC_refusedBy ++ (wX7 cy qWe We_weights We_knownFrom We_told))) C0 hP hD hS [] [0, 1, 2, 3] [0, 1, 2, 3] rfl rfl (by decide) (by decide) (by decide) (fun _ => rfl) (va_runS (As := [.int x2]) (rest := []) ⟨hx, hb, hml, hown, hts⟩ (c_X8_isKnownDay l D cy   H.size x2 u3 eu3) (va_cwS 1 hts gX8_weight_X8_isKnownDay rfl rfl rfl (by decide +kernel) ⟨Nat.le_of_ble_eq_true rfl, Nat.le_of_ble_eq_true rfl⟩) (pre_S (hP.sub (ws' := ([] : va_W)) [] rfl) hK (hD.sub (ws' := ([] : va_W)) [] (by decide) rfl) hN) rfl rfl hl.1 rfl (lv_room (Nat.le_of_ble_eq_true rfl)) dX8_weight_8 ⟨Nat.zero_le _, Nat.zero_le _⟩) (fun r u H locs hw hP hD hS => ?_)
    have hw := hw.symm
    subst hw
    have hP : va_P D vwCl (wX8 cy qSC (qWe 0) (qPa 0) (qHo 0) (qHb 0) (qTa 0) (qRe 0) (qVo 0) (qAg 0) (qDr 0) SC_faultPlace SC_refusedBy ++ (wX7 cy qWe We_weights We_knownFrom We_told)) H := hP
    have hD : va_D A (wX8 cy qSC (qWe 0) (qPa 0) (qHo 0) (qHb 0) (qTa 0) (qRe 0) (qVo 0) (qAg 0) (qDr 0) SC_faultPlace SC_refusedBy ++ (wX7 cy qWe We_weights We_knownFrom We_told)) := hD
    refine lv_if_ne (tgt := 16) hx hb dX8_weight_11 (by decide) (fun hc4 => ?_) (fun hc4 => ?_)
    · have hf := iff_ hf hc4
      refine lv_aload_n hx hb dX8_weight_16 rfl (lv_at hl 0 rfl) ?_
      refine va_get (D := D) (ci := 8) (v := .ref (qWe 0)) (C := RX8) (T := TX8) (N := 11) hx hb hts i_X8_weight_X8 hown hK hP 0 rfl rfl 0 (by decide) (hts _ m_X8_weight_f10) (fun _ h9 => h9) rfl dX8_weight_17 ?_
      refine lv_iload_n hx hb dX8_weight_20 rfl (lv_at hl 1 rfl) ?_
      refine lv_iload_n hx hb dX8_weight_21 rfl (lv_at hl 2 rfl) ?_
      obtain ⟨u5, eu5, hf⟩ := Option.bind_eq_some_iff.mp hf
      refine cq_i (wc' := fun (u : Unit) => (wX7 cy qWe We_weights We_knownFrom We_told)) (ws' := fun (u : Unit) => (wX8 cy qSC (qWe 0) (qPa 0) (qHo 0) (qHb 0) (qTa 0) (qRe 0) (qVo 0) (qAg 0) (qDr 0) SC_faultPlace SC_refusedBy ++ (wX7 cy qWe We_weights We_knownFrom We_told))) (wc := (wX7 cy qWe We_weights We_knownFrom We_told)) (wr := (wX8 cy qSC (qWe 0) (qPa 0) (qHo 0) (qHb 0) (qTa 0) (qRe 0) (qVo 0) (qAg 0) (qDr 0) SC_faultPlace SC_refusedBy)) C0 hP hD hS [1, 2, 3] [0] [0, 1, 2, 3] rfl rfl (by decide) (by decide) (by decide) (fun _ => rfl) (va_runV (As := [.int x1, .int x2]) (rest := []) ⟨hx, hb, hml, hown, hts⟩ (c_X7_weightOf l D cy qWe We_weights We_knownFrom We_told H.size x1 x2 u5 eu5) (cwV 2 hts gX8_weight_X7_weightOf rfl rfl rfl (by decide +kernel) ⟨Nat.le_of_ble_eq_true rfl, Nat.le_of_ble_eq_true rfl⟩) (pre_V (hP.sub (ws' := (wX7 cy qWe We_weights We_knownFrom We_told)) [1, 2, 3] rfl) hK (hD.sub (ws' := (wX7 cy qWe We_weights We_knownFrom We_told)) [1, 2, 3] (by decide) rfl) hN 7 0 rfl rfl) rfl rfl hl.1 rfl (lv_room (Nat.le_of_ble_eq_true rfl)) dX8_weight_22 ⟨Nat.zero_le _, Nat.zero_le _⟩) (fun r u H locs hw hP hD hS => ?_)
      have hw := hw.symm
      subst hw
      have hP : va_P D vwCl (wX8 cy qSC (qWe 0) (qPa 0) (qHo 0) (qHb 0) (qTa 0) (qRe 0) (qVo 0) (qAg 0) (qDr 0) SC_faultPlace SC_refusedBy ++ (wX7 cy qWe We_weights We_knownFrom We_told)) H := hP
      have hD : va_D A (wX8 cy qSC (qWe 0) (qPa 0) (qHo 0) (qHb 0) (qTa 0) (qRe 0) (qVo 0) (qAg 0) (qDr 0) SC_faultPlace SC_refusedBy ++ (wX7 cy qWe We_weights We_knownFrom We_told)) := hD
      exact rq_i C0 () (Option.some.inj hf) hP hD hS dX8_weight_25
    · have hf := ift hf hc4
      refine lv_iconst (v := (-1 : Int32)) hx hb dX8_weight_14 (by decide) ?_
      exact rq_i C0 () (Option.some.inj hf) hP hD hS dX8_weight_15

theorem i_X8_sails_X8 : ∀ w ∈ wsX80, w ∈ wsX8_sails := by decide +kernel
theorem m_X8_sails_f19 : Cond.fieldLink RX8 19 "SailCargo" "passage" "LSailCargo$Passage;" ∈ wsX8_sails := by decide +kernel
set_option maxHeartbeats 4000000 in
set_option maxRecDepth 100000 in
theorem c_X8_sails (l : Launch) (D : va_G) (cy : Nat → ClassId) (qSC qPa qWe qHo qHb qTa qRe qVo qAg qDr : Nat → Nat) (SC_faultPlace : Int32) (SC_refusedBy : Int32) (Pa_sailMiles : Nat → Int32) (Pa_weights : Nat → Int32) (Pa_chance : Nat → Int64) (Pa_burnt : Nat → Int64) (Pa_engineMiles : Int32) (Pa_daysReckoned : Int32) (Pa_milesReckoned : Int32) (Pa_coalReckoned : Int32) (sz : Nat) (x1 : Int32) (x2 : Int32) (X : Int32 × (Int32) × (Nat → Int32) × (Int32)) (hf : f_X8_sails SC_refusedBy Pa_sailMiles Pa_daysReckoned x1 x2 = some X) : Met l yX8_sails wsX8_sails ({ frames := 3, cells := 0, slots := 0, locals := 64 } : Room) (va_Pc [.ref (qSC 0), .int x1, .int x2] (PW D cy (wX8 cy qSC (qWe 0) (qPa 0) (qHo 0) (qHb 0) (qTa 0) (qRe 0) (qVo 0) (qAg 0) (qDr 0) SC_faultPlace SC_refusedBy ++ (wX2 cy qPa Pa_sailMiles Pa_weights Pa_chance Pa_burnt Pa_engineMiles Pa_daysReckoned Pa_milesReckoned Pa_coalReckoned)) sz)) (va_Qi (fun (r : Int32) (u : (Int32) × (Nat → Int32) × (Int32)) => r = X.1 ∧ u = X.2) (fun u t => BW D cy (va_A (wX8 cy qSC (qWe 0) (qPa 0) (qHo 0) (qHb 0) (qTa 0) (qRe 0) (qVo 0) (qAg 0) (qDr 0) SC_faultPlace SC_refusedBy ++ (wX2 cy qPa Pa_sailMiles Pa_weights Pa_chance Pa_burnt Pa_engineMiles Pa_daysReckoned Pa_milesReckoned Pa_coalReckoned)) sz) (wX8 cy qSC (qWe 0) (qPa 0) (qHo 0) (qHb 0) (qTa 0) (qRe 0) (qVo 0) (qAg 0) (qDr 0) SC_faultPlace u.1 ++ (wX2 cy qPa u.2.1 Pa_weights Pa_chance Pa_burnt Pa_engineMiles u.2.2 Pa_milesReckoned Pa_coalReckoned)) t) (va_A (wX8 cy qSC (qWe 0) (qPa 0) (qHo 0) (qHb 0) (qTa 0) (qRe 0) (qVo 0) (qAg 0) (qDr 0) SC_faultPlace SC_refusedBy ++ (wX2 cy qPa Pa_sailMiles Pa_weights Pa_chance Pa_burnt Pa_engineMiles Pa_daysReckoned Pa_milesReckoned Pa_coalReckoned)) sz)) 0 0 (va_A (wX8 cy qSC (qWe 0) (qPa 0) (qHo 0) (qHb 0) (qTa 0) (qRe 0) (qVo 0) (qAg 0) (qDr 0) SC_faultPlace SC_refusedBy ++ (wX2 cy qPa Pa_sailMiles Pa_weights Pa_chance Pa_burnt Pa_engineMiles Pa_daysReckoned Pa_milesReckoned Pa_coalReckoned)) sz) := by
  refine met_enter (Qc := fun A => (va_Qi (fun (r : Int32) (u : (Int32) × (Nat → Int32) × (Int32)) => r = X.1 ∧ u = X.2) (fun u t => BW D cy A (wX8 cy qSC (qWe 0) (qPa 0) (qHo 0) (qHb 0) (qTa 0) (qRe 0) (qVo 0) (qAg 0) (qDr 0) SC_faultPlace u.1 ++ (wX2 cy qPa u.2.1 Pa_weights Pa_chance Pa_burnt Pa_engineMiles u.2.2 Pa_milesReckoned Pa_coalReckoned)) t) A)) (lv0 := [(0, .ref (qSC 0)), (1, .int x1), (2, .int x2)]) (by decide) rfl (Nat.le_of_ble_eq_true rfl) rfl ?_
  intro p e s m below meth c A ls hnm C0 hP hD hS hl
  generalize hH : s.heap = H at hP ⊢
  generalize hLoc : ([] : List Loc) = locs at hS ⊢
  have hS : va_S A s.heap H locs := by rw [← hH]; exact hS
  have C0 : CX cX8_sails 3 (some .int) RX8 wsX8_sails D cy p s m _ meth c A := C0
  obtain ⟨hx, hb, hr, hml, hown, hts, hK, hA, hN, hlocks⟩ := id C0
  unfold f_X8_sails at hf
  refine lv_aload_n hx hb dX8_sails_0 rfl (lv_at hl 0 rfl) ?_
  refine lv_aload_n hx hb dX8_sails_1 rfl (lv_at hl 0 rfl) ?_
  refine va_get (D := D) (ci := 8) (v := .ref (qPa 0)) (C := RX8) (T := TX8) (N := 11) hx hb hts i_X8_sails_X8 hown hK hP 0 rfl rfl 1 (by decide) (hts _ m_X8_sails_f19) (fun _ h9 => h9) rfl dX8_sails_2 ?_
  refine lv_iload_n hx hb dX8_sails_5 rfl (lv_at hl 1 rfl) ?_
  refine lv_iload_n hx hb dX8_sails_6 rfl (lv_at hl 2 rfl) ?_
  obtain ⟨u1, eu1, hf⟩ := Option.bind_eq_some_iff.mp hf
  refine cq_i (wc' := fun (u : (Nat → Int32) × (Int32)) => (wX2 cy qPa u.1 Pa_weights Pa_chance Pa_burnt Pa_engineMiles u.2 Pa_milesReckoned Pa_coalReckoned)) (ws' := fun (u : (Nat → Int32) × (Int32)) => (wX8 cy qSC (qWe 0) (qPa 0) (qHo 0) (qHb 0) (qTa 0) (qRe 0) (qVo 0) (qAg 0) (qDr 0) SC_faultPlace SC_refusedBy ++ (wX2 cy qPa u.1 Pa_weights Pa_chance Pa_burnt Pa_engineMiles u.2 Pa_milesReckoned Pa_coalReckoned))) (wc := (wX2 cy qPa Pa_sailMiles Pa_weights Pa_chance Pa_burnt Pa_engineMiles Pa_daysReckoned Pa_milesReckoned Pa_coalReckoned)) (wr := (wX8 cy qSC (qWe 0) (qPa 0) (qHo 0) (qHb 0) (qTa 0) (qRe 0) (qVo 0) (qAg 0) (qDr 0) SC_faultPlace SC_refusedBy)) C0 hP hD hS [1, 2, 3, 4, 5] [0] [0, 1, 2, 3, 4, 5] rfl rfl (by decide) (by decide) (by decide) (fun _ => rfl) (va_runV (As := [.int x1, .int x2]) (rest := [.ref (qSC 0)]) ⟨hx, hb, hml, hown, hts⟩ (c_X2_setSails l D cy qPa Pa_sailMiles Pa_weights Pa_chance Pa_burnt Pa_engineMiles Pa_daysReckoned Pa_milesReckoned Pa_coalReckoned H.size x1 x2 u1 eu1) (cwV 2 hts gX8_sails_X2_setSails rfl rfl rfl (by decide +kernel) ⟨Nat.le_of_ble_eq_true rfl, Nat.le_of_ble_eq_true rfl⟩) (pre_V (hP.sub (ws' := (wX2 cy qPa Pa_sailMiles Pa_weights Pa_chance Pa_burnt Pa_engineMiles Pa_daysReckoned Pa_milesReckoned Pa_coalReckoned)) [1, 2, 3, 4, 5] rfl) hK (hD.sub (ws' := (wX2 cy qPa Pa_sailMiles Pa_weights Pa_chance Pa_burnt Pa_engineMiles Pa_daysReckoned Pa_milesReckoned Pa_coalReckoned)) [1, 2, 3, 4, 5] (by decide) rfl) hN 2 0 rfl rfl) rfl rfl hl.1 rfl (lv_room (Nat.le_of_ble_eq_true rfl)) dX8_sails_7 ⟨Nat.zero_le _, Nat.zero_le _⟩) (fun r u H locs hw hP hD hS => ?_)
  obtain ⟨rfl, rfl⟩ := hw
  have hP : va_P D vwCl (wX8 cy qSC (qWe 0) (qPa 0) (qHo 0) (qHb 0) (qTa 0) (qRe 0) (qVo 0) (qAg 0) (qDr 0) SC_faultPlace SC_refusedBy ++ (wX2 cy qPa u1.2.1 Pa_weights Pa_chance Pa_burnt Pa_engineMiles u1.2.2 Pa_milesReckoned Pa_coalReckoned)) H := hP
  have hD : va_D A (wX8 cy qSC (qWe 0) (qPa 0) (qHo 0) (qHb 0) (qTa 0) (qRe 0) (qVo 0) (qAg 0) (qDr 0) SC_faultPlace SC_refusedBy ++ (wX2 cy qPa u1.2.1 Pa_weights Pa_chance Pa_burnt Pa_engineMiles u1.2.2 Pa_milesReckoned Pa_coalReckoned)) := hD
  obtain ⟨u2, eu2, hf⟩ := Option.bind_eq_some_iff.mp hf
  refine cq_i (wc' := fun (u : (Int32)) => (wX8 cy qSC (qWe 0) (qPa 0) (qHo 0) (qHb 0) (qTa 0) (qRe 0) (qVo 0) (qAg 0) (qDr 0) SC_faultPlace u)) (ws' := fun (u : (Int32)) => (wX8 cy qSC (qWe 0) (qPa 0) (qHo 0) (qHb 0) (qTa 0) (qRe 0) (qVo 0) (qAg 0) (qDr 0) SC_faultPlace u ++ (wX2 cy qPa u1.2.1 Pa_weights Pa_chance Pa_burnt Pa_engineMiles u1.2.2 Pa_milesReckoned Pa_coalReckoned))) (wc := (wX8 cy qSC (qWe 0) (qPa 0) (qHo 0) (qHb 0) (qTa 0) (qRe 0) (qVo 0) (qAg 0) (qDr 0) SC_faultPlace SC_refusedBy)) (wr := (wX2 cy qPa u1.2.1 Pa_weights Pa_chance Pa_burnt Pa_engineMiles u1.2.2 Pa_milesReckoned Pa_coalReckoned)) C0 hP hD hS [0] [1, 2, 3, 4, 5] [5, 0, 1, 2, 3, 4] rfl rfl (by decide) (by decide) (by decide) (fun _ => rfl) (va_runV (As := [.int u1.1]) (rest := []) ⟨hx, hb, hml, hown, hts⟩ (c_X8_answered l D cy qSC qWe qPa qHo qHb qTa qRe qVo qAg qDr SC_faultPlace SC_refusedBy H.size u1.1 u2 eu2) (cwV 1 hts gX8_sails_X8_answered rfl rfl rfl (by decide +kernel) ⟨Nat.le_of_ble_eq_true rfl, Nat.le_of_ble_eq_true rfl⟩) (pre_V (hP.sub (ws' := (wX8 cy qSC (qWe 0) (qPa 0) (qHo 0) (qHb 0) (qTa 0) (qRe 0) (qVo 0) (qAg 0) (qDr 0) SC_faultPlace SC_refusedBy)) [0] rfl) hK (hD.sub (ws' := (wX8 cy qSC (qWe 0) (qPa 0) (qHo 0) (qHb 0) (qTa 0) (qRe 0) (qVo 0) (qAg 0) (qDr 0) SC_faultPlace SC_refusedBy)) [0] (by decide) rfl) hN 8 0 rfl rfl) rfl rfl hl.1 rfl (lv_room (Nat.le_of_ble_eq_true rfl)) dX8_sails_10 ⟨Nat.zero_le _, Nat.zero_le _⟩) (fun r u H locs hw hP hD hS => ?_)
  obtain ⟨rfl, rfl⟩ := hw
  have hP : va_P D vwCl (wX8 cy qSC (qWe 0) (qPa 0) (qHo 0) (qHb 0) (qTa 0) (qRe 0) (qVo 0) (qAg 0) (qDr 0) SC_faultPlace u2.2 ++ (wX2 cy qPa u1.2.1 Pa_weights Pa_chance Pa_burnt Pa_engineMiles u1.2.2 Pa_milesReckoned Pa_coalReckoned)) H := hP
  have hD : va_D A (wX8 cy qSC (qWe 0) (qPa 0) (qHo 0) (qHb 0) (qTa 0) (qRe 0) (qVo 0) (qAg 0) (qDr 0) SC_faultPlace u2.2 ++ (wX2 cy qPa u1.2.1 Pa_weights Pa_chance Pa_burnt Pa_engineMiles u1.2.2 Pa_milesReckoned Pa_coalReckoned)) := hD
  exact rq_i C0 (u2.2, u1.2.1, u1.2.2) (pr_2 hf) hP hD hS dX8_sails_13

theorem i_X8_engine_X8 : ∀ w ∈ wsX80, w ∈ wsX8_engine := by decide +kernel
theorem m_X8_engine_f19 : Cond.fieldLink RX8 19 "SailCargo" "passage" "LSailCargo$Passage;" ∈ wsX8_engine := by decide +kernel
set_option maxHeartbeats 4000000 in
set_option maxRecDepth 100000 in
theorem c_X8_engine (l : Launch) (D : va_G) (cy : Nat → ClassId) (qSC qPa qWe qHo qHb qTa qRe qVo qAg qDr : Nat → Nat) (SC_faultPlace : Int32) (SC_refusedBy : Int32) (Pa_sailMiles : Nat → Int32) (Pa_weights : Nat → Int32) (Pa_chance : Nat → Int64) (Pa_burnt : Nat → Int64) (Pa_engineMiles : Int32) (Pa_daysReckoned : Int32) (Pa_milesReckoned : Int32) (Pa_coalReckoned : Int32) (sz : Nat) (x1 : Int32) (X : Int32 × (Int32) × (Int32) × (Int32)) (hf : f_X8_engine SC_refusedBy Pa_engineMiles Pa_daysReckoned x1 = some X) : Met l yX8_engine wsX8_engine ({ frames := 2, cells := 0, slots := 0, locals := 44 } : Room) (va_Pc [.ref (qSC 0), .int x1] (PW D cy (wX8 cy qSC (qWe 0) (qPa 0) (qHo 0) (qHb 0) (qTa 0) (qRe 0) (qVo 0) (qAg 0) (qDr 0) SC_faultPlace SC_refusedBy ++ (wX2 cy qPa Pa_sailMiles Pa_weights Pa_chance Pa_burnt Pa_engineMiles Pa_daysReckoned Pa_milesReckoned Pa_coalReckoned)) sz)) (va_Qi (fun (r : Int32) (u : (Int32) × (Int32) × (Int32)) => r = X.1 ∧ u = X.2) (fun u t => BW D cy (va_A (wX8 cy qSC (qWe 0) (qPa 0) (qHo 0) (qHb 0) (qTa 0) (qRe 0) (qVo 0) (qAg 0) (qDr 0) SC_faultPlace SC_refusedBy ++ (wX2 cy qPa Pa_sailMiles Pa_weights Pa_chance Pa_burnt Pa_engineMiles Pa_daysReckoned Pa_milesReckoned Pa_coalReckoned)) sz) (wX8 cy qSC (qWe 0) (qPa 0) (qHo 0) (qHb 0) (qTa 0) (qRe 0) (qVo 0) (qAg 0) (qDr 0) SC_faultPlace u.1 ++ (wX2 cy qPa Pa_sailMiles Pa_weights Pa_chance Pa_burnt u.2.1 u.2.2 Pa_milesReckoned Pa_coalReckoned)) t) (va_A (wX8 cy qSC (qWe 0) (qPa 0) (qHo 0) (qHb 0) (qTa 0) (qRe 0) (qVo 0) (qAg 0) (qDr 0) SC_faultPlace SC_refusedBy ++ (wX2 cy qPa Pa_sailMiles Pa_weights Pa_chance Pa_burnt Pa_engineMiles Pa_daysReckoned Pa_milesReckoned Pa_coalReckoned)) sz)) 0 0 (va_A (wX8 cy qSC (qWe 0) (qPa 0) (qHo 0) (qHb 0) (qTa 0) (qRe 0) (qVo 0) (qAg 0) (qDr 0) SC_faultPlace SC_refusedBy ++ (wX2 cy qPa Pa_sailMiles Pa_weights Pa_chance Pa_burnt Pa_engineMiles Pa_daysReckoned Pa_milesReckoned Pa_coalReckoned)) sz) := by
  refine met_enter (Qc := fun A => (va_Qi (fun (r : Int32) (u : (Int32) × (Int32) × (Int32)) => r = X.1 ∧ u = X.2) (fun u t => BW D cy A (wX8 cy qSC (qWe 0) (qPa 0) (qHo 0) (qHb 0) (qTa 0) (qRe 0) (qVo 0) (qAg 0) (qDr 0) SC_faultPlace u.1 ++ (wX2 cy qPa Pa_sailMiles Pa_weights Pa_chance Pa_burnt u.2.1 u.2.2 Pa_milesReckoned Pa_coalReckoned)) t) A)) (lv0 := [(0, .ref (qSC 0)), (1, .int x1)]) (by decide) rfl (Nat.le_of_ble_eq_true rfl) rfl ?_
  intro p e s m below meth c A ls hnm C0 hP hD hS hl
  generalize hH : s.heap = H at hP ⊢
  generalize hLoc : ([] : List Loc) = locs at hS ⊢
  have hS : va_S A s.heap H locs := by rw [← hH]; exact hS
  have C0 : CX cX8_engine 2 (some .int) RX8 wsX8_engine D cy p s m _ meth c A := C0
  obtain ⟨hx, hb, hr, hml, hown, hts, hK, hA, hN, hlocks⟩ := id C0
  unfold f_X8_engine at hf
  refine lv_aload_n hx hb dX8_engine_0 rfl (lv_at hl 0 rfl) ?_
  refine lv_aload_n hx hb dX8_engine_1 rfl (lv_at hl 0 rfl) ?_
  refine va_get (D := D) (ci := 8) (v := .ref (qPa 0)) (C := RX8) (T := TX8) (N := 11) hx hb hts i_X8_engine_X8 hown hK hP 0 rfl rfl 1 (by decide) (hts _ m_X8_engine_f19) (fun _ h9 => h9) rfl dX8_engine_2 ?_
  refine lv_iload_n hx hb dX8_engine_5 rfl (lv_at hl 1 rfl) ?_
  obtain ⟨u1, eu1, hf⟩ := Option.bind_eq_some_iff.mp hf
  refine cq_i (wc' := fun (u : (Int32) × (Int32)) => (wX2 cy qPa Pa_sailMiles Pa_weights Pa_chance Pa_burnt u.1 u.2 Pa_milesReckoned Pa_coalReckoned)) (ws' := fun (u : (Int32) × (Int32)) => (wX8 cy qSC (qWe 0) (qPa 0) (qHo 0) (qHb 0) (qTa 0) (qRe 0) (qVo 0) (qAg 0) (qDr 0) SC_faultPlace SC_refusedBy ++ (wX2 cy qPa Pa_sailMiles Pa_weights Pa_chance Pa_burnt u.1 u.2 Pa_milesReckoned Pa_coalReckoned))) (wc := (wX2 cy qPa Pa_sailMiles Pa_weights Pa_chance Pa_burnt Pa_engineMiles Pa_daysReckoned Pa_milesReckoned Pa_coalReckoned)) (wr := (wX8 cy qSC (qWe 0) (qPa 0) (qHo 0) (qHb 0) (qTa 0) (qRe 0) (qVo 0) (qAg 0) (qDr 0) SC_faultPlace SC_refusedBy)) C0 hP hD hS [1, 2, 3, 4, 5] [0] [0, 1, 2, 3, 4, 5] rfl rfl (by decide) (by decide) (by decide) (fun _ => rfl) (va_runV (As := [.int x1]) (rest := [.ref (qSC 0)]) ⟨hx, hb, hml, hown, hts⟩ (c_X2_setEngine l D cy qPa Pa_sailMiles Pa_weights Pa_chance Pa_burnt Pa_engineMiles Pa_daysReckoned Pa_milesReckoned Pa_coalReckoned H.size x1 u1 eu1) (cwV 1 hts gX8_engine_X2_setEngine rfl rfl rfl (by decide +kernel) ⟨Nat.le_of_ble_eq_true rfl, Nat.le_of_ble_eq_true rfl⟩) (pre_V (hP.sub (ws' := (wX2 cy qPa Pa_sailMiles Pa_weights Pa_chance Pa_burnt Pa_engineMiles Pa_daysReckoned Pa_milesReckoned Pa_coalReckoned)) [1, 2, 3, 4, 5] rfl) hK (hD.sub (ws' := (wX2 cy qPa Pa_sailMiles Pa_weights Pa_chance Pa_burnt Pa_engineMiles Pa_daysReckoned Pa_milesReckoned Pa_coalReckoned)) [1, 2, 3, 4, 5] (by decide) rfl) hN 2 0 rfl rfl) rfl rfl hl.1 rfl (lv_room (Nat.le_of_ble_eq_true rfl)) dX8_engine_6 ⟨Nat.zero_le _, Nat.zero_le _⟩) (fun r u H locs hw hP hD hS => ?_)
  obtain ⟨rfl, rfl⟩ := hw
  have hP : va_P D vwCl (wX8 cy qSC (qWe 0) (qPa 0) (qHo 0) (qHb 0) (qTa 0) (qRe 0) (qVo 0) (qAg 0) (qDr 0) SC_faultPlace SC_refusedBy ++ (wX2 cy qPa Pa_sailMiles Pa_weights Pa_chance Pa_burnt u1.2.1 u1.2.2 Pa_milesReckoned Pa_coalReckoned)) H := hP
  have hD : va_D A (wX8 cy qSC (qWe 0) (qPa 0) (qHo 0) (qHb 0) (qTa 0) (qRe 0) (qVo 0) (qAg 0) (qDr 0) SC_faultPlace SC_refusedBy ++ (wX2 cy qPa Pa_sailMiles Pa_weights Pa_chance Pa_burnt u1.2.1 u1.2.2 Pa_milesReckoned Pa_coalReckoned)) := hD
  obtain ⟨u2, eu2, hf⟩ := Option.bind_eq_some_iff.mp hf
  refine cq_i (wc' := fun (u : (Int32)) => (wX8 cy qSC (qWe 0) (qPa 0) (qHo 0) (qHb 0) (qTa 0) (qRe 0) (qVo 0) (qAg 0) (qDr 0) SC_faultPlace u)) (ws' := fun (u : (Int32)) => (wX8 cy qSC (qWe 0) (qPa 0) (qHo 0) (qHb 0) (qTa 0) (qRe 0) (qVo 0) (qAg 0) (qDr 0) SC_faultPlace u ++ (wX2 cy qPa Pa_sailMiles Pa_weights Pa_chance Pa_burnt u1.2.1 u1.2.2 Pa_milesReckoned Pa_coalReckoned))) (wc := (wX8 cy qSC (qWe 0) (qPa 0) (qHo 0) (qHb 0) (qTa 0) (qRe 0) (qVo 0) (qAg 0) (qDr 0) SC_faultPlace SC_refusedBy)) (wr := (wX2 cy qPa Pa_sailMiles Pa_weights Pa_chance Pa_burnt u1.2.1 u1.2.2 Pa_milesReckoned Pa_coalReckoned)) C0 hP hD hS [0] [1, 2, 3, 4, 5] [5, 0, 1, 2, 3, 4] rfl rfl (by decide) (by decide) (by decide) (fun _ => rfl) (va_runV (As := [.int u1.1]) (rest := []) ⟨hx, hb, hml, hown, hts⟩ (c_X8_answered l D cy qSC qWe qPa qHo qHb qTa qRe qVo qAg qDr SC_faultPlace SC_refusedBy H.size u1.1 u2 eu2) (cwV 1 hts gX8_engine_X8_answered rfl rfl rfl (by decide +kernel) ⟨Nat.le_of_ble_eq_true rfl, Nat.le_of_ble_eq_true rfl⟩) (pre_V (hP.sub (ws' := (wX8 cy qSC (qWe 0) (qPa 0) (qHo 0) (qHb 0) (qTa 0) (qRe 0) (qVo 0) (qAg 0) (qDr 0) SC_faultPlace SC_refusedBy)) [0] rfl) hK (hD.sub (ws' := (wX8 cy qSC (qWe 0) (qPa 0) (qHo 0) (qHb 0) (qTa 0) (qRe 0) (qVo 0) (qAg 0) (qDr 0) SC_faultPlace SC_refusedBy)) [0] (by decide) rfl) hN 8 0 rfl rfl) rfl rfl hl.1 rfl (lv_room (Nat.le_of_ble_eq_true rfl)) dX8_engine_9 ⟨Nat.zero_le _, Nat.zero_le _⟩) (fun r u H locs hw hP hD hS => ?_)
  obtain ⟨rfl, rfl⟩ := hw
  have hP : va_P D vwCl (wX8 cy qSC (qWe 0) (qPa 0) (qHo 0) (qHb 0) (qTa 0) (qRe 0) (qVo 0) (qAg 0) (qDr 0) SC_faultPlace u2.2 ++ (wX2 cy qPa Pa_sailMiles Pa_weights Pa_chance Pa_burnt u1.2.1 u1.2.2 Pa_milesReckoned Pa_coalReckoned)) H := hP
  have hD : va_D A (wX8 cy qSC (qWe 0) (qPa 0) (qHo 0) (qHb 0) (qTa 0) (qRe 0) (qVo 0) (qAg 0) (qDr 0) SC_faultPlace u2.2 ++ (wX2 cy qPa Pa_sailMiles Pa_weights Pa_chance Pa_burnt u1.2.1 u1.2.2 Pa_milesReckoned Pa_coalReckoned)) := hD
  exact rq_i C0 (u2.2, u1.2.1, u1.2.2) (pr_2 hf) hP hD hS dX8_engine_12

set_option maxHeartbeats 4000000 in
set_option maxRecDepth 100000 in
theorem c_X8_isPassage (l : Launch) (D : va_G) (cy : Nat → ClassId)   (sz : Nat) (x0 : Int32) (x1 : Int32) (x2 : Int32) (X : Int32) (hf : f_X8_isPassage x0 x1 x2 = some X) : Met l yX8_isPassage wsX8_isPassage ({ frames := 2, cells := 0, slots := 0, locals := 42 } : Room) (va_Pc [.int x0, .int x1, .int x2] (PW D cy ([] : va_W) sz)) (va_Qi (fun (r : Int32) (_ : Unit) => r = X) (fun u t => BW D cy (va_A ([] : va_W) sz) ([] : va_W) t) (va_A ([] : va_W) sz)) 0 0 (va_A ([] : va_W) sz) := by
  refine met_enter (Qc := fun A => (va_Qi (fun (r : Int32) (_ : Unit) => r = X) (fun u t => BW D cy A ([] : va_W) t) A)) (lv0 := [(0, .int x0), (1, .int x1), (2, .int x2)]) (by decide) rfl (Nat.le_of_ble_eq_true rfl) rfl ?_
  intro p e s m below meth c A ls hnm C0 hP hD hS hl
  generalize hH : s.heap = H at hP ⊢
  generalize hLoc : ([] : List Loc) = locs at hS ⊢
  have hS : va_S A s.heap H locs := by rw [← hH]; exact hS
  have C0 : CX cX8_isPassage 3 (some .boolean) RX8 wsX8_isPassage D cy p s m _ meth c A := C0
  obtain ⟨hx, hb, hr, hml, hown, hts, hK, hA, hN, hlocks⟩ := id C0
  unfold f_X8_isPassage at hf
  refine lv_iload_n hx hb dX8_isPassage_0 rfl (lv_at hl 0 rfl) ?_
  refine lv_iconst (v := (0 : Int32)) hx hb dX8_isPassage_1 (by decide) ?_
  refine lv_bipush (v := (120 : Int32)) hx hb dX8_isPassage_2 (by decide) ?_
  obtain ⟨u1, eu1, hf⟩ := Option.bind_eq_some_iff.mp hf
  refine cq_i (wc' := fun (u : Unit) => ([] : va_W)) (ws' := fun (u : Unit) => ([] : va_W)) (wc := ([] : va_W)) (wr := ([] : va_W)) C0 hP hD hS [] [] [] rfl rfl (by decide) (by decide) (by decide) (fun _ => rfl) (va_runS (As := [.int x0, .int (0 : Int32), .int (120 : Int32)]) (rest := []) ⟨hx, hb, hml, hown, hts⟩ (c_X8_isWithin l D cy   H.size x0 (0 : Int32) (120 : Int32) u1 eu1) (va_cwS 3 hts gX8_isPassage_X8_isWithin rfl rfl rfl (by decide +kernel) ⟨Nat.le_of_ble_eq_true rfl, Nat.le_of_ble_eq_true rfl⟩) (pre_S (hP.sub (ws' := ([] : va_W)) [] rfl) hK (hD.sub (ws' := ([] : va_W)) [] (by decide) rfl) hN) rfl rfl hl.1 rfl (lv_room (Nat.le_of_ble_eq_true rfl)) dX8_isPassage_4 ⟨Nat.zero_le _, Nat.zero_le _⟩) (fun r u H locs hw hP hD hS => ?_)
  have hw := hw.symm
  subst hw
  have hP : va_P D vwCl ([] : va_W) H := hP
  have hD : va_D A ([] : va_W) := hD
  refine lv_if_eq (tgt := 31) hx hb dX8_isPassage_7 (by decide) (fun hc2 => ?_) (fun hc2 => ?_)
  · have hf := ift hf hc2
    refine lv_iconst (v := (0 : Int32)) hx hb dX8_isPassage_31 (by decide) ?_
    exact rq_z C0 (by decide) () (Option.some.inj hf) hP hD hS dX8_isPassage_32
  · have hf := iff_ hf hc2
    refine lv_iload_n hx hb dX8_isPassage_10 rfl (lv_at hl 1 rfl) ?_
    refine lv_iconst (v := (0 : Int32)) hx hb dX8_isPassage_11 (by decide) ?_
    refine lv_bipush (v := (12 : Int32)) hx hb dX8_isPassage_12 (by decide) ?_
    obtain ⟨u3, eu3, hf⟩ := Option.bind_eq_some_iff.mp hf
    refine cq_i (wc' := fun (u : Unit) => ([] : va_W)) (ws' := fun (u : Unit) => ([] : va_W)) (wc := ([] : va_W)) (wr := ([] : va_W)) C0 hP hD hS [] [] [] rfl rfl (by decide) (by decide) (by decide) (fun _ => rfl) (va_runS (As := [.int x1, .int (0 : Int32), .int (12 : Int32)]) (rest := []) ⟨hx, hb, hml, hown, hts⟩ (c_X8_isWithin l D cy   H.size x1 (0 : Int32) (12 : Int32) u3 eu3) (va_cwS 3 hts gX8_isPassage_X8_isWithin rfl rfl rfl (by decide +kernel) ⟨Nat.le_of_ble_eq_true rfl, Nat.le_of_ble_eq_true rfl⟩) (pre_S (hP.sub (ws' := ([] : va_W)) [] rfl) hK (hD.sub (ws' := ([] : va_W)) [] (by decide) rfl) hN) rfl rfl hl.1 rfl (lv_room (Nat.le_of_ble_eq_true rfl)) dX8_isPassage_14 ⟨Nat.zero_le _, Nat.zero_le _⟩) (fun r u H locs hw hP hD hS => ?_)
    have hw := hw.symm
    subst hw
    have hP : va_P D vwCl ([] : va_W) H := hP
    have hD : va_D A ([] : va_W) := hD
    refine lv_if_eq (tgt := 31) hx hb dX8_isPassage_17 (by decide) (fun hc4 => ?_) (fun hc4 => ?_)
    · have hf := ift hf hc4
      refine lv_iconst (v := (0 : Int32)) hx hb dX8_isPassage_31 (by decide) ?_
      exact rq_z C0 (by decide) () (Option.some.inj hf) hP hD hS dX8_isPassage_32
    · have hf := iff_ hf hc4
      refine lv_iload_n hx hb dX8_isPassage_20 rfl (lv_at hl 2 rfl) ?_
      obtain ⟨u5, eu5, hf⟩ := Option.bind_eq_some_iff.mp hf
      refine cq_i (wc' := fun (u : Unit) => ([] : va_W)) (ws' := fun (u : Unit) => ([] : va_W)) (wc := ([] : va_W)) (wr := ([] : va_W)) C0 hP hD hS [] [] [] rfl rfl (by decide) (by decide) (by decide) (fun _ => rfl) (va_runS (As := [.int x2]) (rest := []) ⟨hx, hb, hml, hown, hts⟩ (c_X8_isKnownDay l D cy   H.size x2 u5 eu5) (va_cwS 1 hts gX8_isPassage_X8_isKnownDay rfl rfl rfl (by decide +kernel) ⟨Nat.le_of_ble_eq_true rfl, Nat.le_of_ble_eq_true rfl⟩) (pre_S (hP.sub (ws' := ([] : va_W)) [] rfl) hK (hD.sub (ws' := ([] : va_W)) [] (by decide) rfl) hN) rfl rfl hl.1 rfl (lv_room (Nat.le_of_ble_eq_true rfl)) dX8_isPassage_21 ⟨Nat.zero_le _, Nat.zero_le _⟩) (fun r u H locs hw hP hD hS => ?_)
      have hw := hw.symm
      subst hw
      have hP : va_P D vwCl ([] : va_W) H := hP
      have hD : va_D A ([] : va_W) := hD
      refine lv_if_eq (tgt := 31) hx hb dX8_isPassage_24 (by decide) (fun hc6 => ?_) (fun hc6 => ?_)
      · have hf := ift hf hc6
        refine lv_iconst (v := (0 : Int32)) hx hb dX8_isPassage_31 (by decide) ?_
        exact rq_z C0 (by decide) () (Option.some.inj hf) hP hD hS dX8_isPassage_32
      · have hf := iff_ hf hc6
        refine lv_iconst (v := (1 : Int32)) hx hb dX8_isPassage_27 (by decide) ?_
        refine lv_goto (tgt := 32) hx hb dX8_isPassage_28 (by decide) ?_
        exact rq_z C0 (by decide) () (Option.some.inj hf) hP hD hS dX8_isPassage_32

theorem m_X8_luck_c111 : Cond.constantLong RX8 111 (-1) ∈ wsX8_luck := by decide +kernel
theorem i_X8_luck_X8 : ∀ w ∈ wsX80, w ∈ wsX8_luck := by decide +kernel
theorem m_X8_luck_f19 : Cond.fieldLink RX8 19 "SailCargo" "passage" "LSailCargo$Passage;" ∈ wsX8_luck := by decide +kernel
theorem m_X8_luck_f10 : Cond.fieldLink RX8 10 "SailCargo" "weather" "LSailCargo$Weather;" ∈ wsX8_luck := by decide +kernel
set_option maxHeartbeats 4000000 in
set_option maxRecDepth 100000 in
theorem c_X8_luck (l : Launch) (D : va_G) (cy : Nat → ClassId) (qSC qPa qWe qHo qHb qTa qRe qVo qAg qDr : Nat → Nat) (SC_faultPlace : Int32) (SC_refusedBy : Int32) (Pa_sailMiles : Nat → Int32) (Pa_weights : Nat → Int32) (Pa_chance : Nat → Int64) (Pa_burnt : Nat → Int64) (Pa_engineMiles : Int32) (Pa_daysReckoned : Int32) (Pa_milesReckoned : Int32) (Pa_coalReckoned : Int32) (We_weights : Nat → Int32) (We_knownFrom : Nat → Int32) (We_told : Int32) (sz : Nat) (x1 : Int32) (x2 : Int32) (x3 : Int32) (x4 : Int32) (x5 : Int32) (X : Int64 × (Nat → Int32) × (Nat → Int64) × (Nat → Int64) × (Int32) × (Int32) × (Int32)) (hf : f_X8_luck Pa_sailMiles Pa_weights Pa_chance Pa_burnt Pa_engineMiles Pa_daysReckoned Pa_milesReckoned Pa_coalReckoned We_weights We_knownFrom We_told x1 x2 x3 x4 x5 = some X) : Met l yX8_luck wsX8_luck ({ frames := 6, cells := 0, slots := 0, locals := 149 } : Room) (va_Pc [.ref (qSC 0), .int x1, .int x2, .int x3, .int x4, .int x5] (PW D cy (wX8 cy qSC (qWe 0) (qPa 0) (qHo 0) (qHb 0) (qTa 0) (qRe 0) (qVo 0) (qAg 0) (qDr 0) SC_faultPlace SC_refusedBy ++ (wX2 cy qPa Pa_sailMiles Pa_weights Pa_chance Pa_burnt Pa_engineMiles Pa_daysReckoned Pa_milesReckoned Pa_coalReckoned ++ (wX7 cy qWe We_weights We_knownFrom We_told))) sz)) (va_Ql (fun (r : Int64) (u : (Nat → Int32) × (Nat → Int64) × (Nat → Int64) × (Int32) × (Int32) × (Int32)) => r = X.1 ∧ u = X.2) (fun u t => BW D cy (va_A (wX8 cy qSC (qWe 0) (qPa 0) (qHo 0) (qHb 0) (qTa 0) (qRe 0) (qVo 0) (qAg 0) (qDr 0) SC_faultPlace SC_refusedBy ++ (wX2 cy qPa Pa_sailMiles Pa_weights Pa_chance Pa_burnt Pa_engineMiles Pa_daysReckoned Pa_milesReckoned Pa_coalReckoned ++ (wX7 cy qWe We_weights We_knownFrom We_told))) sz) (wX8 cy qSC (qWe 0) (qPa 0) (qHo 0) (qHb 0) (qTa 0) (qRe 0) (qVo 0) (qAg 0) (qDr 0) SC_faultPlace SC_refusedBy ++ (wX2 cy qPa Pa_sailMiles u.1 u.2.1 u.2.2.1 Pa_engineMiles u.2.2.2.1 u.2.2.2.2.1 u.2.2.2.2.2 ++ (wX7 cy qWe We_weights We_knownFrom We_told))) t) (va_A (wX8 cy qSC (qWe 0) (qPa 0) (qHo 0) (qHb 0) (qTa 0) (qRe 0) (qVo 0) (qAg 0) (qDr 0) SC_faultPlace SC_refusedBy ++ (wX2 cy qPa Pa_sailMiles Pa_weights Pa_chance Pa_burnt Pa_engineMiles Pa_daysReckoned Pa_milesReckoned Pa_coalReckoned ++ (wX7 cy qWe We_weights We_knownFrom We_told))) sz)) 0 0 (va_A (wX8 cy qSC (qWe 0) (qPa 0) (qHo 0) (qHb 0) (qTa 0) (qRe 0) (qVo 0) (qAg 0) (qDr 0) SC_faultPlace SC_refusedBy ++ (wX2 cy qPa Pa_sailMiles Pa_weights Pa_chance Pa_burnt Pa_engineMiles Pa_daysReckoned Pa_milesReckoned Pa_coalReckoned ++ (wX7 cy qWe We_weights We_knownFrom We_told))) sz) := by
  refine met_enter (Qc := fun A => (va_Ql (fun (r : Int64) (u : (Nat → Int32) × (Nat → Int64) × (Nat → Int64) × (Int32) × (Int32) × (Int32)) => r = X.1 ∧ u = X.2) (fun u t => BW D cy A (wX8 cy qSC (qWe 0) (qPa 0) (qHo 0) (qHb 0) (qTa 0) (qRe 0) (qVo 0) (qAg 0) (qDr 0) SC_faultPlace SC_refusedBy ++ (wX2 cy qPa Pa_sailMiles u.1 u.2.1 u.2.2.1 Pa_engineMiles u.2.2.2.1 u.2.2.2.2.1 u.2.2.2.2.2 ++ (wX7 cy qWe We_weights We_knownFrom We_told))) t) A)) (lv0 := [(0, .ref (qSC 0)), (1, .int x1), (2, .int x2), (3, .int x3), (4, .int x4), (5, .int x5)]) (by decide) rfl (Nat.le_of_ble_eq_true rfl) rfl ?_
  intro p e s m below meth c A ls hnm C0 hP hD hS hl
  generalize hH : s.heap = H at hP ⊢
  generalize hLoc : ([] : List Loc) = locs at hS ⊢
  have hS : va_S A s.heap H locs := by rw [← hH]; exact hS
  have C0 : CX cX8_luck 6 (some .long) RX8 wsX8_luck D cy p s m _ meth c A := C0
  obtain ⟨hx, hb, hr, hml, hown, hts, hK, hA, hN, hlocks⟩ := id C0
  unfold f_X8_luck at hf
  refine lv_iload_n hx hb dX8_luck_0 rfl (lv_at hl 1 rfl) ?_
  refine lv_iload_n hx hb dX8_luck_1 rfl (lv_at hl 3 rfl) ?_
  refine lv_iload hx hb dX8_luck_2 (lv_at hl 4 rfl) ?_
  obtain ⟨u1, eu1, hf⟩ := Option.bind_eq_some_iff.mp hf
  refine cq_i (wc' := fun (u : Unit) => ([] : va_W)) (ws' := fun (u : Unit) => (wX8 cy qSC (qWe 0) (qPa 0) (qHo 0) (qHb 0) (qTa 0) (qRe 0) (qVo 0) (qAg 0) (qDr 0) SC_faultPlace SC_refusedBy ++ (wX2 cy qPa Pa_sailMiles Pa_weights Pa_chance Pa_burnt Pa_engineMiles Pa_daysReckoned Pa_milesReckoned Pa_coalReckoned ++ (wX7 cy qWe We_weights We_knownFrom We_told)))) (wc := ([] : va_W)) (wr := (wX8 cy qSC (qWe 0) (qPa 0) (qHo 0) (qHb 0) (qTa 0) (qRe 0) (qVo 0) (qAg 0) (qDr 0) SC_faultPlace SC_refusedBy ++ (wX2 cy qPa Pa_sailMiles Pa_weights Pa_chance Pa_burnt Pa_engineMiles Pa_daysReckoned Pa_milesReckoned Pa_coalReckoned ++ (wX7 cy qWe We_weights We_knownFrom We_told)))) C0 hP hD hS [] [0, 1, 2, 3, 4, 5, 6, 7, 8] [0, 1, 2, 3, 4, 5, 6, 7, 8] rfl rfl (by decide) (by decide) (by decide) (fun _ => rfl) (va_runS (As := [.int x1, .int x3, .int x4]) (rest := []) ⟨hx, hb, hml, hown, hts⟩ (c_X8_isPassage l D cy   H.size x1 x3 x4 u1 eu1) (va_cwS 3 hts gX8_luck_X8_isPassage rfl rfl rfl (by decide +kernel) ⟨Nat.le_of_ble_eq_true rfl, Nat.le_of_ble_eq_true rfl⟩) (pre_S (hP.sub (ws' := ([] : va_W)) [] rfl) hK (hD.sub (ws' := ([] : va_W)) [] (by decide) rfl) hN) rfl rfl hl.1 rfl (lv_room (Nat.le_of_ble_eq_true rfl)) dX8_luck_4 ⟨Nat.zero_le _, Nat.zero_le _⟩) (fun r u H locs hw hP hD hS => ?_)
  have hw := hw.symm
  subst hw
  have hP : va_P D vwCl (wX8 cy qSC (qWe 0) (qPa 0) (qHo 0) (qHb 0) (qTa 0) (qRe 0) (qVo 0) (qAg 0) (qDr 0) SC_faultPlace SC_refusedBy ++ (wX2 cy qPa Pa_sailMiles Pa_weights Pa_chance Pa_burnt Pa_engineMiles Pa_daysReckoned Pa_milesReckoned Pa_coalReckoned ++ (wX7 cy qWe We_weights We_knownFrom We_told))) H := hP
  have hD : va_D A (wX8 cy qSC (qWe 0) (qPa 0) (qHo 0) (qHb 0) (qTa 0) (qRe 0) (qVo 0) (qAg 0) (qDr 0) SC_faultPlace SC_refusedBy ++ (wX2 cy qPa Pa_sailMiles Pa_weights Pa_chance Pa_burnt Pa_engineMiles Pa_daysReckoned Pa_milesReckoned Pa_coalReckoned ++ (wX7 cy qWe We_weights We_knownFrom We_told))) := hD
  refine lv_if_eq (tgt := 30) hx hb dX8_luck_7 (by decide) (fun hc2 => ?_) (fun hc2 => ?_)
  · have hf := ift hf hc2
    refine lv_ldc2 (v := (-1 : Int64)) hx hb hown (hts _ m_X8_luck_c111) dX8_luck_30 ?_
    exact rq_l C0 (Pa_weights, Pa_chance, Pa_burnt, Pa_daysReckoned, Pa_milesReckoned, Pa_coalReckoned) (pr_2 hf) hP hD hS dX8_luck_33
  · have hf := iff_ hf hc2
    refine lv_iload_n hx hb dX8_luck_10 rfl (lv_at hl 2 rfl) ?_
    refine lv_iconst (v := (0 : Int32)) hx hb dX8_luck_11 (by decide) ?_
    refine lv_bipush (v := (12 : Int32)) hx hb dX8_luck_12 (by decide) ?_
    obtain ⟨u3, eu3, hf⟩ := Option.bind_eq_some_iff.mp hf
    refine cq_i (wc' := fun (u : Unit) => ([] : va_W)) (ws' := fun (u : Unit) => (wX8 cy qSC (qWe 0) (qPa 0) (qHo 0) (qHb 0) (qTa 0) (qRe 0) (qVo 0) (qAg 0) (qDr 0) SC_faultPlace SC_refusedBy ++ (wX2 cy qPa Pa_sailMiles Pa_weights Pa_chance Pa_burnt Pa_engineMiles Pa_daysReckoned Pa_milesReckoned Pa_coalReckoned ++ (wX7 cy qWe We_weights We_knownFrom We_told)))) (wc := ([] : va_W)) (wr := (wX8 cy qSC (qWe 0) (qPa 0) (qHo 0) (qHb 0) (qTa 0) (qRe 0) (qVo 0) (qAg 0) (qDr 0) SC_faultPlace SC_refusedBy ++ (wX2 cy qPa Pa_sailMiles Pa_weights Pa_chance Pa_burnt Pa_engineMiles Pa_daysReckoned Pa_milesReckoned Pa_coalReckoned ++ (wX7 cy qWe We_weights We_knownFrom We_told)))) C0 hP hD hS [] [0, 1, 2, 3, 4, 5, 6, 7, 8] [0, 1, 2, 3, 4, 5, 6, 7, 8] rfl rfl (by decide) (by decide) (by decide) (fun _ => rfl) (va_runS (As := [.int x2, .int (0 : Int32), .int (12 : Int32)]) (rest := []) ⟨hx, hb, hml, hown, hts⟩ (c_X8_isWithin l D cy   H.size x2 (0 : Int32) (12 : Int32) u3 eu3) (va_cwS 3 hts gX8_luck_X8_isWithin rfl rfl rfl (by decide +kernel) ⟨Nat.le_of_ble_eq_true rfl, Nat.le_of_ble_eq_true rfl⟩) (pre_S (hP.sub (ws' := ([] : va_W)) [] rfl) hK (hD.sub (ws' := ([] : va_W)) [] (by decide) rfl) hN) rfl rfl hl.1 rfl (lv_room (Nat.le_of_ble_eq_true rfl)) dX8_luck_14 ⟨Nat.zero_le _, Nat.zero_le _⟩) (fun r u H locs hw hP hD hS => ?_)
    have hw := hw.symm
    subst hw
    have hP : va_P D vwCl (wX8 cy qSC (qWe 0) (qPa 0) (qHo 0) (qHb 0) (qTa 0) (qRe 0) (qVo 0) (qAg 0) (qDr 0) SC_faultPlace SC_refusedBy ++ (wX2 cy qPa Pa_sailMiles Pa_weights Pa_chance Pa_burnt Pa_engineMiles Pa_daysReckoned Pa_milesReckoned Pa_coalReckoned ++ (wX7 cy qWe We_weights We_knownFrom We_told))) H := hP
    have hD : va_D A (wX8 cy qSC (qWe 0) (qPa 0) (qHo 0) (qHb 0) (qTa 0) (qRe 0) (qVo 0) (qAg 0) (qDr 0) SC_faultPlace SC_refusedBy ++ (wX2 cy qPa Pa_sailMiles Pa_weights Pa_chance Pa_burnt Pa_engineMiles Pa_daysReckoned Pa_milesReckoned Pa_coalReckoned ++ (wX7 cy qWe We_weights We_knownFrom We_told))) := hD
    refine lv_if_eq (tgt := 30) hx hb dX8_luck_17 (by decide) (fun hc4 => ?_) (fun hc4 => ?_)
    · have hf := ift hf hc4
      refine lv_ldc2 (v := (-1 : Int64)) hx hb hown (hts _ m_X8_luck_c111) dX8_luck_30 ?_
      exact rq_l C0 (Pa_weights, Pa_chance, Pa_burnt, Pa_daysReckoned, Pa_milesReckoned, Pa_coalReckoned) (pr_2 hf) hP hD hS dX8_luck_33
    · have hf := iff_ hf hc4
      refine lv_iload hx hb dX8_luck_20 (lv_at hl 5 rfl) ?_
      refine lv_iconst (v := (0 : Int32)) hx hb dX8_luck_22 (by decide) ?_
      refine lv_iconst (v := (1 : Int32)) hx hb dX8_luck_23 (by decide) ?_
      obtain ⟨u5, eu5, hf⟩ := Option.bind_eq_some_iff.mp hf
      refine cq_i (wc' := fun (u : Unit) => ([] : va_W)) (ws' := fun (u : Unit) => (wX8 cy qSC (qWe 0) (qPa 0) (qHo 0) (qHb 0) (qTa 0) (qRe 0) (qVo 0) (qAg 0) (qDr 0) SC_faultPlace SC_refusedBy ++ (wX2 cy qPa Pa_sailMiles Pa_weights Pa_chance Pa_burnt Pa_engineMiles Pa_daysReckoned Pa_milesReckoned Pa_coalReckoned ++ (wX7 cy qWe We_weights We_knownFrom We_told)))) (wc := ([] : va_W)) (wr := (wX8 cy qSC (qWe 0) (qPa 0) (qHo 0) (qHb 0) (qTa 0) (qRe 0) (qVo 0) (qAg 0) (qDr 0) SC_faultPlace SC_refusedBy ++ (wX2 cy qPa Pa_sailMiles Pa_weights Pa_chance Pa_burnt Pa_engineMiles Pa_daysReckoned Pa_milesReckoned Pa_coalReckoned ++ (wX7 cy qWe We_weights We_knownFrom We_told)))) C0 hP hD hS [] [0, 1, 2, 3, 4, 5, 6, 7, 8] [0, 1, 2, 3, 4, 5, 6, 7, 8] rfl rfl (by decide) (by decide) (by decide) (fun _ => rfl) (va_runS (As := [.int x5, .int (0 : Int32), .int (1 : Int32)]) (rest := []) ⟨hx, hb, hml, hown, hts⟩ (c_X8_isWithin l D cy   H.size x5 (0 : Int32) (1 : Int32) u5 eu5) (va_cwS 3 hts gX8_luck_X8_isWithin rfl rfl rfl (by decide +kernel) ⟨Nat.le_of_ble_eq_true rfl, Nat.le_of_ble_eq_true rfl⟩) (pre_S (hP.sub (ws' := ([] : va_W)) [] rfl) hK (hD.sub (ws' := ([] : va_W)) [] (by decide) rfl) hN) rfl rfl hl.1 rfl (lv_room (Nat.le_of_ble_eq_true rfl)) dX8_luck_24 ⟨Nat.zero_le _, Nat.zero_le _⟩) (fun r u H locs hw hP hD hS => ?_)
      have hw := hw.symm
      subst hw
      have hP : va_P D vwCl (wX8 cy qSC (qWe 0) (qPa 0) (qHo 0) (qHb 0) (qTa 0) (qRe 0) (qVo 0) (qAg 0) (qDr 0) SC_faultPlace SC_refusedBy ++ (wX2 cy qPa Pa_sailMiles Pa_weights Pa_chance Pa_burnt Pa_engineMiles Pa_daysReckoned Pa_milesReckoned Pa_coalReckoned ++ (wX7 cy qWe We_weights We_knownFrom We_told))) H := hP
      have hD : va_D A (wX8 cy qSC (qWe 0) (qPa 0) (qHo 0) (qHb 0) (qTa 0) (qRe 0) (qVo 0) (qAg 0) (qDr 0) SC_faultPlace SC_refusedBy ++ (wX2 cy qPa Pa_sailMiles Pa_weights Pa_chance Pa_burnt Pa_engineMiles Pa_daysReckoned Pa_milesReckoned Pa_coalReckoned ++ (wX7 cy qWe We_weights We_knownFrom We_told))) := hD
      refine lv_if_ne (tgt := 34) hx hb dX8_luck_27 (by decide) (fun hc6 => ?_) (fun hc6 => ?_)
      · have hf := iff_ hf hc6
        refine lv_aload_n hx hb dX8_luck_34 rfl (lv_at hl 0 rfl) ?_
        refine va_get (D := D) (ci := 8) (v := .ref (qPa 0)) (C := RX8) (T := TX8) (N := 11) hx hb hts i_X8_luck_X8 hown hK hP 0 rfl rfl 1 (by decide) (hts _ m_X8_luck_f19) (fun _ h9 => h9) rfl dX8_luck_35 ?_
        refine lv_aload_n hx hb dX8_luck_38 rfl (lv_at hl 0 rfl) ?_
        refine va_get (D := D) (ci := 8) (v := .ref (qWe 0)) (C := RX8) (T := TX8) (N := 11) hx hb hts i_X8_luck_X8 hown hK hP 0 rfl rfl 0 (by decide) (hts _ m_X8_luck_f10) (fun _ h9 => h9) rfl dX8_luck_39 ?_
        refine lv_iload hx hb dX8_luck_42 (lv_at hl 4 rfl) ?_
        obtain ⟨u7, eu7, hf⟩ := Option.bind_eq_some_iff.mp hf
        refine cq_v (wc' := fun (u : (Nat → Int32) × (Int32)) => (wX2 cy qPa Pa_sailMiles u.1 Pa_chance Pa_burnt Pa_engineMiles u.2 Pa_milesReckoned Pa_coalReckoned ++ (wX7 cy qWe We_weights We_knownFrom We_told))) (ws' := fun (u : (Nat → Int32) × (Int32)) => (wX8 cy qSC (qWe 0) (qPa 0) (qHo 0) (qHb 0) (qTa 0) (qRe 0) (qVo 0) (qAg 0) (qDr 0) SC_faultPlace SC_refusedBy ++ (wX2 cy qPa Pa_sailMiles u.1 Pa_chance Pa_burnt Pa_engineMiles u.2 Pa_milesReckoned Pa_coalReckoned ++ (wX7 cy qWe We_weights We_knownFrom We_told)))) (wc := (wX2 cy qPa Pa_sailMiles Pa_weights Pa_chance Pa_burnt Pa_engineMiles Pa_daysReckoned Pa_milesReckoned Pa_coalReckoned ++ (wX7 cy qWe We_weights We_knownFrom We_told))) (wr := (wX8 cy qSC (qWe 0) (qPa 0) (qHo 0) (qHb 0) (qTa 0) (qRe 0) (qVo 0) (qAg 0) (qDr 0) SC_faultPlace SC_refusedBy)) C0 hP hD hS [1, 2, 3, 4, 5, 6, 7, 8] [0] [0, 1, 2, 3, 4, 5, 6, 7, 8] rfl rfl (by decide) (by decide) (by decide) (fun _ => rfl) (va_runV (As := [.ref (qWe 0), .int x4]) (rest := []) ⟨hx, hb, hml, hown, hts⟩ (c_X2_know l D cy qPa qWe Pa_sailMiles Pa_weights Pa_chance Pa_burnt Pa_engineMiles Pa_daysReckoned Pa_milesReckoned Pa_coalReckoned We_weights We_knownFrom We_told H.size x4 u7 eu7) (cwV 2 hts gX8_luck_X2_know rfl rfl rfl (by decide +kernel) ⟨Nat.le_of_ble_eq_true rfl, Nat.le_of_ble_eq_true rfl⟩) (pre_V (hP.sub (ws' := (wX2 cy qPa Pa_sailMiles Pa_weights Pa_chance Pa_burnt Pa_engineMiles Pa_daysReckoned Pa_milesReckoned Pa_coalReckoned ++ (wX7 cy qWe We_weights We_knownFrom We_told))) [1, 2, 3, 4, 5, 6, 7, 8] rfl) hK (hD.sub (ws' := (wX2 cy qPa Pa_sailMiles Pa_weights Pa_chance Pa_burnt Pa_engineMiles Pa_daysReckoned Pa_milesReckoned Pa_coalReckoned ++ (wX7 cy qWe We_weights We_knownFrom We_told))) [1, 2, 3, 4, 5, 6, 7, 8] (by decide) rfl) hN 2 0 rfl rfl) rfl rfl hl.1 rfl (lv_room (Nat.le_of_ble_eq_true rfl)) dX8_luck_44 ⟨Nat.zero_le _, Nat.zero_le _⟩) (fun u H locs hw hP hD hS => ?_)
        have hw := hw.symm
        subst hw
        have hP : va_P D vwCl (wX8 cy qSC (qWe 0) (qPa 0) (qHo 0) (qHb 0) (qTa 0) (qRe 0) (qVo 0) (qAg 0) (qDr 0) SC_faultPlace SC_refusedBy ++ (wX2 cy qPa Pa_sailMiles u7.1 Pa_chance Pa_burnt Pa_engineMiles u7.2 Pa_milesReckoned Pa_coalReckoned ++ (wX7 cy qWe We_weights We_knownFrom We_told))) H := hP
        have hD : va_D A (wX8 cy qSC (qWe 0) (qPa 0) (qHo 0) (qHb 0) (qTa 0) (qRe 0) (qVo 0) (qAg 0) (qDr 0) SC_faultPlace SC_refusedBy ++ (wX2 cy qPa Pa_sailMiles u7.1 Pa_chance Pa_burnt Pa_engineMiles u7.2 Pa_milesReckoned Pa_coalReckoned ++ (wX7 cy qWe We_weights We_knownFrom We_told))) := hD
        refine lv_aload_n hx hb dX8_luck_47 rfl (lv_at hl 0 rfl) ?_
        refine va_get (D := D) (ci := 8) (v := .ref (qPa 0)) (C := RX8) (T := TX8) (N := 11) hx hb hts i_X8_luck_X8 hown hK hP 0 rfl rfl 1 (by decide) (hts _ m_X8_luck_f19) (fun _ h9 => h9) rfl dX8_luck_48 ?_
        refine lv_iload_n hx hb dX8_luck_51 rfl (lv_at hl 1 rfl) ?_
        refine lv_iload_n hx hb dX8_luck_52 rfl (lv_at hl 2 rfl) ?_
        refine lv_iload_n hx hb dX8_luck_53 rfl (lv_at hl 3 rfl) ?_
        obtain ⟨u8, eu8, hf⟩ := Option.bind_eq_some_iff.mp hf
        refine cq_v (wc' := fun (u : (Nat → Int64) × (Nat → Int64) × (Int32) × (Int32) × (Int32)) => (wX2 cy qPa Pa_sailMiles u7.1 u.1 u.2.1 Pa_engineMiles u.2.2.1 u.2.2.2.1 u.2.2.2.2)) (ws' := fun (u : (Nat → Int64) × (Nat → Int64) × (Int32) × (Int32) × (Int32)) => (wX8 cy qSC (qWe 0) (qPa 0) (qHo 0) (qHb 0) (qTa 0) (qRe 0) (qVo 0) (qAg 0) (qDr 0) SC_faultPlace SC_refusedBy ++ (wX2 cy qPa Pa_sailMiles u7.1 u.1 u.2.1 Pa_engineMiles u.2.2.1 u.2.2.2.1 u.2.2.2.2 ++ (wX7 cy qWe We_weights We_knownFrom We_told)))) (wc := (wX2 cy qPa Pa_sailMiles u7.1 Pa_chance Pa_burnt Pa_engineMiles u7.2 Pa_milesReckoned Pa_coalReckoned)) (wr := (wX8 cy qSC (qWe 0) (qPa 0) (qHo 0) (qHb 0) (qTa 0) (qRe 0) (qVo 0) (qAg 0) (qDr 0) SC_faultPlace SC_refusedBy ++ (wX7 cy qWe We_weights We_knownFrom We_told))) C0 hP hD hS [1, 2, 3, 4, 5] [0, 6, 7, 8] [0, 4, 5, 6, 7, 8, 1, 2, 3] rfl rfl (by decide) (by decide) (by decide) (fun _ => rfl) (va_runV (As := [.int x1, .int x2, .int x3]) (rest := []) ⟨hx, hb, hml, hown, hts⟩ (c_X2_reckon l D cy qPa Pa_sailMiles u7.1 Pa_chance Pa_burnt Pa_engineMiles u7.2 Pa_milesReckoned Pa_coalReckoned H.size x1 x2 x3 u8 eu8) (cwV 3 hts gX8_luck_X2_reckon rfl rfl rfl (by decide +kernel) ⟨Nat.le_of_ble_eq_true rfl, Nat.le_of_ble_eq_true rfl⟩) (pre_V (hP.sub (ws' := (wX2 cy qPa Pa_sailMiles u7.1 Pa_chance Pa_burnt Pa_engineMiles u7.2 Pa_milesReckoned Pa_coalReckoned)) [1, 2, 3, 4, 5] rfl) hK (hD.sub (ws' := (wX2 cy qPa Pa_sailMiles u7.1 Pa_chance Pa_burnt Pa_engineMiles u7.2 Pa_milesReckoned Pa_coalReckoned)) [1, 2, 3, 4, 5] (by decide) rfl) hN 2 0 rfl rfl) rfl rfl hl.1 rfl (lv_room (Nat.le_of_ble_eq_true rfl)) dX8_luck_54 ⟨Nat.zero_le _, Nat.zero_le _⟩) (fun u H locs hw hP hD hS => ?_)
        have hw := hw.symm
        subst hw
        have hP : va_P D vwCl (wX8 cy qSC (qWe 0) (qPa 0) (qHo 0) (qHb 0) (qTa 0) (qRe 0) (qVo 0) (qAg 0) (qDr 0) SC_faultPlace SC_refusedBy ++ (wX2 cy qPa Pa_sailMiles u7.1 u8.1 u8.2.1 Pa_engineMiles u8.2.2.1 u8.2.2.2.1 u8.2.2.2.2 ++ (wX7 cy qWe We_weights We_knownFrom We_told))) H := hP
        have hD : va_D A (wX8 cy qSC (qWe 0) (qPa 0) (qHo 0) (qHb 0) (qTa 0) (qRe 0) (qVo 0) (qAg 0) (qDr 0) SC_faultPlace SC_refusedBy ++ (wX2 cy qPa Pa_sailMiles u7.1 u8.1 u8.2.1 Pa_engineMiles u8.2.2.1 u8.2.2.2.1 u8.2.2.2.2 ++ (wX7 cy qWe We_weights We_knownFrom We_told))) := hD
        refine lv_iload hx hb dX8_luck_57 (lv_at hl 5 rfl) ?_
        refine lv_if_ne (tgt := 75) hx hb dX8_luck_59 (by decide) (fun hc9 => ?_) (fun hc9 => ?_)
        · have hf := iff_ hf hc9
          refine lv_aload_n hx hb dX8_luck_75 rfl (lv_at hl 0 rfl) ?_
          refine va_get (D := D) (ci := 8) (v := .ref (qPa 0)) (C := RX8) (T := TX8) (N := 11) hx hb hts i_X8_luck_X8 hown hK hP 0 rfl rfl 1 (by decide) (hts _ m_X8_luck_f19) (fun _ h9 => h9) rfl dX8_luck_76 ?_
          refine lv_iload_n hx hb dX8_luck_79 rfl (lv_at hl 1 rfl) ?_
          refine lv_iload_n hx hb dX8_luck_80 rfl (lv_at hl 2 rfl) ?_
          refine lv_iload_n hx hb dX8_luck_81 rfl (lv_at hl 3 rfl) ?_
          obtain ⟨u10, eu10, hf⟩ := Option.bind_eq_some_iff.mp hf
          refine cq_l (wc' := fun (u : Unit) => (wX2 cy qPa Pa_sailMiles u7.1 u8.1 u8.2.1 Pa_engineMiles u8.2.2.1 u8.2.2.2.1 u8.2.2.2.2)) (ws' := fun (u : Unit) => (wX8 cy qSC (qWe 0) (qPa 0) (qHo 0) (qHb 0) (qTa 0) (qRe 0) (qVo 0) (qAg 0) (qDr 0) SC_faultPlace SC_refusedBy ++ (wX2 cy qPa Pa_sailMiles u7.1 u8.1 u8.2.1 Pa_engineMiles u8.2.2.1 u8.2.2.2.1 u8.2.2.2.2 ++ (wX7 cy qWe We_weights We_knownFrom We_told)))) (wc := (wX2 cy qPa Pa_sailMiles u7.1 u8.1 u8.2.1 Pa_engineMiles u8.2.2.1 u8.2.2.2.1 u8.2.2.2.2)) (wr := (wX8 cy qSC (qWe 0) (qPa 0) (qHo 0) (qHb 0) (qTa 0) (qRe 0) (qVo 0) (qAg 0) (qDr 0) SC_faultPlace SC_refusedBy ++ (wX7 cy qWe We_weights We_knownFrom We_told))) C0 hP hD hS [1, 2, 3, 4, 5] [0, 6, 7, 8] [0, 4, 5, 6, 7, 8, 1, 2, 3] rfl rfl (by decide) (by decide) (by decide) (fun _ => rfl) (va_runV (As := [.int x1, .int x2, .int x3]) (rest := []) ⟨hx, hb, hml, hown, hts⟩ (c_X2_burntOf l D cy qPa Pa_sailMiles u7.1 u8.1 u8.2.1 Pa_engineMiles u8.2.2.1 u8.2.2.2.1 u8.2.2.2.2 H.size x1 x2 x3 u10 eu10) (cwV 3 hts gX8_luck_X2_burntOf rfl rfl rfl (by decide +kernel) ⟨Nat.le_of_ble_eq_true rfl, Nat.le_of_ble_eq_true rfl⟩) (pre_V (hP.sub (ws' := (wX2 cy qPa Pa_sailMiles u7.1 u8.1 u8.2.1 Pa_engineMiles u8.2.2.1 u8.2.2.2.1 u8.2.2.2.2)) [1, 2, 3, 4, 5] rfl) hK (hD.sub (ws' := (wX2 cy qPa Pa_sailMiles u7.1 u8.1 u8.2.1 Pa_engineMiles u8.2.2.1 u8.2.2.2.1 u8.2.2.2.2)) [1, 2, 3, 4, 5] (by decide) rfl) hN 2 0 rfl rfl) rfl rfl hl.1 rfl (lv_room (Nat.le_of_ble_eq_true rfl)) dX8_luck_82 ⟨Nat.zero_le _, Nat.zero_le _⟩) (fun r u H locs hw hP hD hS => ?_)
          have hw := hw.symm
          subst hw
          have hP : va_P D vwCl (wX8 cy qSC (qWe 0) (qPa 0) (qHo 0) (qHb 0) (qTa 0) (qRe 0) (qVo 0) (qAg 0) (qDr 0) SC_faultPlace SC_refusedBy ++ (wX2 cy qPa Pa_sailMiles u7.1 u8.1 u8.2.1 Pa_engineMiles u8.2.2.1 u8.2.2.2.1 u8.2.2.2.2 ++ (wX7 cy qWe We_weights We_knownFrom We_told))) H := hP
          have hD : va_D A (wX8 cy qSC (qWe 0) (qPa 0) (qHo 0) (qHb 0) (qTa 0) (qRe 0) (qVo 0) (qAg 0) (qDr 0) SC_faultPlace SC_refusedBy ++ (wX2 cy qPa Pa_sailMiles u7.1 u8.1 u8.2.1 Pa_engineMiles u8.2.2.1 u8.2.2.2.1 u8.2.2.2.2 ++ (wX7 cy qWe We_weights We_knownFrom We_told))) := hD
          exact rq_l C0 (u7.1, u8.1, u8.2.1, u8.2.2.1, u8.2.2.2.1, u8.2.2.2.2) (pr_2 hf) hP hD hS dX8_luck_85
        · have hf := ift hf hc9
          refine lv_aload_n hx hb dX8_luck_62 rfl (lv_at hl 0 rfl) ?_
          refine va_get (D := D) (ci := 8) (v := .ref (qPa 0)) (C := RX8) (T := TX8) (N := 11) hx hb hts i_X8_luck_X8 hown hK hP 0 rfl rfl 1 (by decide) (hts _ m_X8_luck_f19) (fun _ h9 => h9) rfl dX8_luck_63 ?_
          refine lv_iload_n hx hb dX8_luck_66 rfl (lv_at hl 1 rfl) ?_
          refine lv_iload_n hx hb dX8_luck_67 rfl (lv_at hl 2 rfl) ?_
          refine lv_iload_n hx hb dX8_luck_68 rfl (lv_at hl 3 rfl) ?_
          obtain ⟨u11, eu11, hf⟩ := Option.bind_eq_some_iff.mp hf
          refine cq_l (wc' := fun (u : Unit) => (wX2 cy qPa Pa_sailMiles u7.1 u8.1 u8.2.1 Pa_engineMiles u8.2.2.1 u8.2.2.2.1 u8.2.2.2.2)) (ws' := fun (u : Unit) => (wX8 cy qSC (qWe 0) (qPa 0) (qHo 0) (qHb 0) (qTa 0) (qRe 0) (qVo 0) (qAg 0) (qDr 0) SC_faultPlace SC_refusedBy ++ (wX2 cy qPa Pa_sailMiles u7.1 u8.1 u8.2.1 Pa_engineMiles u8.2.2.1 u8.2.2.2.1 u8.2.2.2.2 ++ (wX7 cy qWe We_weights We_knownFrom We_told)))) (wc := (wX2 cy qPa Pa_sailMiles u7.1 u8.1 u8.2.1 Pa_engineMiles u8.2.2.1 u8.2.2.2.1 u8.2.2.2.2)) (wr := (wX8 cy qSC (qWe 0) (qPa 0) (qHo 0) (qHb 0) (qTa 0) (qRe 0) (qVo 0) (qAg 0) (qDr 0) SC_faultPlace SC_refusedBy ++ (wX7 cy qWe We_weights We_knownFrom We_told))) C0 hP hD hS [1, 2, 3, 4, 5] [0, 6, 7, 8] [0, 4, 5, 6, 7, 8, 1, 2, 3] rfl rfl (by decide) (by decide) (by decide) (fun _ => rfl) (va_runV (As := [.int x1, .int x2, .int x3]) (rest := []) ⟨hx, hb, hml, hown, hts⟩ (c_X2_chanceOf l D cy qPa Pa_sailMiles u7.1 u8.1 u8.2.1 Pa_engineMiles u8.2.2.1 u8.2.2.2.1 u8.2.2.2.2 H.size x1 x2 x3 u11 eu11) (cwV 3 hts gX8_luck_X2_chanceOf rfl rfl rfl (by decide +kernel) ⟨Nat.le_of_ble_eq_true rfl, Nat.le_of_ble_eq_true rfl⟩) (pre_V (hP.sub (ws' := (wX2 cy qPa Pa_sailMiles u7.1 u8.1 u8.2.1 Pa_engineMiles u8.2.2.1 u8.2.2.2.1 u8.2.2.2.2)) [1, 2, 3, 4, 5] rfl) hK (hD.sub (ws' := (wX2 cy qPa Pa_sailMiles u7.1 u8.1 u8.2.1 Pa_engineMiles u8.2.2.1 u8.2.2.2.1 u8.2.2.2.2)) [1, 2, 3, 4, 5] (by decide) rfl) hN 2 0 rfl rfl) rfl rfl hl.1 rfl (lv_room (Nat.le_of_ble_eq_true rfl)) dX8_luck_69 ⟨Nat.zero_le _, Nat.zero_le _⟩) (fun r u H locs hw hP hD hS => ?_)
          have hw := hw.symm
          subst hw
          have hP : va_P D vwCl (wX8 cy qSC (qWe 0) (qPa 0) (qHo 0) (qHb 0) (qTa 0) (qRe 0) (qVo 0) (qAg 0) (qDr 0) SC_faultPlace SC_refusedBy ++ (wX2 cy qPa Pa_sailMiles u7.1 u8.1 u8.2.1 Pa_engineMiles u8.2.2.1 u8.2.2.2.1 u8.2.2.2.2 ++ (wX7 cy qWe We_weights We_knownFrom We_told))) H := hP
          have hD : va_D A (wX8 cy qSC (qWe 0) (qPa 0) (qHo 0) (qHb 0) (qTa 0) (qRe 0) (qVo 0) (qAg 0) (qDr 0) SC_faultPlace SC_refusedBy ++ (wX2 cy qPa Pa_sailMiles u7.1 u8.1 u8.2.1 Pa_engineMiles u8.2.2.1 u8.2.2.2.1 u8.2.2.2.2 ++ (wX7 cy qWe We_weights We_knownFrom We_told))) := hD
          refine lv_goto (tgt := 85) hx hb dX8_luck_72 (by decide) ?_
          exact rq_l C0 (u7.1, u8.1, u8.2.1, u8.2.2.1, u8.2.2.2.1, u8.2.2.2.2) (pr_2 hf) hP hD hS dX8_luck_85
      · have hf := ift hf hc6
        refine lv_ldc2 (v := (-1 : Int64)) hx hb hown (hts _ m_X8_luck_c111) dX8_luck_30 ?_
        exact rq_l C0 (Pa_weights, Pa_chance, Pa_burnt, Pa_daysReckoned, Pa_milesReckoned, Pa_coalReckoned) (pr_2 hf) hP hD hS dX8_luck_33

theorem i_X8_choice_X8 : ∀ w ∈ wsX80, w ∈ wsX8_choice := by decide +kernel
theorem m_X8_choice_f19 : Cond.fieldLink RX8 19 "SailCargo" "passage" "LSailCargo$Passage;" ∈ wsX8_choice := by decide +kernel
theorem m_X8_choice_f10 : Cond.fieldLink RX8 10 "SailCargo" "weather" "LSailCargo$Weather;" ∈ wsX8_choice := by decide +kernel
set_option maxHeartbeats 4000000 in
set_option maxRecDepth 100000 in
theorem c_X8_choice (l : Launch) (D : va_G) (cy : Nat → ClassId) (qSC qPa qWe qHo qHb qTa qRe qVo qAg qDr : Nat → Nat) (SC_faultPlace : Int32) (SC_refusedBy : Int32) (Pa_sailMiles : Nat → Int32) (Pa_weights : Nat → Int32) (Pa_chance : Nat → Int64) (Pa_burnt : Nat → Int64) (Pa_engineMiles : Int32) (Pa_daysReckoned : Int32) (Pa_milesReckoned : Int32) (Pa_coalReckoned : Int32) (We_weights : Nat → Int32) (We_knownFrom : Nat → Int32) (We_told : Int32) (sz : Nat) (x1 : Int32) (x2 : Int32) (x3 : Int32) (x4 : Int32) (x5 : Int32) (X : Int32 × (Nat → Int32) × (Nat → Int64) × (Nat → Int64) × (Int32) × (Int32) × (Int32)) (hf : f_X8_choice Pa_sailMiles Pa_weights Pa_chance Pa_burnt Pa_engineMiles Pa_daysReckoned Pa_milesReckoned Pa_coalReckoned We_weights We_knownFrom We_told x1 x2 x3 x4 x5 = some X) : Met l yX8_choice wsX8_choice ({ frames := 6, cells := 0, slots := 0, locals := 149 } : Room) (va_Pc [.ref (qSC 0), .int x1, .int x2, .int x3, .int x4, .int x5] (PW D cy (wX8 cy qSC (qWe 0) (qPa 0) (qHo 0) (qHb 0) (qTa 0) (qRe 0) (qVo 0) (qAg 0) (qDr 0) SC_faultPlace SC_refusedBy ++ (wX2 cy qPa Pa_sailMiles Pa_weights Pa_chance Pa_burnt Pa_engineMiles Pa_daysReckoned Pa_milesReckoned Pa_coalReckoned ++ (wX7 cy qWe We_weights We_knownFrom We_told))) sz)) (va_Qi (fun (r : Int32) (u : (Nat → Int32) × (Nat → Int64) × (Nat → Int64) × (Int32) × (Int32) × (Int32)) => r = X.1 ∧ u = X.2) (fun u t => BW D cy (va_A (wX8 cy qSC (qWe 0) (qPa 0) (qHo 0) (qHb 0) (qTa 0) (qRe 0) (qVo 0) (qAg 0) (qDr 0) SC_faultPlace SC_refusedBy ++ (wX2 cy qPa Pa_sailMiles Pa_weights Pa_chance Pa_burnt Pa_engineMiles Pa_daysReckoned Pa_milesReckoned Pa_coalReckoned ++ (wX7 cy qWe We_weights We_knownFrom We_told))) sz) (wX8 cy qSC (qWe 0) (qPa 0) (qHo 0) (qHb 0) (qTa 0) (qRe 0) (qVo 0) (qAg 0) (qDr 0) SC_faultPlace SC_refusedBy ++ (wX2 cy qPa Pa_sailMiles u.1 u.2.1 u.2.2.1 Pa_engineMiles u.2.2.2.1 u.2.2.2.2.1 u.2.2.2.2.2 ++ (wX7 cy qWe We_weights We_knownFrom We_told))) t) (va_A (wX8 cy qSC (qWe 0) (qPa 0) (qHo 0) (qHb 0) (qTa 0) (qRe 0) (qVo 0) (qAg 0) (qDr 0) SC_faultPlace SC_refusedBy ++ (wX2 cy qPa Pa_sailMiles Pa_weights Pa_chance Pa_burnt Pa_engineMiles Pa_daysReckoned Pa_milesReckoned Pa_coalReckoned ++ (wX7 cy qWe We_weights We_knownFrom We_told))) sz)) 0 0 (va_A (wX8 cy qSC (qWe 0) (qPa 0) (qHo 0) (qHb 0) (qTa 0) (qRe 0) (qVo 0) (qAg 0) (qDr 0) SC_faultPlace SC_refusedBy ++ (wX2 cy qPa Pa_sailMiles Pa_weights Pa_chance Pa_burnt Pa_engineMiles Pa_daysReckoned Pa_milesReckoned Pa_coalReckoned ++ (wX7 cy qWe We_weights We_knownFrom We_told))) sz) := by
  refine met_enter (Qc := fun A => (va_Qi (fun (r : Int32) (u : (Nat → Int32) × (Nat → Int64) × (Nat → Int64) × (Int32) × (Int32) × (Int32)) => r = X.1 ∧ u = X.2) (fun u t => BW D cy A (wX8 cy qSC (qWe 0) (qPa 0) (qHo 0) (qHb 0) (qTa 0) (qRe 0) (qVo 0) (qAg 0) (qDr 0) SC_faultPlace SC_refusedBy ++ (wX2 cy qPa Pa_sailMiles u.1 u.2.1 u.2.2.1 Pa_engineMiles u.2.2.2.1 u.2.2.2.2.1 u.2.2.2.2.2 ++ (wX7 cy qWe We_weights We_knownFrom We_told))) t) A)) (lv0 := [(0, .ref (qSC 0)), (1, .int x1), (2, .int x2), (3, .int x3), (4, .int x4), (5, .int x5)]) (by decide) rfl (Nat.le_of_ble_eq_true rfl) rfl ?_
  intro p e s m below meth c A ls hnm C0 hP hD hS hl
  generalize hH : s.heap = H at hP ⊢
  generalize hLoc : ([] : List Loc) = locs at hS ⊢
  have hS : va_S A s.heap H locs := by rw [← hH]; exact hS
  have C0 : CX cX8_choice 6 (some .int) RX8 wsX8_choice D cy p s m _ meth c A := C0
  obtain ⟨hx, hb, hr, hml, hown, hts, hK, hA, hN, hlocks⟩ := id C0
  unfold f_X8_choice at hf
  refine lv_iload_n hx hb dX8_choice_0 rfl (lv_at hl 1 rfl) ?_
  refine lv_iload_n hx hb dX8_choice_1 rfl (lv_at hl 3 rfl) ?_
  refine lv_iload hx hb dX8_choice_2 (lv_at hl 5 rfl) ?_
  obtain ⟨u1, eu1, hf⟩ := Option.bind_eq_some_iff.mp hf
  refine cq_i (wc' := fun (u : Unit) => ([] : va_W)) (ws' := fun (u : Unit) => (wX8 cy qSC (qWe 0) (qPa 0) (qHo 0) (qHb 0) (qTa 0) (qRe 0) (qVo 0) (qAg 0) (qDr 0) SC_faultPlace SC_refusedBy ++ (wX2 cy qPa Pa_sailMiles Pa_weights Pa_chance Pa_burnt Pa_engineMiles Pa_daysReckoned Pa_milesReckoned Pa_coalReckoned ++ (wX7 cy qWe We_weights We_knownFrom We_told)))) (wc := ([] : va_W)) (wr := (wX8 cy qSC (qWe 0) (qPa 0) (qHo 0) (qHb 0) (qTa 0) (qRe 0) (qVo 0) (qAg 0) (qDr 0) SC_faultPlace SC_refusedBy ++ (wX2 cy qPa Pa_sailMiles Pa_weights Pa_chance Pa_burnt Pa_engineMiles Pa_daysReckoned Pa_milesReckoned Pa_coalReckoned ++ (wX7 cy qWe We_weights We_knownFrom We_told)))) C0 hP hD hS [] [0, 1, 2, 3, 4, 5, 6, 7, 8] [0, 1, 2, 3, 4, 5, 6, 7, 8] rfl rfl (by decide) (by decide) (by decide) (fun _ => rfl) (va_runS (As := [.int x1, .int x3, .int x5]) (rest := []) ⟨hx, hb, hml, hown, hts⟩ (c_X8_isPassage l D cy   H.size x1 x3 x5 u1 eu1) (va_cwS 3 hts gX8_choice_X8_isPassage rfl rfl rfl (by decide +kernel) ⟨Nat.le_of_ble_eq_true rfl, Nat.le_of_ble_eq_true rfl⟩) (pre_S (hP.sub (ws' := ([] : va_W)) [] rfl) hK (hD.sub (ws' := ([] : va_W)) [] (by decide) rfl) hN) rfl rfl hl.1 rfl (lv_room (Nat.le_of_ble_eq_true rfl)) dX8_choice_4 ⟨Nat.zero_le _, Nat.zero_le _⟩) (fun r u H locs hw hP hD hS => ?_)
  have hw := hw.symm
  subst hw
  have hP : va_P D vwCl (wX8 cy qSC (qWe 0) (qPa 0) (qHo 0) (qHb 0) (qTa 0) (qRe 0) (qVo 0) (qAg 0) (qDr 0) SC_faultPlace SC_refusedBy ++ (wX2 cy qPa Pa_sailMiles Pa_weights Pa_chance Pa_burnt Pa_engineMiles Pa_daysReckoned Pa_milesReckoned Pa_coalReckoned ++ (wX7 cy qWe We_weights We_knownFrom We_told))) H := hP
  have hD : va_D A (wX8 cy qSC (qWe 0) (qPa 0) (qHo 0) (qHb 0) (qTa 0) (qRe 0) (qVo 0) (qAg 0) (qDr 0) SC_faultPlace SC_refusedBy ++ (wX2 cy qPa Pa_sailMiles Pa_weights Pa_chance Pa_burnt Pa_engineMiles Pa_daysReckoned Pa_milesReckoned Pa_coalReckoned ++ (wX7 cy qWe We_weights We_knownFrom We_told))) := hD
  refine lv_if_eq (tgt := 28) hx hb dX8_choice_7 (by decide) (fun hc2 => ?_) (fun hc2 => ?_)
  · have hf := ift hf hc2
    refine lv_iconst (v := (-1 : Int32)) hx hb dX8_choice_28 (by decide) ?_
    exact rq_i C0 (Pa_weights, Pa_chance, Pa_burnt, Pa_daysReckoned, Pa_milesReckoned, Pa_coalReckoned) (pr_2 hf) hP hD hS dX8_choice_29
  · have hf := iff_ hf hc2
    refine lv_iload_n hx hb dX8_choice_10 rfl (lv_at hl 2 rfl) ?_
    refine lv_iconst (v := (1 : Int32)) hx hb dX8_choice_11 (by decide) ?_
    refine lv_bipush (v := (12 : Int32)) hx hb dX8_choice_12 (by decide) ?_
    obtain ⟨u3, eu3, hf⟩ := Option.bind_eq_some_iff.mp hf
    refine cq_i (wc' := fun (u : Unit) => ([] : va_W)) (ws' := fun (u : Unit) => (wX8 cy qSC (qWe 0) (qPa 0) (qHo 0) (qHb 0) (qTa 0) (qRe 0) (qVo 0) (qAg 0) (qDr 0) SC_faultPlace SC_refusedBy ++ (wX2 cy qPa Pa_sailMiles Pa_weights Pa_chance Pa_burnt Pa_engineMiles Pa_daysReckoned Pa_milesReckoned Pa_coalReckoned ++ (wX7 cy qWe We_weights We_knownFrom We_told)))) (wc := ([] : va_W)) (wr := (wX8 cy qSC (qWe 0) (qPa 0) (qHo 0) (qHb 0) (qTa 0) (qRe 0) (qVo 0) (qAg 0) (qDr 0) SC_faultPlace SC_refusedBy ++ (wX2 cy qPa Pa_sailMiles Pa_weights Pa_chance Pa_burnt Pa_engineMiles Pa_daysReckoned Pa_milesReckoned Pa_coalReckoned ++ (wX7 cy qWe We_weights We_knownFrom We_told)))) C0 hP hD hS [] [0, 1, 2, 3, 4, 5, 6, 7, 8] [0, 1, 2, 3, 4, 5, 6, 7, 8] rfl rfl (by decide) (by decide) (by decide) (fun _ => rfl) (va_runS (As := [.int x2, .int (1 : Int32), .int (12 : Int32)]) (rest := []) ⟨hx, hb, hml, hown, hts⟩ (c_X8_isWithin l D cy   H.size x2 (1 : Int32) (12 : Int32) u3 eu3) (va_cwS 3 hts gX8_choice_X8_isWithin rfl rfl rfl (by decide +kernel) ⟨Nat.le_of_ble_eq_true rfl, Nat.le_of_ble_eq_true rfl⟩) (pre_S (hP.sub (ws' := ([] : va_W)) [] rfl) hK (hD.sub (ws' := ([] : va_W)) [] (by decide) rfl) hN) rfl rfl hl.1 rfl (lv_room (Nat.le_of_ble_eq_true rfl)) dX8_choice_14 ⟨Nat.zero_le _, Nat.zero_le _⟩) (fun r u H locs hw hP hD hS => ?_)
    have hw := hw.symm
    subst hw
    have hP : va_P D vwCl (wX8 cy qSC (qWe 0) (qPa 0) (qHo 0) (qHb 0) (qTa 0) (qRe 0) (qVo 0) (qAg 0) (qDr 0) SC_faultPlace SC_refusedBy ++ (wX2 cy qPa Pa_sailMiles Pa_weights Pa_chance Pa_burnt Pa_engineMiles Pa_daysReckoned Pa_milesReckoned Pa_coalReckoned ++ (wX7 cy qWe We_weights We_knownFrom We_told))) H := hP
    have hD : va_D A (wX8 cy qSC (qWe 0) (qPa 0) (qHo 0) (qHb 0) (qTa 0) (qRe 0) (qVo 0) (qAg 0) (qDr 0) SC_faultPlace SC_refusedBy ++ (wX2 cy qPa Pa_sailMiles Pa_weights Pa_chance Pa_burnt Pa_engineMiles Pa_daysReckoned Pa_milesReckoned Pa_coalReckoned ++ (wX7 cy qWe We_weights We_knownFrom We_told))) := hD
    refine lv_if_eq (tgt := 28) hx hb dX8_choice_17 (by decide) (fun hc4 => ?_) (fun hc4 => ?_)
    · have hf := ift hf hc4
      refine lv_iconst (v := (-1 : Int32)) hx hb dX8_choice_28 (by decide) ?_
      exact rq_i C0 (Pa_weights, Pa_chance, Pa_burnt, Pa_daysReckoned, Pa_milesReckoned, Pa_coalReckoned) (pr_2 hf) hP hD hS dX8_choice_29
    · have hf := iff_ hf hc4
      refine lv_iload hx hb dX8_choice_20 (lv_at hl 4 rfl) ?_
      obtain ⟨u5, eu5, hf⟩ := Option.bind_eq_some_iff.mp hf
      refine cq_i (wc' := fun (u : Unit) => ([] : va_W)) (ws' := fun (u : Unit) => (wX8 cy qSC (qWe 0) (qPa 0) (qHo 0) (qHb 0) (qTa 0) (qRe 0) (qVo 0) (qAg 0) (qDr 0) SC_faultPlace SC_refusedBy ++ (wX2 cy qPa Pa_sailMiles Pa_weights Pa_chance Pa_burnt Pa_engineMiles Pa_daysReckoned Pa_milesReckoned Pa_coalReckoned ++ (wX7 cy qWe We_weights We_knownFrom We_told)))) (wc := ([] : va_W)) (wr := (wX8 cy qSC (qWe 0) (qPa 0) (qHo 0) (qHb 0) (qTa 0) (qRe 0) (qVo 0) (qAg 0) (qDr 0) SC_faultPlace SC_refusedBy ++ (wX2 cy qPa Pa_sailMiles Pa_weights Pa_chance Pa_burnt Pa_engineMiles Pa_daysReckoned Pa_milesReckoned Pa_coalReckoned ++ (wX7 cy qWe We_weights We_knownFrom We_told)))) C0 hP hD hS [] [0, 1, 2, 3, 4, 5, 6, 7, 8] [0, 1, 2, 3, 4, 5, 6, 7, 8] rfl rfl (by decide) (by decide) (by decide) (fun _ => rfl) (va_runS (As := [.int x4]) (rest := []) ⟨hx, hb, hml, hown, hts⟩ (c_X8_isWind l D cy   H.size x4 u5 eu5) (va_cwS 1 hts gX8_choice_X8_isWind rfl rfl rfl (by decide +kernel) ⟨Nat.le_of_ble_eq_true rfl, Nat.le_of_ble_eq_true rfl⟩) (pre_S (hP.sub (ws' := ([] : va_W)) [] rfl) hK (hD.sub (ws' := ([] : va_W)) [] (by decide) rfl) hN) rfl rfl hl.1 rfl (lv_room (Nat.le_of_ble_eq_true rfl)) dX8_choice_22 ⟨Nat.zero_le _, Nat.zero_le _⟩) (fun r u H locs hw hP hD hS => ?_)
      have hw := hw.symm
      subst hw
      have hP : va_P D vwCl (wX8 cy qSC (qWe 0) (qPa 0) (qHo 0) (qHb 0) (qTa 0) (qRe 0) (qVo 0) (qAg 0) (qDr 0) SC_faultPlace SC_refusedBy ++ (wX2 cy qPa Pa_sailMiles Pa_weights Pa_chance Pa_burnt Pa_engineMiles Pa_daysReckoned Pa_milesReckoned Pa_coalReckoned ++ (wX7 cy qWe We_weights We_knownFrom We_told))) H := hP
      have hD : va_D A (wX8 cy qSC (qWe 0) (qPa 0) (qHo 0) (qHb 0) (qTa 0) (qRe 0) (qVo 0) (qAg 0) (qDr 0) SC_faultPlace SC_refusedBy ++ (wX2 cy qPa Pa_sailMiles Pa_weights Pa_chance Pa_burnt Pa_engineMiles Pa_daysReckoned Pa_milesReckoned Pa_coalReckoned ++ (wX7 cy qWe We_weights We_knownFrom We_told))) := hD
      refine lv_if_ne (tgt := 30) hx hb dX8_choice_25 (by decide) (fun hc6 => ?_) (fun hc6 => ?_)
      · have hf := iff_ hf hc6
        refine lv_aload_n hx hb dX8_choice_30 rfl (lv_at hl 0 rfl) ?_
        refine va_get (D := D) (ci := 8) (v := .ref (qPa 0)) (C := RX8) (T := TX8) (N := 11) hx hb hts i_X8_choice_X8 hown hK hP 0 rfl rfl 1 (by decide) (hts _ m_X8_choice_f19) (fun _ h9 => h9) rfl dX8_choice_31 ?_
        refine lv_aload_n hx hb dX8_choice_34 rfl (lv_at hl 0 rfl) ?_
        refine va_get (D := D) (ci := 8) (v := .ref (qWe 0)) (C := RX8) (T := TX8) (N := 11) hx hb hts i_X8_choice_X8 hown hK hP 0 rfl rfl 0 (by decide) (hts _ m_X8_choice_f10) (fun _ h9 => h9) rfl dX8_choice_35 ?_
        refine lv_iload hx hb dX8_choice_38 (lv_at hl 5 rfl) ?_
        obtain ⟨u7, eu7, hf⟩ := Option.bind_eq_some_iff.mp hf
        refine cq_v (wc' := fun (u : (Nat → Int32) × (Int32)) => (wX2 cy qPa Pa_sailMiles u.1 Pa_chance Pa_burnt Pa_engineMiles u.2 Pa_milesReckoned Pa_coalReckoned ++ (wX7 cy qWe We_weights We_knownFrom We_told))) (ws' := fun (u : (Nat → Int32) × (Int32)) => (wX8 cy qSC (qWe 0) (qPa 0) (qHo 0) (qHb 0) (qTa 0) (qRe 0) (qVo 0) (qAg 0) (qDr 0) SC_faultPlace SC_refusedBy ++ (wX2 cy qPa Pa_sailMiles u.1 Pa_chance Pa_burnt Pa_engineMiles u.2 Pa_milesReckoned Pa_coalReckoned ++ (wX7 cy qWe We_weights We_knownFrom We_told)))) (wc := (wX2 cy qPa Pa_sailMiles Pa_weights Pa_chance Pa_burnt Pa_engineMiles Pa_daysReckoned Pa_milesReckoned Pa_coalReckoned ++ (wX7 cy qWe We_weights We_knownFrom We_told))) (wr := (wX8 cy qSC (qWe 0) (qPa 0) (qHo 0) (qHb 0) (qTa 0) (qRe 0) (qVo 0) (qAg 0) (qDr 0) SC_faultPlace SC_refusedBy)) C0 hP hD hS [1, 2, 3, 4, 5, 6, 7, 8] [0] [0, 1, 2, 3, 4, 5, 6, 7, 8] rfl rfl (by decide) (by decide) (by decide) (fun _ => rfl) (va_runV (As := [.ref (qWe 0), .int x5]) (rest := []) ⟨hx, hb, hml, hown, hts⟩ (c_X2_know l D cy qPa qWe Pa_sailMiles Pa_weights Pa_chance Pa_burnt Pa_engineMiles Pa_daysReckoned Pa_milesReckoned Pa_coalReckoned We_weights We_knownFrom We_told H.size x5 u7 eu7) (cwV 2 hts gX8_choice_X2_know rfl rfl rfl (by decide +kernel) ⟨Nat.le_of_ble_eq_true rfl, Nat.le_of_ble_eq_true rfl⟩) (pre_V (hP.sub (ws' := (wX2 cy qPa Pa_sailMiles Pa_weights Pa_chance Pa_burnt Pa_engineMiles Pa_daysReckoned Pa_milesReckoned Pa_coalReckoned ++ (wX7 cy qWe We_weights We_knownFrom We_told))) [1, 2, 3, 4, 5, 6, 7, 8] rfl) hK (hD.sub (ws' := (wX2 cy qPa Pa_sailMiles Pa_weights Pa_chance Pa_burnt Pa_engineMiles Pa_daysReckoned Pa_milesReckoned Pa_coalReckoned ++ (wX7 cy qWe We_weights We_knownFrom We_told))) [1, 2, 3, 4, 5, 6, 7, 8] (by decide) rfl) hN 2 0 rfl rfl) rfl rfl hl.1 rfl (lv_room (Nat.le_of_ble_eq_true rfl)) dX8_choice_40 ⟨Nat.zero_le _, Nat.zero_le _⟩) (fun u H locs hw hP hD hS => ?_)
        have hw := hw.symm
        subst hw
        have hP : va_P D vwCl (wX8 cy qSC (qWe 0) (qPa 0) (qHo 0) (qHb 0) (qTa 0) (qRe 0) (qVo 0) (qAg 0) (qDr 0) SC_faultPlace SC_refusedBy ++ (wX2 cy qPa Pa_sailMiles u7.1 Pa_chance Pa_burnt Pa_engineMiles u7.2 Pa_milesReckoned Pa_coalReckoned ++ (wX7 cy qWe We_weights We_knownFrom We_told))) H := hP
        have hD : va_D A (wX8 cy qSC (qWe 0) (qPa 0) (qHo 0) (qHb 0) (qTa 0) (qRe 0) (qVo 0) (qAg 0) (qDr 0) SC_faultPlace SC_refusedBy ++ (wX2 cy qPa Pa_sailMiles u7.1 Pa_chance Pa_burnt Pa_engineMiles u7.2 Pa_milesReckoned Pa_coalReckoned ++ (wX7 cy qWe We_weights We_knownFrom We_told))) := hD
        refine lv_aload_n hx hb dX8_choice_43 rfl (lv_at hl 0 rfl) ?_
        refine va_get (D := D) (ci := 8) (v := .ref (qPa 0)) (C := RX8) (T := TX8) (N := 11) hx hb hts i_X8_choice_X8 hown hK hP 0 rfl rfl 1 (by decide) (hts _ m_X8_choice_f19) (fun _ h9 => h9) rfl dX8_choice_44 ?_
        refine lv_iload_n hx hb dX8_choice_47 rfl (lv_at hl 1 rfl) ?_
        refine lv_iload_n hx hb dX8_choice_48 rfl (lv_at hl 2 rfl) ?_
        refine lv_iconst (v := (1 : Int32)) hx hb dX8_choice_49 (by decide) ?_
        refine lv_isub hx hb dX8_choice_50 ?_
        refine lv_iload_n hx hb dX8_choice_51 rfl (lv_at hl 3 rfl) ?_
        obtain ⟨u8, eu8, hf⟩ := Option.bind_eq_some_iff.mp hf
        refine cq_v (wc' := fun (u : (Nat → Int64) × (Nat → Int64) × (Int32) × (Int32) × (Int32)) => (wX2 cy qPa Pa_sailMiles u7.1 u.1 u.2.1 Pa_engineMiles u.2.2.1 u.2.2.2.1 u.2.2.2.2)) (ws' := fun (u : (Nat → Int64) × (Nat → Int64) × (Int32) × (Int32) × (Int32)) => (wX8 cy qSC (qWe 0) (qPa 0) (qHo 0) (qHb 0) (qTa 0) (qRe 0) (qVo 0) (qAg 0) (qDr 0) SC_faultPlace SC_refusedBy ++ (wX2 cy qPa Pa_sailMiles u7.1 u.1 u.2.1 Pa_engineMiles u.2.2.1 u.2.2.2.1 u.2.2.2.2 ++ (wX7 cy qWe We_weights We_knownFrom We_told)))) (wc := (wX2 cy qPa Pa_sailMiles u7.1 Pa_chance Pa_burnt Pa_engineMiles u7.2 Pa_milesReckoned Pa_coalReckoned)) (wr := (wX8 cy qSC (qWe 0) (qPa 0) (qHo 0) (qHb 0) (qTa 0) (qRe 0) (qVo 0) (qAg 0) (qDr 0) SC_faultPlace SC_refusedBy ++ (wX7 cy qWe We_weights We_knownFrom We_told))) C0 hP hD hS [1, 2, 3, 4, 5] [0, 6, 7, 8] [0, 4, 5, 6, 7, 8, 1, 2, 3] rfl rfl (by decide) (by decide) (by decide) (fun _ => rfl) (va_runV (As := [.int x1, .int (x2 - (1 : Int32)), .int x3]) (rest := []) ⟨hx, hb, hml, hown, hts⟩ (c_X2_reckon l D cy qPa Pa_sailMiles u7.1 Pa_chance Pa_burnt Pa_engineMiles u7.2 Pa_milesReckoned Pa_coalReckoned H.size x1 (x2 - (1 : Int32)) x3 u8 eu8) (cwV 3 hts gX8_choice_X2_reckon rfl rfl rfl (by decide +kernel) ⟨Nat.le_of_ble_eq_true rfl, Nat.le_of_ble_eq_true rfl⟩) (pre_V (hP.sub (ws' := (wX2 cy qPa Pa_sailMiles u7.1 Pa_chance Pa_burnt Pa_engineMiles u7.2 Pa_milesReckoned Pa_coalReckoned)) [1, 2, 3, 4, 5] rfl) hK (hD.sub (ws' := (wX2 cy qPa Pa_sailMiles u7.1 Pa_chance Pa_burnt Pa_engineMiles u7.2 Pa_milesReckoned Pa_coalReckoned)) [1, 2, 3, 4, 5] (by decide) rfl) hN 2 0 rfl rfl) rfl rfl hl.1 rfl (lv_room (Nat.le_of_ble_eq_true rfl)) dX8_choice_52 ⟨Nat.zero_le _, Nat.zero_le _⟩) (fun u H locs hw hP hD hS => ?_)
        have hw := hw.symm
        subst hw
        have hP : va_P D vwCl (wX8 cy qSC (qWe 0) (qPa 0) (qHo 0) (qHb 0) (qTa 0) (qRe 0) (qVo 0) (qAg 0) (qDr 0) SC_faultPlace SC_refusedBy ++ (wX2 cy qPa Pa_sailMiles u7.1 u8.1 u8.2.1 Pa_engineMiles u8.2.2.1 u8.2.2.2.1 u8.2.2.2.2 ++ (wX7 cy qWe We_weights We_knownFrom We_told))) H := hP
        have hD : va_D A (wX8 cy qSC (qWe 0) (qPa 0) (qHo 0) (qHb 0) (qTa 0) (qRe 0) (qVo 0) (qAg 0) (qDr 0) SC_faultPlace SC_refusedBy ++ (wX2 cy qPa Pa_sailMiles u7.1 u8.1 u8.2.1 Pa_engineMiles u8.2.2.1 u8.2.2.2.1 u8.2.2.2.2 ++ (wX7 cy qWe We_weights We_knownFrom We_told))) := hD
        refine lv_aload_n hx hb dX8_choice_55 rfl (lv_at hl 0 rfl) ?_
        refine va_get (D := D) (ci := 8) (v := .ref (qPa 0)) (C := RX8) (T := TX8) (N := 11) hx hb hts i_X8_choice_X8 hown hK hP 0 rfl rfl 1 (by decide) (hts _ m_X8_choice_f19) (fun _ h9 => h9) rfl dX8_choice_56 ?_
        refine lv_iload_n hx hb dX8_choice_59 rfl (lv_at hl 2 rfl) ?_
        refine lv_iload_n hx hb dX8_choice_60 rfl (lv_at hl 1 rfl) ?_
        refine lv_iload_n hx hb dX8_choice_61 rfl (lv_at hl 3 rfl) ?_
        refine lv_iload hx hb dX8_choice_62 (lv_at hl 4 rfl) ?_
        obtain ⟨u9, eu9, hf⟩ := Option.bind_eq_some_iff.mp hf
        refine cq_i (wc' := fun (u : Unit) => (wX2 cy qPa Pa_sailMiles u7.1 u8.1 u8.2.1 Pa_engineMiles u8.2.2.1 u8.2.2.2.1 u8.2.2.2.2)) (ws' := fun (u : Unit) => (wX8 cy qSC (qWe 0) (qPa 0) (qHo 0) (qHb 0) (qTa 0) (qRe 0) (qVo 0) (qAg 0) (qDr 0) SC_faultPlace SC_refusedBy ++ (wX2 cy qPa Pa_sailMiles u7.1 u8.1 u8.2.1 Pa_engineMiles u8.2.2.1 u8.2.2.2.1 u8.2.2.2.2 ++ (wX7 cy qWe We_weights We_knownFrom We_told)))) (wc := (wX2 cy qPa Pa_sailMiles u7.1 u8.1 u8.2.1 Pa_engineMiles u8.2.2.1 u8.2.2.2.1 u8.2.2.2.2)) (wr := (wX8 cy qSC (qWe 0) (qPa 0) (qHo 0) (qHb 0) (qTa 0) (qRe 0) (qVo 0) (qAg 0) (qDr 0) SC_faultPlace SC_refusedBy ++ (wX7 cy qWe We_weights We_knownFrom We_told))) C0 hP hD hS [1, 2, 3, 4, 5] [0, 6, 7, 8] [0, 4, 5, 6, 7, 8, 1, 2, 3] rfl rfl (by decide) (by decide) (by decide) (fun _ => rfl) (va_runV (As := [.int x2, .int x1, .int x3, .int x4]) (rest := []) ⟨hx, hb, hml, hown, hts⟩ (c_X2_bestChoice l D cy qPa Pa_sailMiles u7.1 u8.1 u8.2.1 Pa_engineMiles u8.2.2.1 u8.2.2.2.1 u8.2.2.2.2 H.size x2 x1 x3 x4 u9 eu9) (cwV 4 hts gX8_choice_X2_bestChoice rfl rfl rfl (by decide +kernel) ⟨Nat.le_of_ble_eq_true rfl, Nat.le_of_ble_eq_true rfl⟩) (pre_V (hP.sub (ws' := (wX2 cy qPa Pa_sailMiles u7.1 u8.1 u8.2.1 Pa_engineMiles u8.2.2.1 u8.2.2.2.1 u8.2.2.2.2)) [1, 2, 3, 4, 5] rfl) hK (hD.sub (ws' := (wX2 cy qPa Pa_sailMiles u7.1 u8.1 u8.2.1 Pa_engineMiles u8.2.2.1 u8.2.2.2.1 u8.2.2.2.2)) [1, 2, 3, 4, 5] (by decide) rfl) hN 2 0 rfl rfl) rfl rfl hl.1 rfl (lv_room (Nat.le_of_ble_eq_true rfl)) dX8_choice_64 ⟨Nat.zero_le _, Nat.zero_le _⟩) (fun r u H locs hw hP hD hS => ?_)
        have hw := hw.symm
        subst hw
        have hP : va_P D vwCl (wX8 cy qSC (qWe 0) (qPa 0) (qHo 0) (qHb 0) (qTa 0) (qRe 0) (qVo 0) (qAg 0) (qDr 0) SC_faultPlace SC_refusedBy ++ (wX2 cy qPa Pa_sailMiles u7.1 u8.1 u8.2.1 Pa_engineMiles u8.2.2.1 u8.2.2.2.1 u8.2.2.2.2 ++ (wX7 cy qWe We_weights We_knownFrom We_told))) H := hP
        have hD : va_D A (wX8 cy qSC (qWe 0) (qPa 0) (qHo 0) (qHb 0) (qTa 0) (qRe 0) (qVo 0) (qAg 0) (qDr 0) SC_faultPlace SC_refusedBy ++ (wX2 cy qPa Pa_sailMiles u7.1 u8.1 u8.2.1 Pa_engineMiles u8.2.2.1 u8.2.2.2.1 u8.2.2.2.2 ++ (wX7 cy qWe We_weights We_knownFrom We_told))) := hD
        exact rq_i C0 (u7.1, u8.1, u8.2.1, u8.2.2.1, u8.2.2.2.1, u8.2.2.2.2) (pr_2 hf) hP hD hS dX8_choice_67
      · have hf := ift hf hc6
        refine lv_iconst (v := (-1 : Int32)) hx hb dX8_choice_28 (by decide) ?_
        exact rq_i C0 (Pa_weights, Pa_chance, Pa_burnt, Pa_daysReckoned, Pa_milesReckoned, Pa_coalReckoned) (pr_2 hf) hP hD hS dX8_choice_29

theorem i_X8_promise_X8 : ∀ w ∈ wsX80, w ∈ wsX8_promise := by decide +kernel
theorem m_X8_promise_f19 : Cond.fieldLink RX8 19 "SailCargo" "passage" "LSailCargo$Passage;" ∈ wsX8_promise := by decide +kernel
theorem m_X8_promise_f10 : Cond.fieldLink RX8 10 "SailCargo" "weather" "LSailCargo$Weather;" ∈ wsX8_promise := by decide +kernel
set_option maxHeartbeats 4000000 in
set_option maxRecDepth 100000 in
theorem c_X8_promise (l : Launch) (D : va_G) (cy : Nat → ClassId) (qSC qPa qWe qHo qHb qTa qRe qVo qAg qDr : Nat → Nat) (SC_faultPlace : Int32) (SC_refusedBy : Int32) (Pa_sailMiles : Nat → Int32) (Pa_weights : Nat → Int32) (Pa_chance : Nat → Int64) (Pa_burnt : Nat → Int64) (Pa_engineMiles : Int32) (Pa_daysReckoned : Int32) (Pa_milesReckoned : Int32) (Pa_coalReckoned : Int32) (We_weights : Nat → Int32) (We_knownFrom : Nat → Int32) (We_told : Int32) (sz : Nat) (x1 : Int32) (x2 : Int32) (x3 : Int32) (x4 : Int32) (X : Int32 × (Nat → Int32) × (Nat → Int64) × (Nat → Int64) × (Int32) × (Int32) × (Int32)) (hf : f_X8_promise Pa_sailMiles Pa_weights Pa_chance Pa_burnt Pa_engineMiles Pa_daysReckoned Pa_milesReckoned Pa_coalReckoned We_weights We_knownFrom We_told x1 x2 x3 x4 = some X) : Met l yX8_promise wsX8_promise ({ frames := 7, cells := 0, slots := 0, locals := 173 } : Room) (va_Pc [.ref (qSC 0), .int x1, .int x2, .int x3, .int x4] (PW D cy (wX8 cy qSC (qWe 0) (qPa 0) (qHo 0) (qHb 0) (qTa 0) (qRe 0) (qVo 0) (qAg 0) (qDr 0) SC_faultPlace SC_refusedBy ++ (wX2 cy qPa Pa_sailMiles Pa_weights Pa_chance Pa_burnt Pa_engineMiles Pa_daysReckoned Pa_milesReckoned Pa_coalReckoned ++ (wX7 cy qWe We_weights We_knownFrom We_told))) sz)) (va_Qi (fun (r : Int32) (u : (Nat → Int32) × (Nat → Int64) × (Nat → Int64) × (Int32) × (Int32) × (Int32)) => r = X.1 ∧ u = X.2) (fun u t => BW D cy (va_A (wX8 cy qSC (qWe 0) (qPa 0) (qHo 0) (qHb 0) (qTa 0) (qRe 0) (qVo 0) (qAg 0) (qDr 0) SC_faultPlace SC_refusedBy ++ (wX2 cy qPa Pa_sailMiles Pa_weights Pa_chance Pa_burnt Pa_engineMiles Pa_daysReckoned Pa_milesReckoned Pa_coalReckoned ++ (wX7 cy qWe We_weights We_knownFrom We_told))) sz) (wX8 cy qSC (qWe 0) (qPa 0) (qHo 0) (qHb 0) (qTa 0) (qRe 0) (qVo 0) (qAg 0) (qDr 0) SC_faultPlace SC_refusedBy ++ (wX2 cy qPa Pa_sailMiles u.1 u.2.1 u.2.2.1 Pa_engineMiles u.2.2.2.1 u.2.2.2.2.1 u.2.2.2.2.2 ++ (wX7 cy qWe We_weights We_knownFrom We_told))) t) (va_A (wX8 cy qSC (qWe 0) (qPa 0) (qHo 0) (qHb 0) (qTa 0) (qRe 0) (qVo 0) (qAg 0) (qDr 0) SC_faultPlace SC_refusedBy ++ (wX2 cy qPa Pa_sailMiles Pa_weights Pa_chance Pa_burnt Pa_engineMiles Pa_daysReckoned Pa_milesReckoned Pa_coalReckoned ++ (wX7 cy qWe We_weights We_knownFrom We_told))) sz)) 0 0 (va_A (wX8 cy qSC (qWe 0) (qPa 0) (qHo 0) (qHb 0) (qTa 0) (qRe 0) (qVo 0) (qAg 0) (qDr 0) SC_faultPlace SC_refusedBy ++ (wX2 cy qPa Pa_sailMiles Pa_weights Pa_chance Pa_burnt Pa_engineMiles Pa_daysReckoned Pa_milesReckoned Pa_coalReckoned ++ (wX7 cy qWe We_weights We_knownFrom We_told))) sz) := by
  refine met_enter (Qc := fun A => (va_Qi (fun (r : Int32) (u : (Nat → Int32) × (Nat → Int64) × (Nat → Int64) × (Int32) × (Int32) × (Int32)) => r = X.1 ∧ u = X.2) (fun u t => BW D cy A (wX8 cy qSC (qWe 0) (qPa 0) (qHo 0) (qHb 0) (qTa 0) (qRe 0) (qVo 0) (qAg 0) (qDr 0) SC_faultPlace SC_refusedBy ++ (wX2 cy qPa Pa_sailMiles u.1 u.2.1 u.2.2.1 Pa_engineMiles u.2.2.2.1 u.2.2.2.2.1 u.2.2.2.2.2 ++ (wX7 cy qWe We_weights We_knownFrom We_told))) t) A)) (lv0 := [(0, .ref (qSC 0)), (1, .int x1), (2, .int x2), (3, .int x3), (4, .int x4)]) (by decide) rfl (Nat.le_of_ble_eq_true rfl) rfl ?_
  intro p e s m below meth c A ls hnm C0 hP hD hS hl
  generalize hH : s.heap = H at hP ⊢
  generalize hLoc : ([] : List Loc) = locs at hS ⊢
  have hS : va_S A s.heap H locs := by rw [← hH]; exact hS
  have C0 : CX cX8_promise 5 (some .int) RX8 wsX8_promise D cy p s m _ meth c A := C0
  obtain ⟨hx, hb, hr, hml, hown, hts, hK, hA, hN, hlocks⟩ := id C0
  unfold f_X8_promise at hf
  refine lv_iload_n hx hb dX8_promise_0 rfl (lv_at hl 1 rfl) ?_
  refine lv_iload_n hx hb dX8_promise_1 rfl (lv_at hl 2 rfl) ?_
  refine lv_iload_n hx hb dX8_promise_2 rfl (lv_at hl 3 rfl) ?_
  obtain ⟨u1, eu1, hf⟩ := Option.bind_eq_some_iff.mp hf
  refine cq_i (wc' := fun (u : Unit) => ([] : va_W)) (ws' := fun (u : Unit) => (wX8 cy qSC (qWe 0) (qPa 0) (qHo 0) (qHb 0) (qTa 0) (qRe 0) (qVo 0) (qAg 0) (qDr 0) SC_faultPlace SC_refusedBy ++ (wX2 cy qPa Pa_sailMiles Pa_weights Pa_chance Pa_burnt Pa_engineMiles Pa_daysReckoned Pa_milesReckoned Pa_coalReckoned ++ (wX7 cy qWe We_weights We_knownFrom We_told)))) (wc := ([] : va_W)) (wr := (wX8 cy qSC (qWe 0) (qPa 0) (qHo 0) (qHb 0) (qTa 0) (qRe 0) (qVo 0) (qAg 0) (qDr 0) SC_faultPlace SC_refusedBy ++ (wX2 cy qPa Pa_sailMiles Pa_weights Pa_chance Pa_burnt Pa_engineMiles Pa_daysReckoned Pa_milesReckoned Pa_coalReckoned ++ (wX7 cy qWe We_weights We_knownFrom We_told)))) C0 hP hD hS [] [0, 1, 2, 3, 4, 5, 6, 7, 8] [0, 1, 2, 3, 4, 5, 6, 7, 8] rfl rfl (by decide) (by decide) (by decide) (fun _ => rfl) (va_runS (As := [.int x1, .int x2, .int x3]) (rest := []) ⟨hx, hb, hml, hown, hts⟩ (c_X8_isPassage l D cy   H.size x1 x2 x3 u1 eu1) (va_cwS 3 hts gX8_promise_X8_isPassage rfl rfl rfl (by decide +kernel) ⟨Nat.le_of_ble_eq_true rfl, Nat.le_of_ble_eq_true rfl⟩) (pre_S (hP.sub (ws' := ([] : va_W)) [] rfl) hK (hD.sub (ws' := ([] : va_W)) [] (by decide) rfl) hN) rfl rfl hl.1 rfl (lv_room (Nat.le_of_ble_eq_true rfl)) dX8_promise_3 ⟨Nat.zero_le _, Nat.zero_le _⟩) (fun r u H locs hw hP hD hS => ?_)
  have hw := hw.symm
  subst hw
  have hP : va_P D vwCl (wX8 cy qSC (qWe 0) (qPa 0) (qHo 0) (qHb 0) (qTa 0) (qRe 0) (qVo 0) (qAg 0) (qDr 0) SC_faultPlace SC_refusedBy ++ (wX2 cy qPa Pa_sailMiles Pa_weights Pa_chance Pa_burnt Pa_engineMiles Pa_daysReckoned Pa_milesReckoned Pa_coalReckoned ++ (wX7 cy qWe We_weights We_knownFrom We_told))) H := hP
  have hD : va_D A (wX8 cy qSC (qWe 0) (qPa 0) (qHo 0) (qHb 0) (qTa 0) (qRe 0) (qVo 0) (qAg 0) (qDr 0) SC_faultPlace SC_refusedBy ++ (wX2 cy qPa Pa_sailMiles Pa_weights Pa_chance Pa_burnt Pa_engineMiles Pa_daysReckoned Pa_milesReckoned Pa_coalReckoned ++ (wX7 cy qWe We_weights We_knownFrom We_told))) := hD
  refine lv_if_eq (tgt := 20) hx hb dX8_promise_6 (by decide) (fun hc2 => ?_) (fun hc2 => ?_)
  · have hf := ift hf hc2
    refine lv_iconst (v := (-1 : Int32)) hx hb dX8_promise_20 (by decide) ?_
    exact rq_i C0 (Pa_weights, Pa_chance, Pa_burnt, Pa_daysReckoned, Pa_milesReckoned, Pa_coalReckoned) (pr_2 hf) hP hD hS dX8_promise_21
  · have hf := iff_ hf hc2
    refine lv_iload hx hb dX8_promise_9 (lv_at hl 4 rfl) ?_
    refine lv_iconst (v := (1 : Int32)) hx hb dX8_promise_11 (by decide) ?_
    refine lv_bipush (v := (16 : Int32)) hx hb dX8_promise_12 (by decide) ?_
    obtain ⟨u3, eu3, hf⟩ := Option.bind_eq_some_iff.mp hf
    refine cq_i (wc' := fun (u : Unit) => ([] : va_W)) (ws' := fun (u : Unit) => (wX8 cy qSC (qWe 0) (qPa 0) (qHo 0) (qHb 0) (qTa 0) (qRe 0) (qVo 0) (qAg 0) (qDr 0) SC_faultPlace SC_refusedBy ++ (wX2 cy qPa Pa_sailMiles Pa_weights Pa_chance Pa_burnt Pa_engineMiles Pa_daysReckoned Pa_milesReckoned Pa_coalReckoned ++ (wX7 cy qWe We_weights We_knownFrom We_told)))) (wc := ([] : va_W)) (wr := (wX8 cy qSC (qWe 0) (qPa 0) (qHo 0) (qHb 0) (qTa 0) (qRe 0) (qVo 0) (qAg 0) (qDr 0) SC_faultPlace SC_refusedBy ++ (wX2 cy qPa Pa_sailMiles Pa_weights Pa_chance Pa_burnt Pa_engineMiles Pa_daysReckoned Pa_milesReckoned Pa_coalReckoned ++ (wX7 cy qWe We_weights We_knownFrom We_told)))) C0 hP hD hS [] [0, 1, 2, 3, 4, 5, 6, 7, 8] [0, 1, 2, 3, 4, 5, 6, 7, 8] rfl rfl (by decide) (by decide) (by decide) (fun _ => rfl) (va_runS (As := [.int x4, .int (1 : Int32), .int (16 : Int32)]) (rest := []) ⟨hx, hb, hml, hown, hts⟩ (c_X8_isWithin l D cy   H.size x4 (1 : Int32) (16 : Int32) u3 eu3) (va_cwS 3 hts gX8_promise_X8_isWithin rfl rfl rfl (by decide +kernel) ⟨Nat.le_of_ble_eq_true rfl, Nat.le_of_ble_eq_true rfl⟩) (pre_S (hP.sub (ws' := ([] : va_W)) [] rfl) hK (hD.sub (ws' := ([] : va_W)) [] (by decide) rfl) hN) rfl rfl hl.1 rfl (lv_room (Nat.le_of_ble_eq_true rfl)) dX8_promise_14 ⟨Nat.zero_le _, Nat.zero_le _⟩) (fun r u H locs hw hP hD hS => ?_)
    have hw := hw.symm
    subst hw
    have hP : va_P D vwCl (wX8 cy qSC (qWe 0) (qPa 0) (qHo 0) (qHb 0) (qTa 0) (qRe 0) (qVo 0) (qAg 0) (qDr 0) SC_faultPlace SC_refusedBy ++ (wX2 cy qPa Pa_sailMiles Pa_weights Pa_chance Pa_burnt Pa_engineMiles Pa_daysReckoned Pa_milesReckoned Pa_coalReckoned ++ (wX7 cy qWe We_weights We_knownFrom We_told))) H := hP
    have hD : va_D A (wX8 cy qSC (qWe 0) (qPa 0) (qHo 0) (qHb 0) (qTa 0) (qRe 0) (qVo 0) (qAg 0) (qDr 0) SC_faultPlace SC_refusedBy ++ (wX2 cy qPa Pa_sailMiles Pa_weights Pa_chance Pa_burnt Pa_engineMiles Pa_daysReckoned Pa_milesReckoned Pa_coalReckoned ++ (wX7 cy qWe We_weights We_knownFrom We_told))) := hD
    refine lv_if_ne (tgt := 22) hx hb dX8_promise_17 (by decide) (fun hc4 => ?_) (fun hc4 => ?_)
    · have hf := iff_ hf hc4
      refine lv_aload_n hx hb dX8_promise_22 rfl (lv_at hl 0 rfl) ?_
      refine va_get (D := D) (ci := 8) (v := .ref (qPa 0)) (C := RX8) (T := TX8) (N := 11) hx hb hts i_X8_promise_X8 hown hK hP 0 rfl rfl 1 (by decide) (hts _ m_X8_promise_f19) (fun _ h9 => h9) rfl dX8_promise_23 ?_
      refine lv_aload_n hx hb dX8_promise_26 rfl (lv_at hl 0 rfl) ?_
      refine va_get (D := D) (ci := 8) (v := .ref (qWe 0)) (C := RX8) (T := TX8) (N := 11) hx hb hts i_X8_promise_X8 hown hK hP 0 rfl rfl 0 (by decide) (hts _ m_X8_promise_f10) (fun _ h9 => h9) rfl dX8_promise_27 ?_
      refine lv_iload_n hx hb dX8_promise_30 rfl (lv_at hl 3 rfl) ?_
      obtain ⟨u5, eu5, hf⟩ := Option.bind_eq_some_iff.mp hf
      refine cq_v (wc' := fun (u : (Nat → Int32) × (Int32)) => (wX2 cy qPa Pa_sailMiles u.1 Pa_chance Pa_burnt Pa_engineMiles u.2 Pa_milesReckoned Pa_coalReckoned ++ (wX7 cy qWe We_weights We_knownFrom We_told))) (ws' := fun (u : (Nat → Int32) × (Int32)) => (wX8 cy qSC (qWe 0) (qPa 0) (qHo 0) (qHb 0) (qTa 0) (qRe 0) (qVo 0) (qAg 0) (qDr 0) SC_faultPlace SC_refusedBy ++ (wX2 cy qPa Pa_sailMiles u.1 Pa_chance Pa_burnt Pa_engineMiles u.2 Pa_milesReckoned Pa_coalReckoned ++ (wX7 cy qWe We_weights We_knownFrom We_told)))) (wc := (wX2 cy qPa Pa_sailMiles Pa_weights Pa_chance Pa_burnt Pa_engineMiles Pa_daysReckoned Pa_milesReckoned Pa_coalReckoned ++ (wX7 cy qWe We_weights We_knownFrom We_told))) (wr := (wX8 cy qSC (qWe 0) (qPa 0) (qHo 0) (qHb 0) (qTa 0) (qRe 0) (qVo 0) (qAg 0) (qDr 0) SC_faultPlace SC_refusedBy)) C0 hP hD hS [1, 2, 3, 4, 5, 6, 7, 8] [0] [0, 1, 2, 3, 4, 5, 6, 7, 8] rfl rfl (by decide) (by decide) (by decide) (fun _ => rfl) (va_runV (As := [.ref (qWe 0), .int x3]) (rest := []) ⟨hx, hb, hml, hown, hts⟩ (c_X2_know l D cy qPa qWe Pa_sailMiles Pa_weights Pa_chance Pa_burnt Pa_engineMiles Pa_daysReckoned Pa_milesReckoned Pa_coalReckoned We_weights We_knownFrom We_told H.size x3 u5 eu5) (cwV 2 hts gX8_promise_X2_know rfl rfl rfl (by decide +kernel) ⟨Nat.le_of_ble_eq_true rfl, Nat.le_of_ble_eq_true rfl⟩) (pre_V (hP.sub (ws' := (wX2 cy qPa Pa_sailMiles Pa_weights Pa_chance Pa_burnt Pa_engineMiles Pa_daysReckoned Pa_milesReckoned Pa_coalReckoned ++ (wX7 cy qWe We_weights We_knownFrom We_told))) [1, 2, 3, 4, 5, 6, 7, 8] rfl) hK (hD.sub (ws' := (wX2 cy qPa Pa_sailMiles Pa_weights Pa_chance Pa_burnt Pa_engineMiles Pa_daysReckoned Pa_milesReckoned Pa_coalReckoned ++ (wX7 cy qWe We_weights We_knownFrom We_told))) [1, 2, 3, 4, 5, 6, 7, 8] (by decide) rfl) hN 2 0 rfl rfl) rfl rfl hl.1 rfl (lv_room (Nat.le_of_ble_eq_true rfl)) dX8_promise_31 ⟨Nat.zero_le _, Nat.zero_le _⟩) (fun u H locs hw hP hD hS => ?_)
      have hw := hw.symm
      subst hw
      have hP : va_P D vwCl (wX8 cy qSC (qWe 0) (qPa 0) (qHo 0) (qHb 0) (qTa 0) (qRe 0) (qVo 0) (qAg 0) (qDr 0) SC_faultPlace SC_refusedBy ++ (wX2 cy qPa Pa_sailMiles u5.1 Pa_chance Pa_burnt Pa_engineMiles u5.2 Pa_milesReckoned Pa_coalReckoned ++ (wX7 cy qWe We_weights We_knownFrom We_told))) H := hP
      have hD : va_D A (wX8 cy qSC (qWe 0) (qPa 0) (qHo 0) (qHb 0) (qTa 0) (qRe 0) (qVo 0) (qAg 0) (qDr 0) SC_faultPlace SC_refusedBy ++ (wX2 cy qPa Pa_sailMiles u5.1 Pa_chance Pa_burnt Pa_engineMiles u5.2 Pa_milesReckoned Pa_coalReckoned ++ (wX7 cy qWe We_weights We_knownFrom We_told))) := hD
      refine lv_aload_n hx hb dX8_promise_34 rfl (lv_at hl 0 rfl) ?_
      refine va_get (D := D) (ci := 8) (v := .ref (qPa 0)) (C := RX8) (T := TX8) (N := 11) hx hb hts i_X8_promise_X8 hown hK hP 0 rfl rfl 1 (by decide) (hts _ m_X8_promise_f19) (fun _ h9 => h9) rfl dX8_promise_35 ?_
      refine lv_iload_n hx hb dX8_promise_38 rfl (lv_at hl 1 rfl) ?_
      refine lv_iload_n hx hb dX8_promise_39 rfl (lv_at hl 2 rfl) ?_
      refine lv_iload hx hb dX8_promise_40 (lv_at hl 4 rfl) ?_
      obtain ⟨u6, eu6, hf⟩ := Option.bind_eq_some_iff.mp hf
      refine cq_i (wc' := fun (u : (Nat → Int64) × (Nat → Int64) × (Int32) × (Int32) × (Int32)) => (wX2 cy qPa Pa_sailMiles u5.1 u.1 u.2.1 Pa_engineMiles u.2.2.1 u.2.2.2.1 u.2.2.2.2)) (ws' := fun (u : (Nat → Int64) × (Nat → Int64) × (Int32) × (Int32) × (Int32)) => (wX8 cy qSC (qWe 0) (qPa 0) (qHo 0) (qHb 0) (qTa 0) (qRe 0) (qVo 0) (qAg 0) (qDr 0) SC_faultPlace SC_refusedBy ++ (wX2 cy qPa Pa_sailMiles u5.1 u.1 u.2.1 Pa_engineMiles u.2.2.1 u.2.2.2.1 u.2.2.2.2 ++ (wX7 cy qWe We_weights We_knownFrom We_told)))) (wc := (wX2 cy qPa Pa_sailMiles u5.1 Pa_chance Pa_burnt Pa_engineMiles u5.2 Pa_milesReckoned Pa_coalReckoned)) (wr := (wX8 cy qSC (qWe 0) (qPa 0) (qHo 0) (qHb 0) (qTa 0) (qRe 0) (qVo 0) (qAg 0) (qDr 0) SC_faultPlace SC_refusedBy ++ (wX7 cy qWe We_weights We_knownFrom We_told))) C0 hP hD hS [1, 2, 3, 4, 5] [0, 6, 7, 8] [0, 4, 5, 6, 7, 8, 1, 2, 3] rfl rfl (by decide) (by decide) (by decide) (fun _ => rfl) (va_runV (As := [.int x1, .int x2, .int x4]) (rest := []) ⟨hx, hb, hml, hown, hts⟩ (c_X2_fewestDays l D cy qPa Pa_sailMiles u5.1 Pa_chance Pa_burnt Pa_engineMiles u5.2 Pa_milesReckoned Pa_coalReckoned H.size x1 x2 x4 u6 eu6) (cwV 3 hts gX8_promise_X2_fewestDays rfl rfl rfl (by decide +kernel) ⟨Nat.le_of_ble_eq_true rfl, Nat.le_of_ble_eq_true rfl⟩) (pre_V (hP.sub (ws' := (wX2 cy qPa Pa_sailMiles u5.1 Pa_chance Pa_burnt Pa_engineMiles u5.2 Pa_milesReckoned Pa_coalReckoned)) [1, 2, 3, 4, 5] rfl) hK (hD.sub (ws' := (wX2 cy qPa Pa_sailMiles u5.1 Pa_chance Pa_burnt Pa_engineMiles u5.2 Pa_milesReckoned Pa_coalReckoned)) [1, 2, 3, 4, 5] (by decide) rfl) hN 2 0 rfl rfl) rfl rfl hl.1 rfl (lv_room (Nat.le_of_ble_eq_true rfl)) dX8_promise_42 ⟨Nat.zero_le _, Nat.zero_le _⟩) (fun r u H locs hw hP hD hS => ?_)
      obtain ⟨rfl, rfl⟩ := hw
      have hP : va_P D vwCl (wX8 cy qSC (qWe 0) (qPa 0) (qHo 0) (qHb 0) (qTa 0) (qRe 0) (qVo 0) (qAg 0) (qDr 0) SC_faultPlace SC_refusedBy ++ (wX2 cy qPa Pa_sailMiles u5.1 u6.2.1 u6.2.2.1 Pa_engineMiles u6.2.2.2.1 u6.2.2.2.2.1 u6.2.2.2.2.2 ++ (wX7 cy qWe We_weights We_knownFrom We_told))) H := hP
      have hD : va_D A (wX8 cy qSC (qWe 0) (qPa 0) (qHo 0) (qHb 0) (qTa 0) (qRe 0) (qVo 0) (qAg 0) (qDr 0) SC_faultPlace SC_refusedBy ++ (wX2 cy qPa Pa_sailMiles u5.1 u6.2.1 u6.2.2.1 Pa_engineMiles u6.2.2.2.1 u6.2.2.2.2.1 u6.2.2.2.2.2 ++ (wX7 cy qWe We_weights We_knownFrom We_told))) := hD
      exact rq_i C0 (u5.1, u6.2.1, u6.2.2.1, u6.2.2.2.1, u6.2.2.2.2.1, u6.2.2.2.2.2) (pr_2 hf) hP hD hS dX8_promise_45
    · have hf := ift hf hc4
      refine lv_iconst (v := (-1 : Int32)) hx hb dX8_promise_20 (by decide) ?_
      exact rq_i C0 (Pa_weights, Pa_chance, Pa_burnt, Pa_daysReckoned, Pa_milesReckoned, Pa_coalReckoned) (pr_2 hf) hP hD hS dX8_promise_21

theorem i_X8_load_X8 : ∀ w ∈ wsX80, w ∈ wsX8_load := by decide +kernel
theorem m_X8_load_f26 : Cond.fieldLink RX8 26 "SailCargo" "hold" "LSailCargo$Hold;" ∈ wsX8_load := by decide +kernel
set_option maxHeartbeats 4000000 in
set_option maxRecDepth 100000 in
theorem c_X8_load (l : Launch) (D : va_G) (cy : Nat → ClassId) (qSC qHo qWe qPa qHb qTa qRe qVo qAg qDr : Nat → Nat) (SC_faultPlace : Int32) (SC_refusedBy : Int32) (Ho_tons : Nat → Int32) (Ho_worth : Nat → Int32) (Ho_apartBits : Nat → Int32) (Ho_loads : Int32) (Ho_room : Int32) (Ho_bestBits : Int32) (Ho_bestTons : Int32) (Ho_bestWorth : Int32) (sz : Nat) (x1 : Int32) (x2 : Int32) (X : Int32 × (Int32) × (Nat → Int32) × (Nat → Int32) × (Int32)) (hf : f_X8_load SC_refusedBy Ho_tons Ho_worth Ho_loads x1 x2 = some X) : Met l yX8_load wsX8_load ({ frames := 2, cells := 0, slots := 0, locals := 44 } : Room) (va_Pc [.ref (qSC 0), .int x1, .int x2] (PW D cy (wX8 cy qSC (qWe 0) (qPa 0) (qHo 0) (qHb 0) (qTa 0) (qRe 0) (qVo 0) (qAg 0) (qDr 0) SC_faultPlace SC_refusedBy ++ (wX1 cy qHo Ho_tons Ho_worth Ho_apartBits Ho_loads Ho_room Ho_bestBits Ho_bestTons Ho_bestWorth)) sz)) (va_Qi (fun (r : Int32) (u : (Int32) × (Nat → Int32) × (Nat → Int32) × (Int32)) => r = X.1 ∧ u = X.2) (fun u t => BW D cy (va_A (wX8 cy qSC (qWe 0) (qPa 0) (qHo 0) (qHb 0) (qTa 0) (qRe 0) (qVo 0) (qAg 0) (qDr 0) SC_faultPlace SC_refusedBy ++ (wX1 cy qHo Ho_tons Ho_worth Ho_apartBits Ho_loads Ho_room Ho_bestBits Ho_bestTons Ho_bestWorth)) sz) (wX8 cy qSC (qWe 0) (qPa 0) (qHo 0) (qHb 0) (qTa 0) (qRe 0) (qVo 0) (qAg 0) (qDr 0) SC_faultPlace u.1 ++ (wX1 cy qHo u.2.1 u.2.2.1 Ho_apartBits u.2.2.2 Ho_room Ho_bestBits Ho_bestTons Ho_bestWorth)) t) (va_A (wX8 cy qSC (qWe 0) (qPa 0) (qHo 0) (qHb 0) (qTa 0) (qRe 0) (qVo 0) (qAg 0) (qDr 0) SC_faultPlace SC_refusedBy ++ (wX1 cy qHo Ho_tons Ho_worth Ho_apartBits Ho_loads Ho_room Ho_bestBits Ho_bestTons Ho_bestWorth)) sz)) 0 0 (va_A (wX8 cy qSC (qWe 0) (qPa 0) (qHo 0) (qHb 0) (qTa 0) (qRe 0) (qVo 0) (qAg 0) (qDr 0) SC_faultPlace SC_refusedBy ++ (wX1 cy qHo Ho_tons Ho_worth Ho_apartBits Ho_loads Ho_room Ho_bestBits Ho_bestTons Ho_bestWorth)) sz) := by
  refine met_enter (Qc := fun A => (va_Qi (fun (r : Int32) (u : (Int32) × (Nat → Int32) × (Nat → Int32) × (Int32)) => r = X.1 ∧ u = X.2) (fun u t => BW D cy A (wX8 cy qSC (qWe 0) (qPa 0) (qHo 0) (qHb 0) (qTa 0) (qRe 0) (qVo 0) (qAg 0) (qDr 0) SC_faultPlace u.1 ++ (wX1 cy qHo u.2.1 u.2.2.1 Ho_apartBits u.2.2.2 Ho_room Ho_bestBits Ho_bestTons Ho_bestWorth)) t) A)) (lv0 := [(0, .ref (qSC 0)), (1, .int x1), (2, .int x2)]) (by decide) rfl (Nat.le_of_ble_eq_true rfl) rfl ?_
  intro p e s m below meth c A ls hnm C0 hP hD hS hl
  generalize hH : s.heap = H at hP ⊢
  generalize hLoc : ([] : List Loc) = locs at hS ⊢
  have hS : va_S A s.heap H locs := by rw [← hH]; exact hS
  have C0 : CX cX8_load 3 (some .int) RX8 wsX8_load D cy p s m _ meth c A := C0
  obtain ⟨hx, hb, hr, hml, hown, hts, hK, hA, hN, hlocks⟩ := id C0
  unfold f_X8_load at hf
  refine lv_aload_n hx hb dX8_load_0 rfl (lv_at hl 0 rfl) ?_
  refine lv_aload_n hx hb dX8_load_1 rfl (lv_at hl 0 rfl) ?_
  refine va_get (D := D) (ci := 8) (v := .ref (qHo 0)) (C := RX8) (T := TX8) (N := 11) hx hb hts i_X8_load_X8 hown hK hP 0 rfl rfl 2 (by decide) (hts _ m_X8_load_f26) (fun _ h9 => h9) rfl dX8_load_2 ?_
  refine lv_iload_n hx hb dX8_load_5 rfl (lv_at hl 1 rfl) ?_
  refine lv_iload_n hx hb dX8_load_6 rfl (lv_at hl 2 rfl) ?_
  obtain ⟨u1, eu1, hf⟩ := Option.bind_eq_some_iff.mp hf
  refine cq_i (wc' := fun (u : (Nat → Int32) × (Nat → Int32) × (Int32)) => (wX1 cy qHo u.1 u.2.1 Ho_apartBits u.2.2 Ho_room Ho_bestBits Ho_bestTons Ho_bestWorth)) (ws' := fun (u : (Nat → Int32) × (Nat → Int32) × (Int32)) => (wX8 cy qSC (qWe 0) (qPa 0) (qHo 0) (qHb 0) (qTa 0) (qRe 0) (qVo 0) (qAg 0) (qDr 0) SC_faultPlace SC_refusedBy ++ (wX1 cy qHo u.1 u.2.1 Ho_apartBits u.2.2 Ho_room Ho_bestBits Ho_bestTons Ho_bestWorth))) (wc := (wX1 cy qHo Ho_tons Ho_worth Ho_apartBits Ho_loads Ho_room Ho_bestBits Ho_bestTons Ho_bestWorth)) (wr := (wX8 cy qSC (qWe 0) (qPa 0) (qHo 0) (qHb 0) (qTa 0) (qRe 0) (qVo 0) (qAg 0) (qDr 0) SC_faultPlace SC_refusedBy)) C0 hP hD hS [1, 2, 3, 4] [0] [0, 1, 2, 3, 4] rfl rfl (by decide) (by decide) (by decide) (fun _ => rfl) (va_runV (As := [.int x1, .int x2]) (rest := [.ref (qSC 0)]) ⟨hx, hb, hml, hown, hts⟩ (c_X1_add l D cy qHo Ho_tons Ho_worth Ho_apartBits Ho_loads Ho_room Ho_bestBits Ho_bestTons Ho_bestWorth H.size x1 x2 u1 eu1) (cwV 2 hts gX8_load_X1_add rfl rfl rfl (by decide +kernel) ⟨Nat.le_of_ble_eq_true rfl, Nat.le_of_ble_eq_true rfl⟩) (pre_V (hP.sub (ws' := (wX1 cy qHo Ho_tons Ho_worth Ho_apartBits Ho_loads Ho_room Ho_bestBits Ho_bestTons Ho_bestWorth)) [1, 2, 3, 4] rfl) hK (hD.sub (ws' := (wX1 cy qHo Ho_tons Ho_worth Ho_apartBits Ho_loads Ho_room Ho_bestBits Ho_bestTons Ho_bestWorth)) [1, 2, 3, 4] (by decide) rfl) hN 1 0 rfl rfl) rfl rfl hl.1 rfl (lv_room (Nat.le_of_ble_eq_true rfl)) dX8_load_7 ⟨Nat.zero_le _, Nat.zero_le _⟩) (fun r u H locs hw hP hD hS => ?_)
  obtain ⟨rfl, rfl⟩ := hw
  have hP : va_P D vwCl (wX8 cy qSC (qWe 0) (qPa 0) (qHo 0) (qHb 0) (qTa 0) (qRe 0) (qVo 0) (qAg 0) (qDr 0) SC_faultPlace SC_refusedBy ++ (wX1 cy qHo u1.2.1 u1.2.2.1 Ho_apartBits u1.2.2.2 Ho_room Ho_bestBits Ho_bestTons Ho_bestWorth)) H := hP
  have hD : va_D A (wX8 cy qSC (qWe 0) (qPa 0) (qHo 0) (qHb 0) (qTa 0) (qRe 0) (qVo 0) (qAg 0) (qDr 0) SC_faultPlace SC_refusedBy ++ (wX1 cy qHo u1.2.1 u1.2.2.1 Ho_apartBits u1.2.2.2 Ho_room Ho_bestBits Ho_bestTons Ho_bestWorth)) := hD
  obtain ⟨u2, eu2, hf⟩ := Option.bind_eq_some_iff.mp hf
  refine cq_i (wc' := fun (u : (Int32)) => (wX8 cy qSC (qWe 0) (qPa 0) (qHo 0) (qHb 0) (qTa 0) (qRe 0) (qVo 0) (qAg 0) (qDr 0) SC_faultPlace u)) (ws' := fun (u : (Int32)) => (wX8 cy qSC (qWe 0) (qPa 0) (qHo 0) (qHb 0) (qTa 0) (qRe 0) (qVo 0) (qAg 0) (qDr 0) SC_faultPlace u ++ (wX1 cy qHo u1.2.1 u1.2.2.1 Ho_apartBits u1.2.2.2 Ho_room Ho_bestBits Ho_bestTons Ho_bestWorth))) (wc := (wX8 cy qSC (qWe 0) (qPa 0) (qHo 0) (qHb 0) (qTa 0) (qRe 0) (qVo 0) (qAg 0) (qDr 0) SC_faultPlace SC_refusedBy)) (wr := (wX1 cy qHo u1.2.1 u1.2.2.1 Ho_apartBits u1.2.2.2 Ho_room Ho_bestBits Ho_bestTons Ho_bestWorth)) C0 hP hD hS [0] [1, 2, 3, 4] [4, 0, 1, 2, 3] rfl rfl (by decide) (by decide) (by decide) (fun _ => rfl) (va_runV (As := [.int u1.1]) (rest := []) ⟨hx, hb, hml, hown, hts⟩ (c_X8_answered l D cy qSC qWe qPa qHo qHb qTa qRe qVo qAg qDr SC_faultPlace SC_refusedBy H.size u1.1 u2 eu2) (cwV 1 hts gX8_load_X8_answered rfl rfl rfl (by decide +kernel) ⟨Nat.le_of_ble_eq_true rfl, Nat.le_of_ble_eq_true rfl⟩) (pre_V (hP.sub (ws' := (wX8 cy qSC (qWe 0) (qPa 0) (qHo 0) (qHb 0) (qTa 0) (qRe 0) (qVo 0) (qAg 0) (qDr 0) SC_faultPlace SC_refusedBy)) [0] rfl) hK (hD.sub (ws' := (wX8 cy qSC (qWe 0) (qPa 0) (qHo 0) (qHb 0) (qTa 0) (qRe 0) (qVo 0) (qAg 0) (qDr 0) SC_faultPlace SC_refusedBy)) [0] (by decide) rfl) hN 8 0 rfl rfl) rfl rfl hl.1 rfl (lv_room (Nat.le_of_ble_eq_true rfl)) dX8_load_10 ⟨Nat.zero_le _, Nat.zero_le _⟩) (fun r u H locs hw hP hD hS => ?_)
  obtain ⟨rfl, rfl⟩ := hw
  have hP : va_P D vwCl (wX8 cy qSC (qWe 0) (qPa 0) (qHo 0) (qHb 0) (qTa 0) (qRe 0) (qVo 0) (qAg 0) (qDr 0) SC_faultPlace u2.2 ++ (wX1 cy qHo u1.2.1 u1.2.2.1 Ho_apartBits u1.2.2.2 Ho_room Ho_bestBits Ho_bestTons Ho_bestWorth)) H := hP
  have hD : va_D A (wX8 cy qSC (qWe 0) (qPa 0) (qHo 0) (qHb 0) (qTa 0) (qRe 0) (qVo 0) (qAg 0) (qDr 0) SC_faultPlace u2.2 ++ (wX1 cy qHo u1.2.1 u1.2.2.1 Ho_apartBits u1.2.2.2 Ho_room Ho_bestBits Ho_bestTons Ho_bestWorth)) := hD
  exact rq_i C0 (u2.2, u1.2.1, u1.2.2.1, u1.2.2.2) (pr_2 hf) hP hD hS dX8_load_13

