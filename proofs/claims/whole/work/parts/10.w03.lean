theorem i_X2_reckonPlace_X2 : ∀ w ∈ wsX20, w ∈ wsX2_reckonPlace := by decide +kernel
theorem m_X2_reckonPlace_f18 : Cond.fieldLink RX2 18 "SailCargo$Passage" "chance" "[J" ∈ wsX2_reckonPlace := by decide +kernel
theorem m_X2_reckonPlace_f22 : Cond.fieldLink RX2 22 "SailCargo$Passage" "burnt" "[J" ∈ wsX2_reckonPlace := by decide +kernel
theorem m_X2_reckonPlace_f15 : Cond.fieldLink RX2 15 "SailCargo$Passage" "weights" "[I" ∈ wsX2_reckonPlace := by decide +kernel
set_option maxHeartbeats 4000000 in
set_option maxRecDepth 100000 in
theorem w_X2_reckonPlace_158 {p : Program} {l : Launch} {e : Env} {s : State} {m : MethodId} {args : Array Value} {below : List Frame} {meth : Method} {c : Code} {A : Nat → Prop} {D : va_G} {cy : Nat → ClassId} {qPa : Nat → Nat} {Pa_sailMiles Pa_weights : Nat → Int32} {Pa_engineMiles Pa_daysReckoned Pa_milesReckoned Pa_coalReckoned : Int32} {X : (Nat → Int64) × (Nat → Int64)} {kh37 : (Nat → Int64) → (Nat → Int64) → Int32 → Int32 → Int32 → Int32 → Int64 → Int64 → Int64 → Int32 → Option ((Nat → Int64) × (Nat → Int64))} (C0 : CX cX2_reckonPlace 14 none RX2 wsX2_reckonPlace D cy p s m args meth c A) (hk37 : ∀ (Pa_chance : Nat → Int64) (Pa_burnt : Nat → Int64) (x1 : Int32) (x2 : Int32) (x3 : Int32) (x5 : Int32) (x6 : Int64) (x8 : Int64) (x10 : Int64) (x12 : Int32), kh37 Pa_chance Pa_burnt x1 x2 x3 x5 x6 x8 x10 x12 = some X → ∀ (H : Heap) (locs : List Loc) (ls : Array Slot), va_P D vwCl (wX2 cy qPa Pa_sailMiles Pa_weights Pa_chance Pa_burnt Pa_engineMiles Pa_daysReckoned Pa_milesReckoned Pa_coalReckoned) H → va_D A (wX2 cy qPa Pa_sailMiles Pa_weights Pa_chance Pa_burnt Pa_engineMiles Pa_daysReckoned Pa_milesReckoned Pa_coalReckoned) → va_S A s.heap H locs → lv_has ls 14 [(0, .ref (qPa 0)), (1, .int x1), (2, .int x2), (3, .int x3), (5, .int x5), (6, .long x6), (8, .long x8), (10, .long x10), (12, .int x12)] → W p l e ({ frames := 3, cells := 0, slots := 0, locals := 70 } : Room) s m args below meth c H locs 0 0 (MQ below (va_Qv (fun (u : (Nat → Int64) × (Nat → Int64)) => u = X) (fun u t => BW D cy A (wX2 cy qPa Pa_sailMiles Pa_weights u.1 u.2 Pa_engineMiles Pa_daysReckoned Pa_milesReckoned Pa_coalReckoned) t) A) args s 0 0 A) (F0 m 37 ls [])) (Pa_chance : Nat → Int64) (Pa_burnt : Nat → Int64) (x1 : Int32) (x2 : Int32) (x3 : Int32) (x5 : Int32) (x6 : Int64) (x8 : Int64) (x10 : Int64) (x12 : Int32) (hf : f_X2_reckonPlace_158 Pa_sailMiles Pa_weights Pa_engineMiles kh37 Pa_chance Pa_burnt x1 x2 x3 x5 x6 x8 x10 x12 = some X) : ∀ (H : Heap) (locs : List Loc) (ls : Array Slot), va_P D vwCl (wX2 cy qPa Pa_sailMiles Pa_weights Pa_chance Pa_burnt Pa_engineMiles Pa_daysReckoned Pa_milesReckoned Pa_coalReckoned) H → va_D A (wX2 cy qPa Pa_sailMiles Pa_weights Pa_chance Pa_burnt Pa_engineMiles Pa_daysReckoned Pa_milesReckoned Pa_coalReckoned) → va_S A s.heap H locs → lv_has ls 14 [(0, .ref (qPa 0)), (1, .int x1), (2, .int x2), (3, .int x3), (5, .int x5), (6, .long x6), (8, .long x8), (10, .long x10), (12, .int x12)] → W p l e ({ frames := 3, cells := 0, slots := 0, locals := 70 } : Room) s m args below meth c H locs 0 0 (MQ below (va_Qv (fun (u : (Nat → Int64) × (Nat → Int64)) => u = X) (fun u t => BW D cy A (wX2 cy qPa Pa_sailMiles Pa_weights u.1 u.2 Pa_engineMiles Pa_daysReckoned Pa_milesReckoned Pa_coalReckoned) t) A) args s 0 0 A) (F0 m 158 ls []) := by
  obtain ⟨hx, hb, hr, hml, hown, hts, hK, hA, hN, hlocks⟩ := id C0
  intro H locs ls hP hD hS hl
  unfold f_X2_reckonPlace_158 at hf
  refine lv_iinc (v := (x12 + 1)) (lv' := [(12, .int (x12 + 1)), (0, .ref (qPa 0)), (1, .int x1), (2, .int x2), (3, .int x3), (5, .int x5), (6, .long x6), (8, .long x8), (10, .long x10)]) hx hb dX2_reckonPlace_158 hl (k := 8) rfl rfl (by decide) rfl (fun ls hl => ?_)
  refine lv_goto (tgt := 37) hx hb dX2_reckonPlace_161 (by decide) ?_
  exact hk37 Pa_chance Pa_burnt x1 x2 x3 x5 x6 x8 x10 (x12 + 1) hf H locs ls hP hD hS (lv_sub hl [1, 2, 3, 4, 5, 6, 7, 8, 0] rfl)

set_option maxHeartbeats 4000000 in
set_option maxRecDepth 100000 in
theorem w_X2_reckonPlace_37 {p : Program} {l : Launch} {e : Env} {s : State} {m : MethodId} {args : Array Value} {below : List Frame} {meth : Method} {c : Code} {A : Nat → Prop} {D : va_G} {cy : Nat → ClassId} {qPa : Nat → Nat} {Pa_sailMiles Pa_weights : Nat → Int32} {Pa_engineMiles Pa_daysReckoned Pa_milesReckoned Pa_coalReckoned : Int32} {X : (Nat → Int64) × (Nat → Int64)}  (C0 : CX cX2_reckonPlace 14 none RX2 wsX2_reckonPlace D cy p s m args meth c A)  : ∀ (n : Nat) (Pa_chance : Nat → Int64) (Pa_burnt : Nat → Int64) (x1 : Int32) (x2 : Int32) (x3 : Int32) (x5 : Int32) (x6 : Int64) (x8 : Int64) (x10 : Int64) (x12 : Int32), g_X2_reckonPlace_37 Pa_sailMiles Pa_weights Pa_engineMiles n Pa_chance Pa_burnt x1 x2 x3 x5 x6 x8 x10 x12 = some X → ∀ (H : Heap) (locs : List Loc) (ls : Array Slot), va_P D vwCl (wX2 cy qPa Pa_sailMiles Pa_weights Pa_chance Pa_burnt Pa_engineMiles Pa_daysReckoned Pa_milesReckoned Pa_coalReckoned) H → va_D A (wX2 cy qPa Pa_sailMiles Pa_weights Pa_chance Pa_burnt Pa_engineMiles Pa_daysReckoned Pa_milesReckoned Pa_coalReckoned) → va_S A s.heap H locs → lv_has ls 14 [(0, .ref (qPa 0)), (1, .int x1), (2, .int x2), (3, .int x3), (5, .int x5), (6, .long x6), (8, .long x8), (10, .long x10), (12, .int x12)] → W p l e ({ frames := 3, cells := 0, slots := 0, locals := 70 } : Room) s m args below meth c H locs 0 0 (MQ below (va_Qv (fun (u : (Nat → Int64) × (Nat → Int64)) => u = X) (fun u t => BW D cy A (wX2 cy qPa Pa_sailMiles Pa_weights u.1 u.2 Pa_engineMiles Pa_daysReckoned Pa_milesReckoned Pa_coalReckoned) t) A) args s 0 0 A) (F0 m 37 ls []) := by
  obtain ⟨hx, hb, hr, hml, hown, hts, hK, hA, hN, hlocks⟩ := id C0
  intro n
  induction n with
  | zero => intro Pa_chance Pa_burnt x1 x2 x3 x5 x6 x8 x10 x12 hf; exact (no_some hf).elim
  | succ n hk37 =>
    intro Pa_chance Pa_burnt x1 x2 x3 x5 x6 x8 x10 x12 hf H locs ls hP hD hS hl
    have hf : f_X2_reckonPlace_37 Pa_sailMiles Pa_weights Pa_engineMiles (fun Pa_chance Pa_burnt x1 x2 x3 x5 x6 x8 x10 x12 => g_X2_reckonPlace_37 Pa_sailMiles Pa_weights Pa_engineMiles n Pa_chance Pa_burnt x1 x2 x3 x5 x6 x8 x10 x12) Pa_chance Pa_burnt x1 x2 x3 x5 x6 x8 x10 x12 = some X := hf
    unfold f_X2_reckonPlace_37 at hf
    refine lv_iload hx hb dX2_reckonPlace_37 (lv_at hl 8 rfl) ?_
    refine lv_iconst (v := (4 : Int32)) hx hb dX2_reckonPlace_39 (by decide) ?_
    refine lv_icmp_ge (tgt := 164) hx hb dX2_reckonPlace_40 (by decide) (fun hc1 => ?_) (fun hc1 => ?_)
    · have hf := ift hf hc1
      refine lv_iload_n hx hb dX2_reckonPlace_164 rfl (lv_at hl 1 rfl) ?_
      refine lv_iload_n hx hb dX2_reckonPlace_165 rfl (lv_at hl 2 rfl) ?_
      refine lv_iload_n hx hb dX2_reckonPlace_166 rfl (lv_at hl 3 rfl) ?_
      obtain ⟨u2, eu2, hf⟩ := Option.bind_eq_some_iff.mp hf
      refine cq_i (wc' := fun (u : Unit) => ([] : va_W)) (ws' := fun (u : Unit) => (wX2 cy qPa Pa_sailMiles Pa_weights Pa_chance Pa_burnt Pa_engineMiles Pa_daysReckoned Pa_milesReckoned Pa_coalReckoned)) (wc := ([] : va_W)) (wr := (wX2 cy qPa Pa_sailMiles Pa_weights Pa_chance Pa_burnt Pa_engineMiles Pa_daysReckoned Pa_milesReckoned Pa_coalReckoned)) C0 hP hD hS [] [0, 1, 2, 3, 4] [0, 1, 2, 3, 4] rfl rfl (by decide) (by decide) (by decide) (fun _ => rfl) (va_runS (As := [.int x1, .int x2, .int x3]) (rest := []) ⟨hx, hb, hml, hown, hts⟩ (c_X2_at l D cy   H.size x1 x2 x3 u2 eu2) (va_cwS 3 hts gX2_reckonPlace_X2_at rfl rfl rfl (by decide +kernel) ⟨Nat.le_of_ble_eq_true rfl, Nat.le_of_ble_eq_true rfl⟩) (pre_S (hP.sub (ws' := ([] : va_W)) [] rfl) hK (hD.sub (ws' := ([] : va_W)) [] (by decide) rfl) hN) rfl rfl hl.1 rfl (lv_room (Nat.le_of_ble_eq_true rfl)) dX2_reckonPlace_167 ⟨Nat.zero_le _, Nat.zero_le _⟩) (fun r u H locs hw hP hD hS => ?_)
      have hw := hw.symm
      subst hw
      have hP : va_P D vwCl (wX2 cy qPa Pa_sailMiles Pa_weights Pa_chance Pa_burnt Pa_engineMiles Pa_daysReckoned Pa_milesReckoned Pa_coalReckoned) H := hP
      have hD : va_D A (wX2 cy qPa Pa_sailMiles Pa_weights Pa_chance Pa_burnt Pa_engineMiles Pa_daysReckoned Pa_milesReckoned Pa_coalReckoned) := hD
      refine lv_istore (lv' := [(12, .int u2), (0, .ref (qPa 0)), (1, .int x1), (2, .int x2), (3, .int x3), (5, .int x5), (6, .long x6), (8, .long x8), (10, .long x10)]) hx hb dX2_reckonPlace_170 hl (by decide) rfl (fun ls hl => ?_)
      refine lv_aload_n hx hb dX2_reckonPlace_172 rfl (lv_at hl 1 rfl) ?_
      refine va_get (D := D) (ci := 2) (v := .ref (qPa 3)) (C := RX2) (T := TX2) (N := 8) hx hb hts i_X2_reckonPlace_X2 hown hK hP 0 rfl rfl 2 (by decide) (hts _ m_X2_reckonPlace_f18) (fun _ h9 => h9) rfl dX2_reckonPlace_173 ?_
      refine lv_iload hx hb dX2_reckonPlace_176 (lv_at hl 0 rfl) ?_
      refine lv_lload hx hb dX2_reckonPlace_178 (lv_at hl 7 rfl) ?_
      obtain ⟨hz3, hf⟩ := ifn hf
      refine va_last hx hb hK hP hD hS 3 1 rfl rfl (inb_in hz3) dX2_reckonPlace_180 (fun H locs hP hD hS => ?_)
      have hP : va_P D vwCl (wX2 cy qPa Pa_sailMiles Pa_weights (vp_updL Pa_chance u2.toNatClampNeg x8) Pa_burnt Pa_engineMiles Pa_daysReckoned Pa_milesReckoned Pa_coalReckoned) H := hP
      have hD : va_D A (wX2 cy qPa Pa_sailMiles Pa_weights (vp_updL Pa_chance u2.toNatClampNeg x8) Pa_burnt Pa_engineMiles Pa_daysReckoned Pa_milesReckoned Pa_coalReckoned) := hD
      refine lv_aload_n hx hb dX2_reckonPlace_181 rfl (lv_at hl 1 rfl) ?_
      refine va_get (D := D) (ci := 2) (v := .ref (qPa 4)) (C := RX2) (T := TX2) (N := 8) hx hb hts i_X2_reckonPlace_X2 hown hK hP 0 rfl rfl 3 (by decide) (hts _ m_X2_reckonPlace_f22) (fun _ h9 => h9) rfl dX2_reckonPlace_182 ?_
      refine lv_iload hx hb dX2_reckonPlace_185 (lv_at hl 0 rfl) ?_
      refine lv_lload hx hb dX2_reckonPlace_187 (lv_at hl 8 rfl) ?_
      refine va_last hx hb hK hP hD hS 4 1 rfl rfl (inb_in hz3) dX2_reckonPlace_189 (fun H locs hP hD hS => ?_)
      have hP : va_P D vwCl (wX2 cy qPa Pa_sailMiles Pa_weights (vp_updL Pa_chance u2.toNatClampNeg x8) (vp_updL Pa_burnt u2.toNatClampNeg x10) Pa_engineMiles Pa_daysReckoned Pa_milesReckoned Pa_coalReckoned) H := hP
      have hD : va_D A (wX2 cy qPa Pa_sailMiles Pa_weights (vp_updL Pa_chance u2.toNatClampNeg x8) (vp_updL Pa_burnt u2.toNatClampNeg x10) Pa_engineMiles Pa_daysReckoned Pa_milesReckoned Pa_coalReckoned) := hD
      exact rq_v C0 ((vp_updL Pa_chance u2.toNatClampNeg x8), (vp_updL Pa_burnt u2.toNatClampNeg x10)) (Option.some.inj hf) hP hD hS dX2_reckonPlace_190
    · have hf := iff_ hf hc1
      refine lv_aload_n hx hb dX2_reckonPlace_43 rfl (lv_at hl 0 rfl) ?_
      refine lv_iload_n hx hb dX2_reckonPlace_44 rfl (lv_at hl 1 rfl) ?_
      refine lv_iload_n hx hb dX2_reckonPlace_45 rfl (lv_at hl 2 rfl) ?_
      refine lv_iload_n hx hb dX2_reckonPlace_46 rfl (lv_at hl 3 rfl) ?_
      refine lv_iload hx hb dX2_reckonPlace_47 (lv_at hl 8 rfl) ?_
      obtain ⟨u4, eu4, hf⟩ := Option.bind_eq_some_iff.mp hf
      refine cq_i (wc' := fun (u : Unit) => (wX2 cy qPa Pa_sailMiles Pa_weights Pa_chance Pa_burnt Pa_engineMiles Pa_daysReckoned Pa_milesReckoned Pa_coalReckoned)) (ws' := fun (u : Unit) => (wX2 cy qPa Pa_sailMiles Pa_weights Pa_chance Pa_burnt Pa_engineMiles Pa_daysReckoned Pa_milesReckoned Pa_coalReckoned)) (wc := (wX2 cy qPa Pa_sailMiles Pa_weights Pa_chance Pa_burnt Pa_engineMiles Pa_daysReckoned Pa_milesReckoned Pa_coalReckoned)) (wr := ([] : va_W)) C0 hP hD hS [0, 1, 2, 3, 4] [] [0, 1, 2, 3, 4] rfl rfl (by decide) (by decide) (by decide) (fun _ => rfl) (va_runV (As := [.int x1, .int x2, .int x3, .int x12]) (rest := []) ⟨hx, hb, hml, hown, hts⟩ (c_X2_afterSails l D cy qPa Pa_sailMiles Pa_weights Pa_chance Pa_burnt Pa_engineMiles Pa_daysReckoned Pa_milesReckoned Pa_coalReckoned H.size x1 x2 x3 x12 u4 eu4) (cwV 4 hts gX2_reckonPlace_X2_afterSails rfl rfl rfl (by decide +kernel) ⟨Nat.le_of_ble_eq_true rfl, Nat.le_of_ble_eq_true rfl⟩) (pre_V (hP.sub (ws' := (wX2 cy qPa Pa_sailMiles Pa_weights Pa_chance Pa_burnt Pa_engineMiles Pa_daysReckoned Pa_milesReckoned Pa_coalReckoned)) [0, 1, 2, 3, 4] rfl) hK (hD.sub (ws' := (wX2 cy qPa Pa_sailMiles Pa_weights Pa_chance Pa_burnt Pa_engineMiles Pa_daysReckoned Pa_milesReckoned Pa_coalReckoned)) [0, 1, 2, 3, 4] (by decide) rfl) hN 2 0 rfl rfl) rfl rfl hl.1 rfl (lv_room (Nat.le_of_ble_eq_true rfl)) dX2_reckonPlace_49 ⟨Nat.zero_le _, Nat.zero_le _⟩) (fun r u H locs hw hP hD hS => ?_)
      have hw := hw.symm
      subst hw
      have hP : va_P D vwCl (wX2 cy qPa Pa_sailMiles Pa_weights Pa_chance Pa_burnt Pa_engineMiles Pa_daysReckoned Pa_milesReckoned Pa_coalReckoned) H := hP
      have hD : va_D A (wX2 cy qPa Pa_sailMiles Pa_weights Pa_chance Pa_burnt Pa_engineMiles Pa_daysReckoned Pa_milesReckoned Pa_coalReckoned) := hD
      refine lv_istore (lv' := [(13, .int u4), (0, .ref (qPa 0)), (1, .int x1), (2, .int x2), (3, .int x3), (5, .int x5), (6, .long x6), (8, .long x8), (10, .long x10), (12, .int x12)]) hx hb dX2_reckonPlace_52 hl (by decide) rfl (fun ls hl => ?_)
      refine lv_aload_n hx hb dX2_reckonPlace_54 rfl (lv_at hl 1 rfl) ?_
      refine lv_iload hx hb dX2_reckonPlace_55 (lv_at hl 5 rfl) ?_
      refine lv_lload hx hb dX2_reckonPlace_57 (lv_at hl 6 rfl) ?_
      refine lv_iload hx hb dX2_reckonPlace_59 (lv_at hl 0 rfl) ?_
      refine lv_lconst (v := (0 : Int64)) hx hb dX2_reckonPlace_61 (by decide) ?_
      obtain ⟨u5, eu5, hf⟩ := Option.bind_eq_some_iff.mp hf
      refine cq_i (wc' := fun (u : Unit) => (wX2 cy qPa Pa_sailMiles Pa_weights Pa_chance Pa_burnt Pa_engineMiles Pa_daysReckoned Pa_milesReckoned Pa_coalReckoned)) (ws' := fun (u : Unit) => (wX2 cy qPa Pa_sailMiles Pa_weights Pa_chance Pa_burnt Pa_engineMiles Pa_daysReckoned Pa_milesReckoned Pa_coalReckoned)) (wc := (wX2 cy qPa Pa_sailMiles Pa_weights Pa_chance Pa_burnt Pa_engineMiles Pa_daysReckoned Pa_milesReckoned Pa_coalReckoned)) (wr := ([] : va_W)) C0 hP hD hS [0, 1, 2, 3, 4] [] [0, 1, 2, 3, 4] rfl rfl (by decide) (by decide) (by decide) (fun _ => rfl) (va_runV (As := [.int x5, .long x6, .int u4, .long (0 : Int64)]) (rest := []) ⟨hx, hb, hml, hown, hts⟩ (c_X2_isBetter l D cy qPa Pa_sailMiles Pa_weights Pa_chance Pa_burnt Pa_engineMiles Pa_daysReckoned Pa_milesReckoned Pa_coalReckoned H.size x5 x6 u4 (0 : Int64) u5 eu5) (cwV 4 hts gX2_reckonPlace_X2_isBetter rfl rfl rfl (by decide +kernel) ⟨Nat.le_of_ble_eq_true rfl, Nat.le_of_ble_eq_true rfl⟩) (pre_V (hP.sub (ws' := (wX2 cy qPa Pa_sailMiles Pa_weights Pa_chance Pa_burnt Pa_engineMiles Pa_daysReckoned Pa_milesReckoned Pa_coalReckoned)) [0, 1, 2, 3, 4] rfl) hK (hD.sub (ws' := (wX2 cy qPa Pa_sailMiles Pa_weights Pa_chance Pa_burnt Pa_engineMiles Pa_daysReckoned Pa_milesReckoned Pa_coalReckoned)) [0, 1, 2, 3, 4] (by decide) rfl) hN 2 0 rfl rfl) rfl rfl hl.1 rfl (lv_room (Nat.le_of_ble_eq_true rfl)) dX2_reckonPlace_62 ⟨Nat.zero_le _, Nat.zero_le _⟩) (fun r u H locs hw hP hD hS => ?_)
      have hw := hw.symm
      subst hw
      have hP : va_P D vwCl (wX2 cy qPa Pa_sailMiles Pa_weights Pa_chance Pa_burnt Pa_engineMiles Pa_daysReckoned Pa_milesReckoned Pa_coalReckoned) H := hP
      have hD : va_D A (wX2 cy qPa Pa_sailMiles Pa_weights Pa_chance Pa_burnt Pa_engineMiles Pa_daysReckoned Pa_milesReckoned Pa_coalReckoned) := hD
      refine lv_if_eq (tgt := 116) hx hb dX2_reckonPlace_65 (by decide) (fun hc6 => ?_) (fun hc6 => ?_)
      · have hf := ift hf hc6
        refine lv_lload hx hb dX2_reckonPlace_116 (lv_at hl 7 rfl) ?_
        refine lv_aload_n hx hb dX2_reckonPlace_118 rfl (lv_at hl 1 rfl) ?_
        refine va_get (D := D) (ci := 2) (v := .ref (qPa 2)) (C := RX2) (T := TX2) (N := 8) hx hb hts i_X2_reckonPlace_X2 hown hK hP 0 rfl rfl 1 (by decide) (hts _ m_X2_reckonPlace_f15) (fun _ h9 => h9) rfl dX2_reckonPlace_119 ?_
        refine lv_iload hx hb dX2_reckonPlace_122 (lv_at hl 9 rfl) ?_
        obtain ⟨hz7, hf⟩ := ifn hf
        refine va_iald hx hb hK hP 2 0 rfl rfl (inb_in hz7) dX2_reckonPlace_124 ?_
        refine lv_i2l (v := (Pa_weights x12.toNatClampNeg).toInt64) hx hb dX2_reckonPlace_125 rfl ?_
        refine lv_aload_n hx hb dX2_reckonPlace_126 rfl (lv_at hl 1 rfl) ?_
        refine va_get (D := D) (ci := 2) (v := .ref (qPa 3)) (C := RX2) (T := TX2) (N := 8) hx hb hts i_X2_reckonPlace_X2 hown hK hP 0 rfl rfl 2 (by decide) (hts _ m_X2_reckonPlace_f18) (fun _ h9 => h9) rfl dX2_reckonPlace_127 ?_
        refine lv_iload hx hb dX2_reckonPlace_130 (lv_at hl 0 rfl) ?_
        obtain ⟨hz8, hf⟩ := ifn hf
        refine va_lald hx hb hK hP 3 1 rfl rfl (inb_in hz8) dX2_reckonPlace_132 ?_
        refine lv_lmul hx hb dX2_reckonPlace_133 ?_
        refine lv_ladd hx hb dX2_reckonPlace_134 ?_
        refine lv_lstore (lv' := [(8, .long (x8 + ((Pa_weights x12.toNatClampNeg).toInt64 * (Pa_chance u4.toNatClampNeg)))), (13, .int u4), (0, .ref (qPa 0)), (1, .int x1), (2, .int x2), (3, .int x3), (5, .int x5), (6, .long x6), (10, .long x10), (12, .int x12)]) hx hb dX2_reckonPlace_135 hl (by decide) rfl (fun ls hl => ?_)
        refine lv_lload hx hb dX2_reckonPlace_137 (lv_at hl 8 rfl) ?_
        refine lv_aload_n hx hb dX2_reckonPlace_139 rfl (lv_at hl 2 rfl) ?_
        refine va_get (D := D) (ci := 2) (v := .ref (qPa 2)) (C := RX2) (T := TX2) (N := 8) hx hb hts i_X2_reckonPlace_X2 hown hK hP 0 rfl rfl 1 (by decide) (hts _ m_X2_reckonPlace_f15) (fun _ h9 => h9) rfl dX2_reckonPlace_140 ?_
        refine lv_iload hx hb dX2_reckonPlace_143 (lv_at hl 9 rfl) ?_
        refine va_iald hx hb hK hP 2 0 rfl rfl (inb_in hz7) dX2_reckonPlace_145 ?_
        refine lv_i2l (v := (Pa_weights x12.toNatClampNeg).toInt64) hx hb dX2_reckonPlace_146 rfl ?_
        refine lv_aload_n hx hb dX2_reckonPlace_147 rfl (lv_at hl 2 rfl) ?_
        refine va_get (D := D) (ci := 2) (v := .ref (qPa 4)) (C := RX2) (T := TX2) (N := 8) hx hb hts i_X2_reckonPlace_X2 hown hK hP 0 rfl rfl 3 (by decide) (hts _ m_X2_reckonPlace_f22) (fun _ h9 => h9) rfl dX2_reckonPlace_148 ?_
        refine lv_iload hx hb dX2_reckonPlace_151 (lv_at hl 1 rfl) ?_
        refine va_lald hx hb hK hP 4 1 rfl rfl (inb_in hz8) dX2_reckonPlace_153 ?_
        refine lv_lmul hx hb dX2_reckonPlace_154 ?_
        refine lv_ladd hx hb dX2_reckonPlace_155 ?_
        refine lv_lstore (lv' := [(10, .long (x10 + ((Pa_weights x12.toNatClampNeg).toInt64 * (Pa_burnt u4.toNatClampNeg)))), (8, .long (x8 + ((Pa_weights x12.toNatClampNeg).toInt64 * (Pa_chance u4.toNatClampNeg)))), (13, .int u4), (0, .ref (qPa 0)), (1, .int x1), (2, .int x2), (3, .int x3), (5, .int x5), (6, .long x6), (12, .int x12)]) hx hb dX2_reckonPlace_156 hl (by decide) rfl (fun ls hl => ?_)
        exact w_X2_reckonPlace_158 C0 hk37 Pa_chance Pa_burnt x1 x2 x3 x5 x6 (x8 + ((Pa_weights x12.toNatClampNeg).toInt64 * (Pa_chance u4.toNatClampNeg))) (x10 + ((Pa_weights x12.toNatClampNeg).toInt64 * (Pa_burnt u4.toNatClampNeg))) x12 hf H locs ls hP hD hS (lv_sub hl [3, 4, 5, 6, 7, 8, 1, 0, 9] rfl)
      · have hf := iff_ hf hc6
        refine lv_lload hx hb dX2_reckonPlace_68 (lv_at hl 7 rfl) ?_
        refine lv_aload_n hx hb dX2_reckonPlace_70 rfl (lv_at hl 1 rfl) ?_
        refine va_get (D := D) (ci := 2) (v := .ref (qPa 2)) (C := RX2) (T := TX2) (N := 8) hx hb hts i_X2_reckonPlace_X2 hown hK hP 0 rfl rfl 1 (by decide) (hts _ m_X2_reckonPlace_f15) (fun _ h9 => h9) rfl dX2_reckonPlace_71 ?_
        refine lv_iload hx hb dX2_reckonPlace_74 (lv_at hl 9 rfl) ?_
        obtain ⟨hz9, hf⟩ := ifn hf
        refine va_iald hx hb hK hP 2 0 rfl rfl (inb_in hz9) dX2_reckonPlace_76 ?_
        refine lv_i2l (v := (Pa_weights x12.toNatClampNeg).toInt64) hx hb dX2_reckonPlace_77 rfl ?_
        refine lv_aload_n hx hb dX2_reckonPlace_78 rfl (lv_at hl 1 rfl) ?_
        refine va_get (D := D) (ci := 2) (v := .ref (qPa 3)) (C := RX2) (T := TX2) (N := 8) hx hb hts i_X2_reckonPlace_X2 hown hK hP 0 rfl rfl 2 (by decide) (hts _ m_X2_reckonPlace_f18) (fun _ h9 => h9) rfl dX2_reckonPlace_79 ?_
        refine lv_iload hx hb dX2_reckonPlace_82 (lv_at hl 5 rfl) ?_
        obtain ⟨hz10, hf⟩ := ifn hf
        refine va_lald hx hb hK hP 3 1 rfl rfl (inb_in hz10) dX2_reckonPlace_84 ?_
        refine lv_lmul hx hb dX2_reckonPlace_85 ?_
        refine lv_ladd hx hb dX2_reckonPlace_86 ?_
        refine lv_lstore (lv' := [(8, .long (x8 + ((Pa_weights x12.toNatClampNeg).toInt64 * (Pa_chance x5.toNatClampNeg)))), (13, .int u4), (0, .ref (qPa 0)), (1, .int x1), (2, .int x2), (3, .int x3), (5, .int x5), (6, .long x6), (10, .long x10), (12, .int x12)]) hx hb dX2_reckonPlace_87 hl (by decide) rfl (fun ls hl => ?_)
        refine lv_lload hx hb dX2_reckonPlace_89 (lv_at hl 8 rfl) ?_
        refine lv_aload_n hx hb dX2_reckonPlace_91 rfl (lv_at hl 2 rfl) ?_
        refine va_get (D := D) (ci := 2) (v := .ref (qPa 2)) (C := RX2) (T := TX2) (N := 8) hx hb hts i_X2_reckonPlace_X2 hown hK hP 0 rfl rfl 1 (by decide) (hts _ m_X2_reckonPlace_f15) (fun _ h9 => h9) rfl dX2_reckonPlace_92 ?_
        refine lv_iload hx hb dX2_reckonPlace_95 (lv_at hl 9 rfl) ?_
        refine va_iald hx hb hK hP 2 0 rfl rfl (inb_in hz9) dX2_reckonPlace_97 ?_
        refine lv_i2l (v := (Pa_weights x12.toNatClampNeg).toInt64) hx hb dX2_reckonPlace_98 rfl ?_
        refine lv_aload_n hx hb dX2_reckonPlace_99 rfl (lv_at hl 2 rfl) ?_
        refine va_get (D := D) (ci := 2) (v := .ref (qPa 4)) (C := RX2) (T := TX2) (N := 8) hx hb hts i_X2_reckonPlace_X2 hown hK hP 0 rfl rfl 3 (by decide) (hts _ m_X2_reckonPlace_f22) (fun _ h9 => h9) rfl dX2_reckonPlace_100 ?_
        refine lv_iload hx hb dX2_reckonPlace_103 (lv_at hl 6 rfl) ?_
        refine va_lald hx hb hK hP 4 1 rfl rfl (inb_in hz10) dX2_reckonPlace_105 ?_
        refine lv_lload hx hb dX2_reckonPlace_106 (lv_at hl 7 rfl) ?_
        refine lv_ladd hx hb dX2_reckonPlace_108 ?_
        refine lv_lmul hx hb dX2_reckonPlace_109 ?_
        refine lv_ladd hx hb dX2_reckonPlace_110 ?_
        refine lv_lstore (lv' := [(10, .long (x10 + ((Pa_weights x12.toNatClampNeg).toInt64 * ((Pa_burnt x5.toNatClampNeg) + x6)))), (8, .long (x8 + ((Pa_weights x12.toNatClampNeg).toInt64 * (Pa_chance x5.toNatClampNeg)))), (13, .int u4), (0, .ref (qPa 0)), (1, .int x1), (2, .int x2), (3, .int x3), (5, .int x5), (6, .long x6), (12, .int x12)]) hx hb dX2_reckonPlace_111 hl (by decide) rfl (fun ls hl => ?_)
        refine lv_goto (tgt := 158) hx hb dX2_reckonPlace_113 (by decide) ?_
        exact w_X2_reckonPlace_158 C0 hk37 Pa_chance Pa_burnt x1 x2 x3 x5 x6 (x8 + ((Pa_weights x12.toNatClampNeg).toInt64 * (Pa_chance x5.toNatClampNeg))) (x10 + ((Pa_weights x12.toNatClampNeg).toInt64 * ((Pa_burnt x5.toNatClampNeg) + x6))) x12 hf H locs ls hP hD hS (lv_sub hl [3, 4, 5, 6, 7, 8, 1, 0, 9] rfl)

set_option maxHeartbeats 4000000 in
set_option maxRecDepth 100000 in
theorem c_X2_reckonPlace (l : Launch) (D : va_G) (cy : Nat → ClassId) (qPa : Nat → Nat) (Pa_sailMiles : Nat → Int32) (Pa_weights : Nat → Int32) (Pa_chance : Nat → Int64) (Pa_burnt : Nat → Int64) (Pa_engineMiles : Int32) (Pa_daysReckoned : Int32) (Pa_milesReckoned : Int32) (Pa_coalReckoned : Int32) (sz : Nat) (x1 : Int32) (x2 : Int32) (x3 : Int32) (X : (Nat → Int64) × (Nat → Int64)) (hf : f_X2_reckonPlace Pa_sailMiles Pa_weights Pa_chance Pa_burnt Pa_engineMiles x1 x2 x3 = some X) : Met l yX2_reckonPlace wsX2_reckonPlace ({ frames := 3, cells := 0, slots := 0, locals := 70 } : Room) (va_Pc [.ref (qPa 0), .int x1, .int x2, .int x3] (PW D cy (wX2 cy qPa Pa_sailMiles Pa_weights Pa_chance Pa_burnt Pa_engineMiles Pa_daysReckoned Pa_milesReckoned Pa_coalReckoned) sz)) (va_Qv (fun (u : (Nat → Int64) × (Nat → Int64)) => u = X) (fun u t => BW D cy (va_A (wX2 cy qPa Pa_sailMiles Pa_weights Pa_chance Pa_burnt Pa_engineMiles Pa_daysReckoned Pa_milesReckoned Pa_coalReckoned) sz) (wX2 cy qPa Pa_sailMiles Pa_weights u.1 u.2 Pa_engineMiles Pa_daysReckoned Pa_milesReckoned Pa_coalReckoned) t) (va_A (wX2 cy qPa Pa_sailMiles Pa_weights Pa_chance Pa_burnt Pa_engineMiles Pa_daysReckoned Pa_milesReckoned Pa_coalReckoned) sz)) 0 0 (va_A (wX2 cy qPa Pa_sailMiles Pa_weights Pa_chance Pa_burnt Pa_engineMiles Pa_daysReckoned Pa_milesReckoned Pa_coalReckoned) sz) := by
  refine met_enter (Qc := fun A => (va_Qv (fun (u : (Nat → Int64) × (Nat → Int64)) => u = X) (fun u t => BW D cy A (wX2 cy qPa Pa_sailMiles Pa_weights u.1 u.2 Pa_engineMiles Pa_daysReckoned Pa_milesReckoned Pa_coalReckoned) t) A)) (lv0 := [(0, .ref (qPa 0)), (1, .int x1), (2, .int x2), (3, .int x3)]) (by decide) rfl (Nat.le_of_ble_eq_true rfl) rfl ?_
  intro p e s m below meth c A ls hnm C0 hP hD hS hl
  generalize hH : s.heap = H at hP ⊢
  generalize hLoc : ([] : List Loc) = locs at hS ⊢
  have hS : va_S A s.heap H locs := by rw [← hH]; exact hS
  have C0 : CX cX2_reckonPlace 14 none RX2 wsX2_reckonPlace D cy p s m _ meth c A := C0
  obtain ⟨hx, hb, hr, hml, hown, hts, hK, hA, hN, hlocks⟩ := id C0
  unfold f_X2_reckonPlace at hf
  refine lv_aload_n hx hb dX2_reckonPlace_0 rfl (lv_at hl 0 rfl) ?_
  refine lv_iload_n hx hb dX2_reckonPlace_1 rfl (lv_at hl 1 rfl) ?_
  refine lv_iload_n hx hb dX2_reckonPlace_2 rfl (lv_at hl 2 rfl) ?_
  refine lv_iload_n hx hb dX2_reckonPlace_3 rfl (lv_at hl 3 rfl) ?_
  obtain ⟨u11, eu11, hf⟩ := Option.bind_eq_some_iff.mp hf
  refine cq_i (wc' := fun (u : Unit) => (wX2 cy qPa Pa_sailMiles Pa_weights Pa_chance Pa_burnt Pa_engineMiles Pa_daysReckoned Pa_milesReckoned Pa_coalReckoned)) (ws' := fun (u : Unit) => (wX2 cy qPa Pa_sailMiles Pa_weights Pa_chance Pa_burnt Pa_engineMiles Pa_daysReckoned Pa_milesReckoned Pa_coalReckoned)) (wc := (wX2 cy qPa Pa_sailMiles Pa_weights Pa_chance Pa_burnt Pa_engineMiles Pa_daysReckoned Pa_milesReckoned Pa_coalReckoned)) (wr := ([] : va_W)) C0 hP hD hS [0, 1, 2, 3, 4] [] [0, 1, 2, 3, 4] rfl rfl (by decide) (by decide) (by decide) (fun _ => rfl) (va_runV (As := [.int x1, .int x2, .int x3]) (rest := []) ⟨hx, hb, hml, hown, hts⟩ (c_X2_calmChoice l D cy qPa Pa_sailMiles Pa_weights Pa_chance Pa_burnt Pa_engineMiles Pa_daysReckoned Pa_milesReckoned Pa_coalReckoned H.size x1 x2 x3 u11 eu11) (cwV 3 hts gX2_reckonPlace_X2_calmChoice rfl rfl rfl (by decide +kernel) ⟨Nat.le_of_ble_eq_true rfl, Nat.le_of_ble_eq_true rfl⟩) (pre_V (hP.sub (ws' := (wX2 cy qPa Pa_sailMiles Pa_weights Pa_chance Pa_burnt Pa_engineMiles Pa_daysReckoned Pa_milesReckoned Pa_coalReckoned)) [0, 1, 2, 3, 4] rfl) hK (hD.sub (ws' := (wX2 cy qPa Pa_sailMiles Pa_weights Pa_chance Pa_burnt Pa_engineMiles Pa_daysReckoned Pa_milesReckoned Pa_coalReckoned)) [0, 1, 2, 3, 4] (by decide) rfl) hN 2 0 rfl rfl) rfl rfl hl.1 rfl (lv_room (Nat.le_of_ble_eq_true rfl)) dX2_reckonPlace_4 ⟨Nat.zero_le _, Nat.zero_le _⟩) (fun r u H locs hw hP hD hS => ?_)
  have hw := hw.symm
  subst hw
  have hP : va_P D vwCl (wX2 cy qPa Pa_sailMiles Pa_weights Pa_chance Pa_burnt Pa_engineMiles Pa_daysReckoned Pa_milesReckoned Pa_coalReckoned) H := hP
  have hD : va_D A (wX2 cy qPa Pa_sailMiles Pa_weights Pa_chance Pa_burnt Pa_engineMiles Pa_daysReckoned Pa_milesReckoned Pa_coalReckoned) := hD
  refine lv_istore (lv' := [(4, .int u11), (0, .ref (qPa 0)), (1, .int x1), (2, .int x2), (3, .int x3)]) hx hb dX2_reckonPlace_7 hl (by decide) rfl (fun ls hl => ?_)
  refine lv_aload_n hx hb dX2_reckonPlace_9 rfl (lv_at hl 1 rfl) ?_
  refine lv_iload hx hb dX2_reckonPlace_10 (lv_at hl 0 rfl) ?_
  refine lv_iload_n hx hb dX2_reckonPlace_12 rfl (lv_at hl 2 rfl) ?_
  refine lv_iload_n hx hb dX2_reckonPlace_13 rfl (lv_at hl 3 rfl) ?_
  refine lv_iload_n hx hb dX2_reckonPlace_14 rfl (lv_at hl 4 rfl) ?_
  obtain ⟨u12, eu12, hf⟩ := Option.bind_eq_some_iff.mp hf
  refine cq_i (wc' := fun (u : Unit) => (wX2 cy qPa Pa_sailMiles Pa_weights Pa_chance Pa_burnt Pa_engineMiles Pa_daysReckoned Pa_milesReckoned Pa_coalReckoned)) (ws' := fun (u : Unit) => (wX2 cy qPa Pa_sailMiles Pa_weights Pa_chance Pa_burnt Pa_engineMiles Pa_daysReckoned Pa_milesReckoned Pa_coalReckoned)) (wc := (wX2 cy qPa Pa_sailMiles Pa_weights Pa_chance Pa_burnt Pa_engineMiles Pa_daysReckoned Pa_milesReckoned Pa_coalReckoned)) (wr := ([] : va_W)) C0 hP hD hS [0, 1, 2, 3, 4] [] [0, 1, 2, 3, 4] rfl rfl (by decide) (by decide) (by decide) (fun _ => rfl) (va_runV (As := [.int u11, .int x1, .int x2, .int x3]) (rest := []) ⟨hx, hb, hml, hown, hts⟩ (c_X2_afterCalm l D cy qPa Pa_sailMiles Pa_weights Pa_chance Pa_burnt Pa_engineMiles Pa_daysReckoned Pa_milesReckoned Pa_coalReckoned H.size u11 x1 x2 x3 u12 eu12) (cwV 4 hts gX2_reckonPlace_X2_afterCalm rfl rfl rfl (by decide +kernel) ⟨Nat.le_of_ble_eq_true rfl, Nat.le_of_ble_eq_true rfl⟩) (pre_V (hP.sub (ws' := (wX2 cy qPa Pa_sailMiles Pa_weights Pa_chance Pa_burnt Pa_engineMiles Pa_daysReckoned Pa_milesReckoned Pa_coalReckoned)) [0, 1, 2, 3, 4] rfl) hK (hD.sub (ws' := (wX2 cy qPa Pa_sailMiles Pa_weights Pa_chance Pa_burnt Pa_engineMiles Pa_daysReckoned Pa_milesReckoned Pa_coalReckoned)) [0, 1, 2, 3, 4] (by decide) rfl) hN 2 0 rfl rfl) rfl rfl hl.1 rfl (lv_room (Nat.le_of_ble_eq_true rfl)) dX2_reckonPlace_15 ⟨Nat.zero_le _, Nat.zero_le _⟩) (fun r u H locs hw hP hD hS => ?_)
  have hw := hw.symm
  subst hw
  have hP : va_P D vwCl (wX2 cy qPa Pa_sailMiles Pa_weights Pa_chance Pa_burnt Pa_engineMiles Pa_daysReckoned Pa_milesReckoned Pa_coalReckoned) H := hP
  have hD : va_D A (wX2 cy qPa Pa_sailMiles Pa_weights Pa_chance Pa_burnt Pa_engineMiles Pa_daysReckoned Pa_milesReckoned Pa_coalReckoned) := hD
  refine lv_istore (lv' := [(5, .int u12), (4, .int u11), (0, .ref (qPa 0)), (1, .int x1), (2, .int x2), (3, .int x3)]) hx hb dX2_reckonPlace_18 hl (by decide) rfl (fun ls hl => ?_)
  refine lv_iload hx hb dX2_reckonPlace_20 (lv_at hl 1 rfl) ?_
  refine lv_iload_n hx hb dX2_reckonPlace_22 rfl (lv_at hl 3 rfl) ?_
  obtain ⟨u13, eu13, hf⟩ := Option.bind_eq_some_iff.mp hf
  refine cq_l (wc' := fun (u : Unit) => ([] : va_W)) (ws' := fun (u : Unit) => (wX2 cy qPa Pa_sailMiles Pa_weights Pa_chance Pa_burnt Pa_engineMiles Pa_daysReckoned Pa_milesReckoned Pa_coalReckoned)) (wc := ([] : va_W)) (wr := (wX2 cy qPa Pa_sailMiles Pa_weights Pa_chance Pa_burnt Pa_engineMiles Pa_daysReckoned Pa_milesReckoned Pa_coalReckoned)) C0 hP hD hS [] [0, 1, 2, 3, 4] [0, 1, 2, 3, 4] rfl rfl (by decide) (by decide) (by decide) (fun _ => rfl) (va_runS (As := [.int u11, .int x1]) (rest := []) ⟨hx, hb, hml, hown, hts⟩ (c_X2_fuel l D cy   H.size u11 x1 u13 eu13) (va_cwS 2 hts gX2_reckonPlace_X2_fuel rfl rfl rfl (by decide +kernel) ⟨Nat.le_of_ble_eq_true rfl, Nat.le_of_ble_eq_true rfl⟩) (pre_S (hP.sub (ws' := ([] : va_W)) [] rfl) hK (hD.sub (ws' := ([] : va_W)) [] (by decide) rfl) hN) rfl rfl hl.1 rfl (lv_room (Nat.le_of_ble_eq_true rfl)) dX2_reckonPlace_23 ⟨Nat.zero_le _, Nat.zero_le _⟩) (fun r u H locs hw hP hD hS => ?_)
  have hw := hw.symm
  subst hw
  have hP : va_P D vwCl (wX2 cy qPa Pa_sailMiles Pa_weights Pa_chance Pa_burnt Pa_engineMiles Pa_daysReckoned Pa_milesReckoned Pa_coalReckoned) H := hP
  have hD : va_D A (wX2 cy qPa Pa_sailMiles Pa_weights Pa_chance Pa_burnt Pa_engineMiles Pa_daysReckoned Pa_milesReckoned Pa_coalReckoned) := hD
  refine lv_lstore (lv' := [(6, .long u13), (5, .int u12), (4, .int u11), (0, .ref (qPa 0)), (1, .int x1), (2, .int x2), (3, .int x3)]) hx hb dX2_reckonPlace_26 hl (by decide) rfl (fun ls hl => ?_)
  refine lv_lconst (v := (0 : Int64)) hx hb dX2_reckonPlace_28 (by decide) ?_
  refine lv_lstore (lv' := [(8, .long (0 : Int64)), (6, .long u13), (5, .int u12), (4, .int u11), (0, .ref (qPa 0)), (1, .int x1), (2, .int x2), (3, .int x3)]) hx hb dX2_reckonPlace_29 hl (by decide) rfl (fun ls hl => ?_)
  refine lv_lconst (v := (0 : Int64)) hx hb dX2_reckonPlace_31 (by decide) ?_
  refine lv_lstore (lv' := [(10, .long (0 : Int64)), (8, .long (0 : Int64)), (6, .long u13), (5, .int u12), (4, .int u11), (0, .ref (qPa 0)), (1, .int x1), (2, .int x2), (3, .int x3)]) hx hb dX2_reckonPlace_32 hl (by decide) rfl (fun ls hl => ?_)
  refine lv_iconst (v := (0 : Int32)) hx hb dX2_reckonPlace_34 (by decide) ?_
  refine lv_istore (lv' := [(12, .int (0 : Int32)), (10, .long (0 : Int64)), (8, .long (0 : Int64)), (6, .long u13), (5, .int u12), (4, .int u11), (0, .ref (qPa 0)), (1, .int x1), (2, .int x2), (3, .int x3)]) hx hb dX2_reckonPlace_35 hl (by decide) rfl (fun ls hl => ?_)
  exact w_X2_reckonPlace_37 C0  FU Pa_chance Pa_burnt x1 x2 x3 u12 u13 (0 : Int64) (0 : Int64) (0 : Int32) hf H locs ls hP hD hS (lv_sub hl [6, 7, 8, 9, 4, 3, 2, 1, 0] rfl)

theorem i_X2_reckonDay_X2 : ∀ w ∈ wsX20, w ∈ wsX2_reckonDay := by decide +kernel
theorem m_X2_reckonDay_f57 : Cond.fieldLink RX2 57 "SailCargo$Passage" "coalReckoned" "I" ∈ wsX2_reckonDay := by decide +kernel
theorem m_X2_reckonDay_f54 : Cond.fieldLink RX2 54 "SailCargo$Passage" "milesReckoned" "I" ∈ wsX2_reckonDay := by decide +kernel
set_option maxHeartbeats 4000000 in
set_option maxRecDepth 100000 in
theorem w_X2_reckonDay_12 {p : Program} {l : Launch} {e : Env} {s : State} {m : MethodId} {args : Array Value} {below : List Frame} {meth : Method} {c : Code} {A : Nat → Prop} {D : va_G} {cy : Nat → ClassId} {qPa : Nat → Nat} {Pa_sailMiles Pa_weights : Nat → Int32} {Pa_engineMiles Pa_daysReckoned Pa_milesReckoned Pa_coalReckoned : Int32} {X : (Nat → Int64) × (Nat → Int64)} {kh2 : (Nat → Int64) → (Nat → Int64) → Int32 → Int32 → Option ((Nat → Int64) × (Nat → Int64))} (C0 : CX cX2_reckonDay 4 none RX2 wsX2_reckonDay D cy p s m args meth c A) (hk2 : ∀ (Pa_chance : Nat → Int64) (Pa_burnt : Nat → Int64) (x1 : Int32) (x2 : Int32), kh2 Pa_chance Pa_burnt x1 x2 = some X → ∀ (H : Heap) (locs : List Loc) (ls : Array Slot), va_P D vwCl (wX2 cy qPa Pa_sailMiles Pa_weights Pa_chance Pa_burnt Pa_engineMiles Pa_daysReckoned Pa_milesReckoned Pa_coalReckoned) H → va_D A (wX2 cy qPa Pa_sailMiles Pa_weights Pa_chance Pa_burnt Pa_engineMiles Pa_daysReckoned Pa_milesReckoned Pa_coalReckoned) → va_S A s.heap H locs → lv_has ls 4 [(0, .ref (qPa 0)), (1, .int x1), (2, .int x2)] → W p l e ({ frames := 4, cells := 0, slots := 0, locals := 103 } : Room) s m args below meth c H locs 0 0 (MQ below (va_Qv (fun (u : (Nat → Int64) × (Nat → Int64)) => u = X) (fun u t => BW D cy A (wX2 cy qPa Pa_sailMiles Pa_weights u.1 u.2 Pa_engineMiles Pa_daysReckoned Pa_milesReckoned Pa_coalReckoned) t) A) args s 0 0 A) (F0 m 2 ls [])) : ∀ (n : Nat) (Pa_chance : Nat → Int64) (Pa_burnt : Nat → Int64) (x1 : Int32) (x2 : Int32) (x3 : Int32), g_X2_reckonDay_12 Pa_sailMiles Pa_weights Pa_engineMiles Pa_milesReckoned Pa_coalReckoned kh2 n Pa_chance Pa_burnt x1 x2 x3 = some X → ∀ (H : Heap) (locs : List Loc) (ls : Array Slot), va_P D vwCl (wX2 cy qPa Pa_sailMiles Pa_weights Pa_chance Pa_burnt Pa_engineMiles Pa_daysReckoned Pa_milesReckoned Pa_coalReckoned) H → va_D A (wX2 cy qPa Pa_sailMiles Pa_weights Pa_chance Pa_burnt Pa_engineMiles Pa_daysReckoned Pa_milesReckoned Pa_coalReckoned) → va_S A s.heap H locs → lv_has ls 4 [(0, .ref (qPa 0)), (1, .int x1), (2, .int x2), (3, .int x3)] → W p l e ({ frames := 4, cells := 0, slots := 0, locals := 103 } : Room) s m args below meth c H locs 0 0 (MQ below (va_Qv (fun (u : (Nat → Int64) × (Nat → Int64)) => u = X) (fun u t => BW D cy A (wX2 cy qPa Pa_sailMiles Pa_weights u.1 u.2 Pa_engineMiles Pa_daysReckoned Pa_milesReckoned Pa_coalReckoned) t) A) args s 0 0 A) (F0 m 12 ls []) := by
  obtain ⟨hx, hb, hr, hml, hown, hts, hK, hA, hN, hlocks⟩ := id C0
  intro n
  induction n with
  | zero => intro Pa_chance Pa_burnt x1 x2 x3 hf; exact (no_some hf).elim
  | succ n hk12 =>
    intro Pa_chance Pa_burnt x1 x2 x3 hf H locs ls hP hD hS hl
    have hf : f_X2_reckonDay_12 Pa_sailMiles Pa_weights Pa_engineMiles Pa_milesReckoned Pa_coalReckoned kh2 (fun Pa_chance Pa_burnt x1 x2 x3 => g_X2_reckonDay_12 Pa_sailMiles Pa_weights Pa_engineMiles Pa_milesReckoned Pa_coalReckoned kh2 n Pa_chance Pa_burnt x1 x2 x3) Pa_chance Pa_burnt x1 x2 x3 = some X := hf
    unfold f_X2_reckonDay_12 at hf
    refine lv_iload_n hx hb dX2_reckonDay_12 rfl (lv_at hl 3 rfl) ?_
    refine lv_aload_n hx hb dX2_reckonDay_13 rfl (lv_at hl 0 rfl) ?_
    refine va_get (D := D) (ci := 2) (v := .int Pa_coalReckoned) (C := RX2) (T := TX2) (N := 8) hx hb hts i_X2_reckonDay_X2 hown hK hP 0 rfl rfl 7 (by decide) (hts _ m_X2_reckonDay_f57) (fun _ h9 => h9) rfl dX2_reckonDay_14 ?_
    refine lv_icmp_gt (tgt := 33) hx hb dX2_reckonDay_17 (by decide) (fun hc1 => ?_) (fun hc1 => ?_)
    · have hf := ift hf hc1
      refine lv_iinc (v := (x2 + 1)) (lv' := [(2, .int (x2 + 1)), (0, .ref (qPa 0)), (1, .int x1), (3, .int x3)]) hx hb dX2_reckonDay_33 hl (k := 2) rfl rfl (by decide) rfl (fun ls hl => ?_)
      refine lv_goto (tgt := 2) hx hb dX2_reckonDay_36 (by decide) ?_
      exact hk2 Pa_chance Pa_burnt x1 (x2 + 1) hf H locs ls hP hD hS (lv_sub hl [1, 2, 0] rfl)
    · have hf := iff_ hf hc1
      refine lv_aload_n hx hb dX2_reckonDay_20 rfl (lv_at hl 0 rfl) ?_
      refine lv_iload_n hx hb dX2_reckonDay_21 rfl (lv_at hl 1 rfl) ?_
      refine lv_iload_n hx hb dX2_reckonDay_22 rfl (lv_at hl 2 rfl) ?_
      refine lv_iload_n hx hb dX2_reckonDay_23 rfl (lv_at hl 3 rfl) ?_
      obtain ⟨u2, eu2, hf⟩ := Option.bind_eq_some_iff.mp hf
      refine cq_v (wc' := fun (u : (Nat → Int64) × (Nat → Int64)) => (wX2 cy qPa Pa_sailMiles Pa_weights u.1 u.2 Pa_engineMiles Pa_daysReckoned Pa_milesReckoned Pa_coalReckoned)) (ws' := fun (u : (Nat → Int64) × (Nat → Int64)) => (wX2 cy qPa Pa_sailMiles Pa_weights u.1 u.2 Pa_engineMiles Pa_daysReckoned Pa_milesReckoned Pa_coalReckoned)) (wc := (wX2 cy qPa Pa_sailMiles Pa_weights Pa_chance Pa_burnt Pa_engineMiles Pa_daysReckoned Pa_milesReckoned Pa_coalReckoned)) (wr := ([] : va_W)) C0 hP hD hS [0, 1, 2, 3, 4] [] [0, 1, 2, 3, 4] rfl rfl (by decide) (by decide) (by decide) (fun _ => rfl) (va_runV (As := [.int x1, .int x2, .int x3]) (rest := []) ⟨hx, hb, hml, hown, hts⟩ (c_X2_reckonPlace l D cy qPa Pa_sailMiles Pa_weights Pa_chance Pa_burnt Pa_engineMiles Pa_daysReckoned Pa_milesReckoned Pa_coalReckoned H.size x1 x2 x3 u2 eu2) (cwV 3 hts gX2_reckonDay_X2_reckonPlace rfl rfl rfl (by decide +kernel) ⟨Nat.le_of_ble_eq_true rfl, Nat.le_of_ble_eq_true rfl⟩) (pre_V (hP.sub (ws' := (wX2 cy qPa Pa_sailMiles Pa_weights Pa_chance Pa_burnt Pa_engineMiles Pa_daysReckoned Pa_milesReckoned Pa_coalReckoned)) [0, 1, 2, 3, 4] rfl) hK (hD.sub (ws' := (wX2 cy qPa Pa_sailMiles Pa_weights Pa_chance Pa_burnt Pa_engineMiles Pa_daysReckoned Pa_milesReckoned Pa_coalReckoned)) [0, 1, 2, 3, 4] (by decide) rfl) hN 2 0 rfl rfl) rfl rfl hl.1 rfl (lv_room (Nat.le_of_ble_eq_true rfl)) dX2_reckonDay_24 ⟨Nat.zero_le _, Nat.zero_le _⟩) (fun u H locs hw hP hD hS => ?_)
      have hw := hw.symm
      subst hw
      have hP : va_P D vwCl (wX2 cy qPa Pa_sailMiles Pa_weights u2.1 u2.2 Pa_engineMiles Pa_daysReckoned Pa_milesReckoned Pa_coalReckoned) H := hP
      have hD : va_D A (wX2 cy qPa Pa_sailMiles Pa_weights u2.1 u2.2 Pa_engineMiles Pa_daysReckoned Pa_milesReckoned Pa_coalReckoned) := hD
      refine lv_iinc (v := (x3 + 1)) (lv' := [(3, .int (x3 + 1)), (0, .ref (qPa 0)), (1, .int x1), (2, .int x2)]) hx hb dX2_reckonDay_27 hl (k := 3) rfl rfl (by decide) rfl (fun ls hl => ?_)
      refine lv_goto (tgt := 12) hx hb dX2_reckonDay_30 (by decide) ?_
      exact hk12 u2.1 u2.2 x1 x2 (x3 + 1) hf H locs ls hP hD hS (lv_sub hl [1, 2, 3, 0] rfl)

set_option maxHeartbeats 4000000 in
set_option maxRecDepth 100000 in
theorem w_X2_reckonDay_2 {p : Program} {l : Launch} {e : Env} {s : State} {m : MethodId} {args : Array Value} {below : List Frame} {meth : Method} {c : Code} {A : Nat → Prop} {D : va_G} {cy : Nat → ClassId} {qPa : Nat → Nat} {Pa_sailMiles Pa_weights : Nat → Int32} {Pa_engineMiles Pa_daysReckoned Pa_milesReckoned Pa_coalReckoned : Int32} {X : (Nat → Int64) × (Nat → Int64)}  (C0 : CX cX2_reckonDay 4 none RX2 wsX2_reckonDay D cy p s m args meth c A)  : ∀ (n : Nat) (Pa_chance : Nat → Int64) (Pa_burnt : Nat → Int64) (x1 : Int32) (x2 : Int32), g_X2_reckonDay_2 Pa_sailMiles Pa_weights Pa_engineMiles Pa_milesReckoned Pa_coalReckoned n Pa_chance Pa_burnt x1 x2 = some X → ∀ (H : Heap) (locs : List Loc) (ls : Array Slot), va_P D vwCl (wX2 cy qPa Pa_sailMiles Pa_weights Pa_chance Pa_burnt Pa_engineMiles Pa_daysReckoned Pa_milesReckoned Pa_coalReckoned) H → va_D A (wX2 cy qPa Pa_sailMiles Pa_weights Pa_chance Pa_burnt Pa_engineMiles Pa_daysReckoned Pa_milesReckoned Pa_coalReckoned) → va_S A s.heap H locs → lv_has ls 4 [(0, .ref (qPa 0)), (1, .int x1), (2, .int x2)] → W p l e ({ frames := 4, cells := 0, slots := 0, locals := 103 } : Room) s m args below meth c H locs 0 0 (MQ below (va_Qv (fun (u : (Nat → Int64) × (Nat → Int64)) => u = X) (fun u t => BW D cy A (wX2 cy qPa Pa_sailMiles Pa_weights u.1 u.2 Pa_engineMiles Pa_daysReckoned Pa_milesReckoned Pa_coalReckoned) t) A) args s 0 0 A) (F0 m 2 ls []) := by
  obtain ⟨hx, hb, hr, hml, hown, hts, hK, hA, hN, hlocks⟩ := id C0
  intro n
  induction n with
  | zero => intro Pa_chance Pa_burnt x1 x2 hf; exact (no_some hf).elim
  | succ n hk2 =>
    intro Pa_chance Pa_burnt x1 x2 hf H locs ls hP hD hS hl
    have hf : f_X2_reckonDay_2 Pa_sailMiles Pa_weights Pa_engineMiles Pa_milesReckoned Pa_coalReckoned (fun Pa_chance Pa_burnt x1 x2 => g_X2_reckonDay_2 Pa_sailMiles Pa_weights Pa_engineMiles Pa_milesReckoned Pa_coalReckoned n Pa_chance Pa_burnt x1 x2) Pa_chance Pa_burnt x1 x2 = some X := hf
    unfold f_X2_reckonDay_2 at hf
    refine lv_iload_n hx hb dX2_reckonDay_2 rfl (lv_at hl 2 rfl) ?_
    refine lv_aload_n hx hb dX2_reckonDay_3 rfl (lv_at hl 0 rfl) ?_
    refine va_get (D := D) (ci := 2) (v := .int Pa_milesReckoned) (C := RX2) (T := TX2) (N := 8) hx hb hts i_X2_reckonDay_X2 hown hK hP 0 rfl rfl 6 (by decide) (hts _ m_X2_reckonDay_f54) (fun _ h9 => h9) rfl dX2_reckonDay_4 ?_
    refine lv_icmp_gt (tgt := 39) hx hb dX2_reckonDay_7 (by decide) (fun hc3 => ?_) (fun hc3 => ?_)
    · have hf := ift hf hc3
      exact rq_v C0 (Pa_chance, Pa_burnt) (Option.some.inj hf) hP hD hS dX2_reckonDay_39
    · have hf := iff_ hf hc3
      refine lv_iconst (v := (0 : Int32)) hx hb dX2_reckonDay_10 (by decide) ?_
      refine lv_istore_n (lv' := [(3, .int (0 : Int32)), (0, .ref (qPa 0)), (1, .int x1), (2, .int x2)]) hx hb dX2_reckonDay_11 rfl hl (by decide) rfl (fun ls hl => ?_)
      exact w_X2_reckonDay_12 C0 hk2 FU Pa_chance Pa_burnt x1 x2 (0 : Int32) hf H locs ls hP hD hS (lv_sub hl [1, 2, 3, 0] rfl)

set_option maxHeartbeats 4000000 in
set_option maxRecDepth 100000 in
theorem c_X2_reckonDay (l : Launch) (D : va_G) (cy : Nat → ClassId) (qPa : Nat → Nat) (Pa_sailMiles : Nat → Int32) (Pa_weights : Nat → Int32) (Pa_chance : Nat → Int64) (Pa_burnt : Nat → Int64) (Pa_engineMiles : Int32) (Pa_daysReckoned : Int32) (Pa_milesReckoned : Int32) (Pa_coalReckoned : Int32) (sz : Nat) (x1 : Int32) (X : (Nat → Int64) × (Nat → Int64)) (hf : f_X2_reckonDay Pa_sailMiles Pa_weights Pa_chance Pa_burnt Pa_engineMiles Pa_milesReckoned Pa_coalReckoned x1 = some X) : Met l yX2_reckonDay wsX2_reckonDay ({ frames := 4, cells := 0, slots := 0, locals := 103 } : Room) (va_Pc [.ref (qPa 0), .int x1] (PW D cy (wX2 cy qPa Pa_sailMiles Pa_weights Pa_chance Pa_burnt Pa_engineMiles Pa_daysReckoned Pa_milesReckoned Pa_coalReckoned) sz)) (va_Qv (fun (u : (Nat → Int64) × (Nat → Int64)) => u = X) (fun u t => BW D cy (va_A (wX2 cy qPa Pa_sailMiles Pa_weights Pa_chance Pa_burnt Pa_engineMiles Pa_daysReckoned Pa_milesReckoned Pa_coalReckoned) sz) (wX2 cy qPa Pa_sailMiles Pa_weights u.1 u.2 Pa_engineMiles Pa_daysReckoned Pa_milesReckoned Pa_coalReckoned) t) (va_A (wX2 cy qPa Pa_sailMiles Pa_weights Pa_chance Pa_burnt Pa_engineMiles Pa_daysReckoned Pa_milesReckoned Pa_coalReckoned) sz)) 0 0 (va_A (wX2 cy qPa Pa_sailMiles Pa_weights Pa_chance Pa_burnt Pa_engineMiles Pa_daysReckoned Pa_milesReckoned Pa_coalReckoned) sz) := by
  refine met_enter (Qc := fun A => (va_Qv (fun (u : (Nat → Int64) × (Nat → Int64)) => u = X) (fun u t => BW D cy A (wX2 cy qPa Pa_sailMiles Pa_weights u.1 u.2 Pa_engineMiles Pa_daysReckoned Pa_milesReckoned Pa_coalReckoned) t) A)) (lv0 := [(0, .ref (qPa 0)), (1, .int x1)]) (by decide) rfl (Nat.le_of_ble_eq_true rfl) rfl ?_
  intro p e s m below meth c A ls hnm C0 hP hD hS hl
  generalize hH : s.heap = H at hP ⊢
  generalize hLoc : ([] : List Loc) = locs at hS ⊢
  have hS : va_S A s.heap H locs := by rw [← hH]; exact hS
  have C0 : CX cX2_reckonDay 4 none RX2 wsX2_reckonDay D cy p s m _ meth c A := C0
  obtain ⟨hx, hb, hr, hml, hown, hts, hK, hA, hN, hlocks⟩ := id C0
  unfold f_X2_reckonDay at hf
  refine lv_iconst (v := (1 : Int32)) hx hb dX2_reckonDay_0 (by decide) ?_
  refine lv_istore_n (lv' := [(2, .int (1 : Int32)), (0, .ref (qPa 0)), (1, .int x1)]) hx hb dX2_reckonDay_1 rfl hl (by decide) rfl (fun ls hl => ?_)
  exact w_X2_reckonDay_2 C0  FU Pa_chance Pa_burnt x1 (1 : Int32) hf H locs ls hP hD hS (lv_sub hl [1, 2, 0] rfl)

theorem i_X2_reckon_X2 : ∀ w ∈ wsX20, w ∈ wsX2_reckon := by decide +kernel
theorem m_X2_reckon_f41 : Cond.fieldLink RX2 41 "SailCargo$Passage" "daysReckoned" "I" ∈ wsX2_reckon := by decide +kernel
theorem m_X2_reckon_f54 : Cond.fieldLink RX2 54 "SailCargo$Passage" "milesReckoned" "I" ∈ wsX2_reckon := by decide +kernel
theorem m_X2_reckon_f57 : Cond.fieldLink RX2 57 "SailCargo$Passage" "coalReckoned" "I" ∈ wsX2_reckon := by decide +kernel
set_option maxHeartbeats 4000000 in
set_option maxRecDepth 100000 in
theorem w_X2_reckon_38 {p : Program} {l : Launch} {e : Env} {s : State} {m : MethodId} {args : Array Value} {below : List Frame} {meth : Method} {c : Code} {A : Nat → Prop} {D : va_G} {cy : Nat → ClassId} {qPa : Nat → Nat} {Pa_sailMiles Pa_weights : Nat → Int32} {Pa_engineMiles : Int32} {X : (Nat → Int64) × (Nat → Int64) × (Int32) × (Int32) × (Int32)}  (C0 : CX cX2_reckon 4 none RX2 wsX2_reckon D cy p s m args meth c A)  : ∀ (n : Nat) (Pa_chance : Nat → Int64) (Pa_burnt : Nat → Int64) (Pa_daysReckoned : Int32) (Pa_milesReckoned : Int32) (Pa_coalReckoned : Int32) (x2 : Int32), g_X2_reckon_38 Pa_sailMiles Pa_weights Pa_engineMiles n Pa_chance Pa_burnt Pa_daysReckoned Pa_milesReckoned Pa_coalReckoned x2 = some X → ∀ (H : Heap) (locs : List Loc) (ls : Array Slot), va_P D vwCl (wX2 cy qPa Pa_sailMiles Pa_weights Pa_chance Pa_burnt Pa_engineMiles Pa_daysReckoned Pa_milesReckoned Pa_coalReckoned) H → va_D A (wX2 cy qPa Pa_sailMiles Pa_weights Pa_chance Pa_burnt Pa_engineMiles Pa_daysReckoned Pa_milesReckoned Pa_coalReckoned) → va_S A s.heap H locs → lv_has ls 4 [(0, .ref (qPa 0)), (2, .int x2)] → W p l e ({ frames := 5, cells := 0, slots := 0, locals := 126 } : Room) s m args below meth c H locs 0 0 (MQ below (va_Qv (fun (u : (Nat → Int64) × (Nat → Int64) × (Int32) × (Int32) × (Int32)) => u = X) (fun u t => BW D cy A (wX2 cy qPa Pa_sailMiles Pa_weights u.1 u.2.1 Pa_engineMiles u.2.2.1 u.2.2.2.1 u.2.2.2.2) t) A) args s 0 0 A) (F0 m 38 ls []) := by
  obtain ⟨hx, hb, hr, hml, hown, hts, hK, hA, hN, hlocks⟩ := id C0
  intro n
  induction n with
  | zero => intro Pa_chance Pa_burnt Pa_daysReckoned Pa_milesReckoned Pa_coalReckoned x2 hf; exact (no_some hf).elim
  | succ n hk38 =>
    intro Pa_chance Pa_burnt Pa_daysReckoned Pa_milesReckoned Pa_coalReckoned x2 hf H locs ls hP hD hS hl
    have hf : f_X2_reckon_38 Pa_sailMiles Pa_weights Pa_engineMiles (fun Pa_chance Pa_burnt Pa_daysReckoned Pa_milesReckoned Pa_coalReckoned x2 => g_X2_reckon_38 Pa_sailMiles Pa_weights Pa_engineMiles n Pa_chance Pa_burnt Pa_daysReckoned Pa_milesReckoned Pa_coalReckoned x2) Pa_chance Pa_burnt Pa_daysReckoned Pa_milesReckoned Pa_coalReckoned x2 = some X := hf
    unfold f_X2_reckon_38 at hf
    refine lv_aload_n hx hb dX2_reckon_38 rfl (lv_at hl 0 rfl) ?_
    refine va_get (D := D) (ci := 2) (v := .int Pa_daysReckoned) (C := RX2) (T := TX2) (N := 8) hx hb hts i_X2_reckon_X2 hown hK hP 0 rfl rfl 5 (by decide) (hts _ m_X2_reckon_f41) (fun _ h9 => h9) rfl dX2_reckon_39 ?_
    refine lv_iload_n hx hb dX2_reckon_42 rfl (lv_at hl 1 rfl) ?_
    refine lv_icmp_ge (tgt := 67) hx hb dX2_reckon_43 (by decide) (fun hc1 => ?_) (fun hc1 => ?_)
    · have hf := ift hf hc1
      exact rq_v C0 (Pa_chance, Pa_burnt, Pa_daysReckoned, Pa_milesReckoned, Pa_coalReckoned) (Option.some.inj hf) hP hD hS dX2_reckon_67
    · have hf := iff_ hf hc1
      refine lv_aload_n hx hb dX2_reckon_46 rfl (lv_at hl 0 rfl) ?_
      refine lv_dup hx hb dX2_reckon_47 rfl ?_
      refine va_get (D := D) (ci := 2) (v := .int Pa_daysReckoned) (C := RX2) (T := TX2) (N := 8) hx hb hts i_X2_reckon_X2 hown hK hP 0 rfl rfl 5 (by decide) (hts _ m_X2_reckon_f41) (fun _ h9 => h9) rfl dX2_reckon_48 ?_
      refine lv_iconst (v := (1 : Int32)) hx hb dX2_reckon_51 (by decide) ?_
      refine lv_iadd hx hb dX2_reckon_52 ?_
      refine va_put (D := D) (ci := 2) (v := .int (Pa_daysReckoned + (1 : Int32))) (ty := .int) (C := RX2) (T := TX2) (N := 8) hx hb hts i_X2_reckon_X2 tyX2 tyX2_ok nmX2 hown hK hP hD hS 0 rfl rfl 5 (by decide) (hts _ m_X2_reckon_f41) (fun _ h9 => h9) rfl (by decide +kernel) rfl rfl (Nat.le_of_ble_eq_true rfl) dX2_reckon_53 (fun H locs hP hD hS => ?_)
      have hP : va_P D vwCl (wX2 cy qPa Pa_sailMiles Pa_weights Pa_chance Pa_burnt Pa_engineMiles (Pa_daysReckoned + (1 : Int32)) Pa_milesReckoned Pa_coalReckoned) H := hP
      have hD : va_D A (wX2 cy qPa Pa_sailMiles Pa_weights Pa_chance Pa_burnt Pa_engineMiles (Pa_daysReckoned + (1 : Int32)) Pa_milesReckoned Pa_coalReckoned) := hD
      refine lv_aload_n hx hb dX2_reckon_56 rfl (lv_at hl 0 rfl) ?_
      refine lv_aload_n hx hb dX2_reckon_57 rfl (lv_at hl 0 rfl) ?_
      refine va_get (D := D) (ci := 2) (v := .int (Pa_daysReckoned + (1 : Int32))) (C := RX2) (T := TX2) (N := 8) hx hb hts i_X2_reckon_X2 hown hK hP 0 rfl rfl 5 (by decide) (hts _ m_X2_reckon_f41) (fun _ h9 => h9) rfl dX2_reckon_58 ?_
      obtain ⟨u2, eu2, hf⟩ := Option.bind_eq_some_iff.mp hf
      refine cq_v (wc' := fun (u : (Nat → Int64) × (Nat → Int64)) => (wX2 cy qPa Pa_sailMiles Pa_weights u.1 u.2 Pa_engineMiles (Pa_daysReckoned + (1 : Int32)) Pa_milesReckoned Pa_coalReckoned)) (ws' := fun (u : (Nat → Int64) × (Nat → Int64)) => (wX2 cy qPa Pa_sailMiles Pa_weights u.1 u.2 Pa_engineMiles (Pa_daysReckoned + (1 : Int32)) Pa_milesReckoned Pa_coalReckoned)) (wc := (wX2 cy qPa Pa_sailMiles Pa_weights Pa_chance Pa_burnt Pa_engineMiles (Pa_daysReckoned + (1 : Int32)) Pa_milesReckoned Pa_coalReckoned)) (wr := ([] : va_W)) C0 hP hD hS [0, 1, 2, 3, 4] [] [0, 1, 2, 3, 4] rfl rfl (by decide) (by decide) (by decide) (fun _ => rfl) (va_runV (As := [.int (Pa_daysReckoned + (1 : Int32))]) (rest := []) ⟨hx, hb, hml, hown, hts⟩ (c_X2_reckonDay l D cy qPa Pa_sailMiles Pa_weights Pa_chance Pa_burnt Pa_engineMiles (Pa_daysReckoned + (1 : Int32)) Pa_milesReckoned Pa_coalReckoned H.size (Pa_daysReckoned + (1 : Int32)) u2 eu2) (cwV 1 hts gX2_reckon_X2_reckonDay rfl rfl rfl (by decide +kernel) ⟨Nat.le_of_ble_eq_true rfl, Nat.le_of_ble_eq_true rfl⟩) (pre_V (hP.sub (ws' := (wX2 cy qPa Pa_sailMiles Pa_weights Pa_chance Pa_burnt Pa_engineMiles (Pa_daysReckoned + (1 : Int32)) Pa_milesReckoned Pa_coalReckoned)) [0, 1, 2, 3, 4] rfl) hK (hD.sub (ws' := (wX2 cy qPa Pa_sailMiles Pa_weights Pa_chance Pa_burnt Pa_engineMiles (Pa_daysReckoned + (1 : Int32)) Pa_milesReckoned Pa_coalReckoned)) [0, 1, 2, 3, 4] (by decide) rfl) hN 2 0 rfl rfl) rfl rfl hl.1 rfl (lv_room (Nat.le_of_ble_eq_true rfl)) dX2_reckon_61 ⟨Nat.zero_le _, Nat.zero_le _⟩) (fun u H locs hw hP hD hS => ?_)
      have hw := hw.symm
      subst hw
      have hP : va_P D vwCl (wX2 cy qPa Pa_sailMiles Pa_weights u2.1 u2.2 Pa_engineMiles (Pa_daysReckoned + (1 : Int32)) Pa_milesReckoned Pa_coalReckoned) H := hP
      have hD : va_D A (wX2 cy qPa Pa_sailMiles Pa_weights u2.1 u2.2 Pa_engineMiles (Pa_daysReckoned + (1 : Int32)) Pa_milesReckoned Pa_coalReckoned) := hD
      refine lv_goto (tgt := 38) hx hb dX2_reckon_64 (by decide) ?_
      exact hk38 u2.1 u2.2 (Pa_daysReckoned + (1 : Int32)) Pa_milesReckoned Pa_coalReckoned x2 hf H locs ls hP hD hS (lv_sub hl [0, 1] rfl)

set_option maxHeartbeats 4000000 in
set_option maxRecDepth 100000 in
theorem w_X2_reckon_23 {p : Program} {l : Launch} {e : Env} {s : State} {m : MethodId} {args : Array Value} {below : List Frame} {meth : Method} {c : Code} {A : Nat → Prop} {D : va_G} {cy : Nat → ClassId} {qPa : Nat → Nat} {Pa_sailMiles Pa_weights : Nat → Int32} {Pa_engineMiles : Int32} {X : (Nat → Int64) × (Nat → Int64) × (Int32) × (Int32) × (Int32)}  (C0 : CX cX2_reckon 4 none RX2 wsX2_reckon D cy p s m args meth c A)  (Pa_chance : Nat → Int64) (Pa_burnt : Nat → Int64) (Pa_daysReckoned : Int32) (Pa_milesReckoned : Int32) (Pa_coalReckoned : Int32) (x1 : Int32) (x2 : Int32) (x3 : Int32) (hf : f_X2_reckon_23 Pa_sailMiles Pa_weights Pa_engineMiles Pa_chance Pa_burnt Pa_daysReckoned Pa_milesReckoned Pa_coalReckoned x1 x2 x3 = some X) : ∀ (H : Heap) (locs : List Loc) (ls : Array Slot), va_P D vwCl (wX2 cy qPa Pa_sailMiles Pa_weights Pa_chance Pa_burnt Pa_engineMiles Pa_daysReckoned Pa_milesReckoned Pa_coalReckoned) H → va_D A (wX2 cy qPa Pa_sailMiles Pa_weights Pa_chance Pa_burnt Pa_engineMiles Pa_daysReckoned Pa_milesReckoned Pa_coalReckoned) → va_S A s.heap H locs → lv_has ls 4 [(0, .ref (qPa 0)), (1, .int x1), (2, .int x2), (3, .int x3)] → W p l e ({ frames := 5, cells := 0, slots := 0, locals := 126 } : Room) s m args below meth c H locs 0 0 (MQ below (va_Qv (fun (u : (Nat → Int64) × (Nat → Int64) × (Int32) × (Int32) × (Int32)) => u = X) (fun u t => BW D cy A (wX2 cy qPa Pa_sailMiles Pa_weights u.1 u.2.1 Pa_engineMiles u.2.2.1 u.2.2.2.1 u.2.2.2.2) t) A) args s 0 0 A) (F0 m 23 ls []) := by
  obtain ⟨hx, hb, hr, hml, hown, hts, hK, hA, hN, hlocks⟩ := id C0
  intro H locs ls hP hD hS hl
  unfold f_X2_reckon_23 at hf
  refine lv_aload_n hx hb dX2_reckon_23 rfl (lv_at hl 0 rfl) ?_
  refine lv_iload_n hx hb dX2_reckon_24 rfl (lv_at hl 1 rfl) ?_
  refine va_put (D := D) (ci := 2) (v := .int x1) (ty := .int) (C := RX2) (T := TX2) (N := 8) hx hb hts i_X2_reckon_X2 tyX2 tyX2_ok nmX2 hown hK hP hD hS 0 rfl rfl 6 (by decide) (hts _ m_X2_reckon_f54) (fun _ h9 => h9) rfl (by decide +kernel) rfl rfl (Nat.le_of_ble_eq_true rfl) dX2_reckon_25 (fun H locs hP hD hS => ?_)
  have hP : va_P D vwCl (wX2 cy qPa Pa_sailMiles Pa_weights Pa_chance Pa_burnt Pa_engineMiles Pa_daysReckoned x1 Pa_coalReckoned) H := hP
  have hD : va_D A (wX2 cy qPa Pa_sailMiles Pa_weights Pa_chance Pa_burnt Pa_engineMiles Pa_daysReckoned x1 Pa_coalReckoned) := hD
  refine lv_aload_n hx hb dX2_reckon_28 rfl (lv_at hl 0 rfl) ?_
  refine lv_iload_n hx hb dX2_reckon_29 rfl (lv_at hl 3 rfl) ?_
  refine va_put (D := D) (ci := 2) (v := .int x3) (ty := .int) (C := RX2) (T := TX2) (N := 8) hx hb hts i_X2_reckon_X2 tyX2 tyX2_ok nmX2 hown hK hP hD hS 0 rfl rfl 7 (by decide) (hts _ m_X2_reckon_f57) (fun _ h9 => h9) rfl (by decide +kernel) rfl rfl (Nat.le_of_ble_eq_true rfl) dX2_reckon_30 (fun H locs hP hD hS => ?_)
  have hP : va_P D vwCl (wX2 cy qPa Pa_sailMiles Pa_weights Pa_chance Pa_burnt Pa_engineMiles Pa_daysReckoned x1 x3) H := hP
  have hD : va_D A (wX2 cy qPa Pa_sailMiles Pa_weights Pa_chance Pa_burnt Pa_engineMiles Pa_daysReckoned x1 x3) := hD
  refine lv_aload_n hx hb dX2_reckon_33 rfl (lv_at hl 0 rfl) ?_
  refine lv_iconst (v := (0 : Int32)) hx hb dX2_reckon_34 (by decide) ?_
  refine va_put (D := D) (ci := 2) (v := .int (0 : Int32)) (ty := .int) (C := RX2) (T := TX2) (N := 8) hx hb hts i_X2_reckon_X2 tyX2 tyX2_ok nmX2 hown hK hP hD hS 0 rfl rfl 5 (by decide) (hts _ m_X2_reckon_f41) (fun _ h9 => h9) rfl (by decide +kernel) rfl rfl (Nat.le_of_ble_eq_true rfl) dX2_reckon_35 (fun H locs hP hD hS => ?_)
  have hP : va_P D vwCl (wX2 cy qPa Pa_sailMiles Pa_weights Pa_chance Pa_burnt Pa_engineMiles (0 : Int32) x1 x3) H := hP
  have hD : va_D A (wX2 cy qPa Pa_sailMiles Pa_weights Pa_chance Pa_burnt Pa_engineMiles (0 : Int32) x1 x3) := hD
  exact w_X2_reckon_38 C0  FU Pa_chance Pa_burnt (0 : Int32) x1 x3 x2 hf H locs ls hP hD hS (lv_sub hl [0, 2] rfl)

set_option maxHeartbeats 4000000 in
set_option maxRecDepth 100000 in
theorem c_X2_reckon (l : Launch) (D : va_G) (cy : Nat → ClassId) (qPa : Nat → Nat) (Pa_sailMiles : Nat → Int32) (Pa_weights : Nat → Int32) (Pa_chance : Nat → Int64) (Pa_burnt : Nat → Int64) (Pa_engineMiles : Int32) (Pa_daysReckoned : Int32) (Pa_milesReckoned : Int32) (Pa_coalReckoned : Int32) (sz : Nat) (x1 : Int32) (x2 : Int32) (x3 : Int32) (X : (Nat → Int64) × (Nat → Int64) × (Int32) × (Int32) × (Int32)) (hf : f_X2_reckon Pa_sailMiles Pa_weights Pa_chance Pa_burnt Pa_engineMiles Pa_daysReckoned Pa_milesReckoned Pa_coalReckoned x1 x2 x3 = some X) : Met l yX2_reckon wsX2_reckon ({ frames := 5, cells := 0, slots := 0, locals := 126 } : Room) (va_Pc [.ref (qPa 0), .int x1, .int x2, .int x3] (PW D cy (wX2 cy qPa Pa_sailMiles Pa_weights Pa_chance Pa_burnt Pa_engineMiles Pa_daysReckoned Pa_milesReckoned Pa_coalReckoned) sz)) (va_Qv (fun (u : (Nat → Int64) × (Nat → Int64) × (Int32) × (Int32) × (Int32)) => u = X) (fun u t => BW D cy (va_A (wX2 cy qPa Pa_sailMiles Pa_weights Pa_chance Pa_burnt Pa_engineMiles Pa_daysReckoned Pa_milesReckoned Pa_coalReckoned) sz) (wX2 cy qPa Pa_sailMiles Pa_weights u.1 u.2.1 Pa_engineMiles u.2.2.1 u.2.2.2.1 u.2.2.2.2) t) (va_A (wX2 cy qPa Pa_sailMiles Pa_weights Pa_chance Pa_burnt Pa_engineMiles Pa_daysReckoned Pa_milesReckoned Pa_coalReckoned) sz)) 0 0 (va_A (wX2 cy qPa Pa_sailMiles Pa_weights Pa_chance Pa_burnt Pa_engineMiles Pa_daysReckoned Pa_milesReckoned Pa_coalReckoned) sz) := by
  refine met_enter (Qc := fun A => (va_Qv (fun (u : (Nat → Int64) × (Nat → Int64) × (Int32) × (Int32) × (Int32)) => u = X) (fun u t => BW D cy A (wX2 cy qPa Pa_sailMiles Pa_weights u.1 u.2.1 Pa_engineMiles u.2.2.1 u.2.2.2.1 u.2.2.2.2) t) A)) (lv0 := [(0, .ref (qPa 0)), (1, .int x1), (2, .int x2), (3, .int x3)]) (by decide) rfl (Nat.le_of_ble_eq_true rfl) rfl ?_
  intro p e s m below meth c A ls hnm C0 hP hD hS hl
  generalize hH : s.heap = H at hP ⊢
  generalize hLoc : ([] : List Loc) = locs at hS ⊢
  have hS : va_S A s.heap H locs := by rw [← hH]; exact hS
  have C0 : CX cX2_reckon 4 none RX2 wsX2_reckon D cy p s m _ meth c A := C0
  obtain ⟨hx, hb, hr, hml, hown, hts, hK, hA, hN, hlocks⟩ := id C0
  unfold f_X2_reckon at hf
  refine lv_aload_n hx hb dX2_reckon_0 rfl (lv_at hl 0 rfl) ?_
  refine va_get (D := D) (ci := 2) (v := .int Pa_daysReckoned) (C := RX2) (T := TX2) (N := 8) hx hb hts i_X2_reckon_X2 hown hK hP 0 rfl rfl 5 (by decide) (hts _ m_X2_reckon_f41) (fun _ h9 => h9) rfl dX2_reckon_1 ?_
  refine lv_if_eq (tgt := 23) hx hb dX2_reckon_4 (by decide) (fun hc3 => ?_) (fun hc3 => ?_)
  · have hf := ift hf hc3
    exact w_X2_reckon_23 C0  Pa_chance Pa_burnt Pa_daysReckoned Pa_milesReckoned Pa_coalReckoned x1 x2 x3 hf H locs ls hP hD hS (lv_sub hl [0, 1, 2, 3] rfl)
  · have hf := iff_ hf hc3
    refine lv_iload_n hx hb dX2_reckon_7 rfl (lv_at hl 1 rfl) ?_
    refine lv_aload_n hx hb dX2_reckon_8 rfl (lv_at hl 0 rfl) ?_
    refine va_get (D := D) (ci := 2) (v := .int Pa_milesReckoned) (C := RX2) (T := TX2) (N := 8) hx hb hts i_X2_reckon_X2 hown hK hP 0 rfl rfl 6 (by decide) (hts _ m_X2_reckon_f54) (fun _ h9 => h9) rfl dX2_reckon_9 ?_
    refine lv_icmp_gt (tgt := 23) hx hb dX2_reckon_12 (by decide) (fun hc4 => ?_) (fun hc4 => ?_)
    · have hf := ift hf hc4
      exact w_X2_reckon_23 C0  Pa_chance Pa_burnt Pa_daysReckoned Pa_milesReckoned Pa_coalReckoned x1 x2 x3 hf H locs ls hP hD hS (lv_sub hl [0, 1, 2, 3] rfl)
    · have hf := iff_ hf hc4
      refine lv_iload_n hx hb dX2_reckon_15 rfl (lv_at hl 3 rfl) ?_
      refine lv_aload_n hx hb dX2_reckon_16 rfl (lv_at hl 0 rfl) ?_
      refine va_get (D := D) (ci := 2) (v := .int Pa_coalReckoned) (C := RX2) (T := TX2) (N := 8) hx hb hts i_X2_reckon_X2 hown hK hP 0 rfl rfl 7 (by decide) (hts _ m_X2_reckon_f57) (fun _ h9 => h9) rfl dX2_reckon_17 ?_
      refine lv_icmp_le (tgt := 38) hx hb dX2_reckon_20 (by decide) (fun hc5 => ?_) (fun hc5 => ?_)
      · have hf := ift hf hc5
        exact w_X2_reckon_38 C0  FU Pa_chance Pa_burnt Pa_daysReckoned Pa_milesReckoned Pa_coalReckoned x2 hf H locs ls hP hD hS (lv_sub hl [0, 2] rfl)
      · have hf := iff_ hf hc5
        exact w_X2_reckon_23 C0  Pa_chance Pa_burnt Pa_daysReckoned Pa_milesReckoned Pa_coalReckoned x1 x2 x3 hf H locs ls hP hD hS (lv_sub hl [0, 1, 2, 3] rfl)

theorem i_X2_chanceOf_X2 : ∀ w ∈ wsX20, w ∈ wsX2_chanceOf := by decide +kernel
theorem m_X2_chanceOf_f18 : Cond.fieldLink RX2 18 "SailCargo$Passage" "chance" "[J" ∈ wsX2_chanceOf := by decide +kernel
set_option maxHeartbeats 4000000 in
set_option maxRecDepth 100000 in
theorem c_X2_chanceOf (l : Launch) (D : va_G) (cy : Nat → ClassId) (qPa : Nat → Nat) (Pa_sailMiles : Nat → Int32) (Pa_weights : Nat → Int32) (Pa_chance : Nat → Int64) (Pa_burnt : Nat → Int64) (Pa_engineMiles : Int32) (Pa_daysReckoned : Int32) (Pa_milesReckoned : Int32) (Pa_coalReckoned : Int32) (sz : Nat) (x1 : Int32) (x2 : Int32) (x3 : Int32) (X : Int64) (hf : f_X2_chanceOf Pa_chance x1 x2 x3 = some X) : Met l yX2_chanceOf wsX2_chanceOf ({ frames := 1, cells := 0, slots := 0, locals := 22 } : Room) (va_Pc [.ref (qPa 0), .int x1, .int x2, .int x3] (PW D cy (wX2 cy qPa Pa_sailMiles Pa_weights Pa_chance Pa_burnt Pa_engineMiles Pa_daysReckoned Pa_milesReckoned Pa_coalReckoned) sz)) (va_Ql (fun (r : Int64) (_ : Unit) => r = X) (fun u t => BW D cy (va_A (wX2 cy qPa Pa_sailMiles Pa_weights Pa_chance Pa_burnt Pa_engineMiles Pa_daysReckoned Pa_milesReckoned Pa_coalReckoned) sz) (wX2 cy qPa Pa_sailMiles Pa_weights Pa_chance Pa_burnt Pa_engineMiles Pa_daysReckoned Pa_milesReckoned Pa_coalReckoned) t) (va_A (wX2 cy qPa Pa_sailMiles Pa_weights Pa_chance Pa_burnt Pa_engineMiles Pa_daysReckoned Pa_milesReckoned Pa_coalReckoned) sz)) 0 0 (va_A (wX2 cy qPa Pa_sailMiles Pa_weights Pa_chance Pa_burnt Pa_engineMiles Pa_daysReckoned Pa_milesReckoned Pa_coalReckoned) sz) := by
  refine met_enter (Qc := fun A => (va_Ql (fun (r : Int64) (_ : Unit) => r = X) (fun u t => BW D cy A (wX2 cy qPa Pa_sailMiles Pa_weights Pa_chance Pa_burnt Pa_engineMiles Pa_daysReckoned Pa_milesReckoned Pa_coalReckoned) t) A)) (lv0 := [(0, .ref (qPa 0)), (1, .int x1), (2, .int x2), (3, .int x3)]) (by decide) rfl (Nat.le_of_ble_eq_true rfl) rfl ?_
  intro p e s m below meth c A ls hnm C0 hP hD hS hl
  generalize hH : s.heap = H at hP ⊢
  generalize hLoc : ([] : List Loc) = locs at hS ⊢
  have hS : va_S A s.heap H locs := by rw [← hH]; exact hS
  have C0 : CX cX2_chanceOf 4 (some .long) RX2 wsX2_chanceOf D cy p s m _ meth c A := C0
  obtain ⟨hx, hb, hr, hml, hown, hts, hK, hA, hN, hlocks⟩ := id C0
  unfold f_X2_chanceOf at hf
  refine lv_aload_n hx hb dX2_chanceOf_0 rfl (lv_at hl 0 rfl) ?_
  refine va_get (D := D) (ci := 2) (v := .ref (qPa 3)) (C := RX2) (T := TX2) (N := 8) hx hb hts i_X2_chanceOf_X2 hown hK hP 0 rfl rfl 2 (by decide) (hts _ m_X2_chanceOf_f18) (fun _ h9 => h9) rfl dX2_chanceOf_1 ?_
  refine lv_iload_n hx hb dX2_chanceOf_4 rfl (lv_at hl 2 rfl) ?_
  refine lv_iload_n hx hb dX2_chanceOf_5 rfl (lv_at hl 1 rfl) ?_
  refine lv_iload_n hx hb dX2_chanceOf_6 rfl (lv_at hl 3 rfl) ?_
  obtain ⟨u1, eu1, hf⟩ := Option.bind_eq_some_iff.mp hf
  refine cq_i (wc' := fun (u : Unit) => ([] : va_W)) (ws' := fun (u : Unit) => (wX2 cy qPa Pa_sailMiles Pa_weights Pa_chance Pa_burnt Pa_engineMiles Pa_daysReckoned Pa_milesReckoned Pa_coalReckoned)) (wc := ([] : va_W)) (wr := (wX2 cy qPa Pa_sailMiles Pa_weights Pa_chance Pa_burnt Pa_engineMiles Pa_daysReckoned Pa_milesReckoned Pa_coalReckoned)) C0 hP hD hS [] [0, 1, 2, 3, 4] [0, 1, 2, 3, 4] rfl rfl (by decide) (by decide) (by decide) (fun _ => rfl) (va_runS (As := [.int x2, .int x1, .int x3]) (rest := [.ref (qPa 3)]) ⟨hx, hb, hml, hown, hts⟩ (c_X2_at l D cy   H.size x2 x1 x3 u1 eu1) (va_cwS 3 hts gX2_chanceOf_X2_at rfl rfl rfl (by decide +kernel) ⟨Nat.le_of_ble_eq_true rfl, Nat.le_of_ble_eq_true rfl⟩) (pre_S (hP.sub (ws' := ([] : va_W)) [] rfl) hK (hD.sub (ws' := ([] : va_W)) [] (by decide) rfl) hN) rfl rfl hl.1 rfl (lv_room (Nat.le_of_ble_eq_true rfl)) dX2_chanceOf_7 ⟨Nat.zero_le _, Nat.zero_le _⟩) (fun r u H locs hw hP hD hS => ?_)
  have hw := hw.symm
  subst hw
  have hP : va_P D vwCl (wX2 cy qPa Pa_sailMiles Pa_weights Pa_chance Pa_burnt Pa_engineMiles Pa_daysReckoned Pa_milesReckoned Pa_coalReckoned) H := hP
  have hD : va_D A (wX2 cy qPa Pa_sailMiles Pa_weights Pa_chance Pa_burnt Pa_engineMiles Pa_daysReckoned Pa_milesReckoned Pa_coalReckoned) := hD
  obtain ⟨hz2, hf⟩ := ifn hf
  refine va_lald hx hb hK hP 3 1 rfl rfl (inb_in hz2) dX2_chanceOf_10 ?_
  exact rq_l C0 () (Option.some.inj hf) hP hD hS dX2_chanceOf_11

theorem i_X2_burntOf_X2 : ∀ w ∈ wsX20, w ∈ wsX2_burntOf := by decide +kernel
theorem m_X2_burntOf_f22 : Cond.fieldLink RX2 22 "SailCargo$Passage" "burnt" "[J" ∈ wsX2_burntOf := by decide +kernel
set_option maxHeartbeats 4000000 in
set_option maxRecDepth 100000 in
theorem c_X2_burntOf (l : Launch) (D : va_G) (cy : Nat → ClassId) (qPa : Nat → Nat) (Pa_sailMiles : Nat → Int32) (Pa_weights : Nat → Int32) (Pa_chance : Nat → Int64) (Pa_burnt : Nat → Int64) (Pa_engineMiles : Int32) (Pa_daysReckoned : Int32) (Pa_milesReckoned : Int32) (Pa_coalReckoned : Int32) (sz : Nat) (x1 : Int32) (x2 : Int32) (x3 : Int32) (X : Int64) (hf : f_X2_burntOf Pa_burnt x1 x2 x3 = some X) : Met l yX2_burntOf wsX2_burntOf ({ frames := 1, cells := 0, slots := 0, locals := 22 } : Room) (va_Pc [.ref (qPa 0), .int x1, .int x2, .int x3] (PW D cy (wX2 cy qPa Pa_sailMiles Pa_weights Pa_chance Pa_burnt Pa_engineMiles Pa_daysReckoned Pa_milesReckoned Pa_coalReckoned) sz)) (va_Ql (fun (r : Int64) (_ : Unit) => r = X) (fun u t => BW D cy (va_A (wX2 cy qPa Pa_sailMiles Pa_weights Pa_chance Pa_burnt Pa_engineMiles Pa_daysReckoned Pa_milesReckoned Pa_coalReckoned) sz) (wX2 cy qPa Pa_sailMiles Pa_weights Pa_chance Pa_burnt Pa_engineMiles Pa_daysReckoned Pa_milesReckoned Pa_coalReckoned) t) (va_A (wX2 cy qPa Pa_sailMiles Pa_weights Pa_chance Pa_burnt Pa_engineMiles Pa_daysReckoned Pa_milesReckoned Pa_coalReckoned) sz)) 0 0 (va_A (wX2 cy qPa Pa_sailMiles Pa_weights Pa_chance Pa_burnt Pa_engineMiles Pa_daysReckoned Pa_milesReckoned Pa_coalReckoned) sz) := by
  refine met_enter (Qc := fun A => (va_Ql (fun (r : Int64) (_ : Unit) => r = X) (fun u t => BW D cy A (wX2 cy qPa Pa_sailMiles Pa_weights Pa_chance Pa_burnt Pa_engineMiles Pa_daysReckoned Pa_milesReckoned Pa_coalReckoned) t) A)) (lv0 := [(0, .ref (qPa 0)), (1, .int x1), (2, .int x2), (3, .int x3)]) (by decide) rfl (Nat.le_of_ble_eq_true rfl) rfl ?_
  intro p e s m below meth c A ls hnm C0 hP hD hS hl
  generalize hH : s.heap = H at hP ⊢
  generalize hLoc : ([] : List Loc) = locs at hS ⊢
  have hS : va_S A s.heap H locs := by rw [← hH]; exact hS
  have C0 : CX cX2_burntOf 4 (some .long) RX2 wsX2_burntOf D cy p s m _ meth c A := C0
  obtain ⟨hx, hb, hr, hml, hown, hts, hK, hA, hN, hlocks⟩ := id C0
  unfold f_X2_burntOf at hf
  refine lv_aload_n hx hb dX2_burntOf_0 rfl (lv_at hl 0 rfl) ?_
  refine va_get (D := D) (ci := 2) (v := .ref (qPa 4)) (C := RX2) (T := TX2) (N := 8) hx hb hts i_X2_burntOf_X2 hown hK hP 0 rfl rfl 3 (by decide) (hts _ m_X2_burntOf_f22) (fun _ h9 => h9) rfl dX2_burntOf_1 ?_
  refine lv_iload_n hx hb dX2_burntOf_4 rfl (lv_at hl 2 rfl) ?_
  refine lv_iload_n hx hb dX2_burntOf_5 rfl (lv_at hl 1 rfl) ?_
  refine lv_iload_n hx hb dX2_burntOf_6 rfl (lv_at hl 3 rfl) ?_
  obtain ⟨u1, eu1, hf⟩ := Option.bind_eq_some_iff.mp hf
  refine cq_i (wc' := fun (u : Unit) => ([] : va_W)) (ws' := fun (u : Unit) => (wX2 cy qPa Pa_sailMiles Pa_weights Pa_chance Pa_burnt Pa_engineMiles Pa_daysReckoned Pa_milesReckoned Pa_coalReckoned)) (wc := ([] : va_W)) (wr := (wX2 cy qPa Pa_sailMiles Pa_weights Pa_chance Pa_burnt Pa_engineMiles Pa_daysReckoned Pa_milesReckoned Pa_coalReckoned)) C0 hP hD hS [] [0, 1, 2, 3, 4] [0, 1, 2, 3, 4] rfl rfl (by decide) (by decide) (by decide) (fun _ => rfl) (va_runS (As := [.int x2, .int x1, .int x3]) (rest := [.ref (qPa 4)]) ⟨hx, hb, hml, hown, hts⟩ (c_X2_at l D cy   H.size x2 x1 x3 u1 eu1) (va_cwS 3 hts gX2_burntOf_X2_at rfl rfl rfl (by decide +kernel) ⟨Nat.le_of_ble_eq_true rfl, Nat.le_of_ble_eq_true rfl⟩) (pre_S (hP.sub (ws' := ([] : va_W)) [] rfl) hK (hD.sub (ws' := ([] : va_W)) [] (by decide) rfl) hN) rfl rfl hl.1 rfl (lv_room (Nat.le_of_ble_eq_true rfl)) dX2_burntOf_7 ⟨Nat.zero_le _, Nat.zero_le _⟩) (fun r u H locs hw hP hD hS => ?_)
  have hw := hw.symm
  subst hw
  have hP : va_P D vwCl (wX2 cy qPa Pa_sailMiles Pa_weights Pa_chance Pa_burnt Pa_engineMiles Pa_daysReckoned Pa_milesReckoned Pa_coalReckoned) H := hP
  have hD : va_D A (wX2 cy qPa Pa_sailMiles Pa_weights Pa_chance Pa_burnt Pa_engineMiles Pa_daysReckoned Pa_milesReckoned Pa_coalReckoned) := hD
  obtain ⟨hz2, hf⟩ := ifn hf
  refine va_lald hx hb hK hP 4 1 rfl rfl (inb_in hz2) dX2_burntOf_10 ?_
  exact rq_l C0 () (Option.some.inj hf) hP hD hS dX2_burntOf_11

theorem m_X2_fewestDays_c72 : Cond.constantLong RX2 72 (16) ∈ wsX2_fewestDays := by decide +kernel
set_option maxHeartbeats 4000000 in
set_option maxRecDepth 100000 in
theorem w_X2_fewestDays_3 {p : Program} {l : Launch} {e : Env} {s : State} {m : MethodId} {args : Array Value} {below : List Frame} {meth : Method} {c : Code} {A : Nat → Prop} {D : va_G} {cy : Nat → ClassId} {qPa : Nat → Nat} {Pa_sailMiles Pa_weights : Nat → Int32} {Pa_engineMiles : Int32} {X : Int32 × (Nat → Int64) × (Nat → Int64) × (Int32) × (Int32) × (Int32)}  (C0 : CX cX2_fewestDays 5 (some .int) RX2 wsX2_fewestDays D cy p s m args meth c A)  : ∀ (n : Nat) (Pa_chance : Nat → Int64) (Pa_burnt : Nat → Int64) (Pa_daysReckoned : Int32) (Pa_milesReckoned : Int32) (Pa_coalReckoned : Int32) (x1 : Int32) (x2 : Int32) (x3 : Int32) (x4 : Int32), g_X2_fewestDays_3 Pa_sailMiles Pa_weights Pa_engineMiles n Pa_chance Pa_burnt Pa_daysReckoned Pa_milesReckoned Pa_coalReckoned x1 x2 x3 x4 = some X → ∀ (H : Heap) (locs : List Loc) (ls : Array Slot), va_P D vwCl (wX2 cy qPa Pa_sailMiles Pa_weights Pa_chance Pa_burnt Pa_engineMiles Pa_daysReckoned Pa_milesReckoned Pa_coalReckoned) H → va_D A (wX2 cy qPa Pa_sailMiles Pa_weights Pa_chance Pa_burnt Pa_engineMiles Pa_daysReckoned Pa_milesReckoned Pa_coalReckoned) → va_S A s.heap H locs → lv_has ls 5 [(0, .ref (qPa 0)), (1, .int x1), (2, .int x2), (3, .int x3), (4, .int x4)] → W p l e ({ frames := 6, cells := 0, slots := 0, locals := 149 } : Room) s m args below meth c H locs 0 0 (MQ below (va_Qi (fun (r : Int32) (u : (Nat → Int64) × (Nat → Int64) × (Int32) × (Int32) × (Int32)) => r = X.1 ∧ u = X.2) (fun u t => BW D cy A (wX2 cy qPa Pa_sailMiles Pa_weights u.1 u.2.1 Pa_engineMiles u.2.2.1 u.2.2.2.1 u.2.2.2.2) t) A) args s 0 0 A) (F0 m 3 ls []) := by
  obtain ⟨hx, hb, hr, hml, hown, hts, hK, hA, hN, hlocks⟩ := id C0
  intro n
  induction n with
  | zero => intro Pa_chance Pa_burnt Pa_daysReckoned Pa_milesReckoned Pa_coalReckoned x1 x2 x3 x4 hf; exact (no_some hf).elim
  | succ n hk3 =>
    intro Pa_chance Pa_burnt Pa_daysReckoned Pa_milesReckoned Pa_coalReckoned x1 x2 x3 x4 hf H locs ls hP hD hS hl
    have hf : f_X2_fewestDays_3 Pa_sailMiles Pa_weights Pa_engineMiles (fun Pa_chance Pa_burnt Pa_daysReckoned Pa_milesReckoned Pa_coalReckoned x1 x2 x3 x4 => g_X2_fewestDays_3 Pa_sailMiles Pa_weights Pa_engineMiles n Pa_chance Pa_burnt Pa_daysReckoned Pa_milesReckoned Pa_coalReckoned x1 x2 x3 x4) Pa_chance Pa_burnt Pa_daysReckoned Pa_milesReckoned Pa_coalReckoned x1 x2 x3 x4 = some X := hf
    unfold f_X2_fewestDays_3 at hf
    refine lv_iload hx hb dX2_fewestDays_3 (lv_at hl 4 rfl) ?_
    refine lv_bipush (v := (12 : Int32)) hx hb dX2_fewestDays_5 (by decide) ?_
    refine lv_icmp_gt (tgt := 51) hx hb dX2_fewestDays_7 (by decide) (fun hc1 => ?_) (fun hc1 => ?_)
    · have hf := ift hf hc1
      refine lv_iconst (v := (-1 : Int32)) hx hb dX2_fewestDays_51 (by decide) ?_
      exact rq_i C0 (Pa_chance, Pa_burnt, Pa_daysReckoned, Pa_milesReckoned, Pa_coalReckoned) (pr_2 hf) hP hD hS dX2_fewestDays_52
    · have hf := iff_ hf hc1
      refine lv_aload_n hx hb dX2_fewestDays_10 rfl (lv_at hl 0 rfl) ?_
      refine lv_iload_n hx hb dX2_fewestDays_11 rfl (lv_at hl 1 rfl) ?_
      refine lv_iload hx hb dX2_fewestDays_12 (lv_at hl 4 rfl) ?_
      refine lv_iload_n hx hb dX2_fewestDays_14 rfl (lv_at hl 2 rfl) ?_
      obtain ⟨u2, eu2, hf⟩ := Option.bind_eq_some_iff.mp hf
      refine cq_v (wc' := fun (u : (Nat → Int64) × (Nat → Int64) × (Int32) × (Int32) × (Int32)) => (wX2 cy qPa Pa_sailMiles Pa_weights u.1 u.2.1 Pa_engineMiles u.2.2.1 u.2.2.2.1 u.2.2.2.2)) (ws' := fun (u : (Nat → Int64) × (Nat → Int64) × (Int32) × (Int32) × (Int32)) => (wX2 cy qPa Pa_sailMiles Pa_weights u.1 u.2.1 Pa_engineMiles u.2.2.1 u.2.2.2.1 u.2.2.2.2)) (wc := (wX2 cy qPa Pa_sailMiles Pa_weights Pa_chance Pa_burnt Pa_engineMiles Pa_daysReckoned Pa_milesReckoned Pa_coalReckoned)) (wr := ([] : va_W)) C0 hP hD hS [0, 1, 2, 3, 4] [] [0, 1, 2, 3, 4] rfl rfl (by decide) (by decide) (by decide) (fun _ => rfl) (va_runV (As := [.int x1, .int x4, .int x2]) (rest := []) ⟨hx, hb, hml, hown, hts⟩ (c_X2_reckon l D cy qPa Pa_sailMiles Pa_weights Pa_chance Pa_burnt Pa_engineMiles Pa_daysReckoned Pa_milesReckoned Pa_coalReckoned H.size x1 x4 x2 u2 eu2) (cwV 3 hts gX2_fewestDays_X2_reckon rfl rfl rfl (by decide +kernel) ⟨Nat.le_of_ble_eq_true rfl, Nat.le_of_ble_eq_true rfl⟩) (pre_V (hP.sub (ws' := (wX2 cy qPa Pa_sailMiles Pa_weights Pa_chance Pa_burnt Pa_engineMiles Pa_daysReckoned Pa_milesReckoned Pa_coalReckoned)) [0, 1, 2, 3, 4] rfl) hK (hD.sub (ws' := (wX2 cy qPa Pa_sailMiles Pa_weights Pa_chance Pa_burnt Pa_engineMiles Pa_daysReckoned Pa_milesReckoned Pa_coalReckoned)) [0, 1, 2, 3, 4] (by decide) rfl) hN 2 0 rfl rfl) rfl rfl hl.1 rfl (lv_room (Nat.le_of_ble_eq_true rfl)) dX2_fewestDays_15 ⟨Nat.zero_le _, Nat.zero_le _⟩) (fun u H locs hw hP hD hS => ?_)
      have hw := hw.symm
      subst hw
      have hP : va_P D vwCl (wX2 cy qPa Pa_sailMiles Pa_weights u2.1 u2.2.1 Pa_engineMiles u2.2.2.1 u2.2.2.2.1 u2.2.2.2.2) H := hP
      have hD : va_D A (wX2 cy qPa Pa_sailMiles Pa_weights u2.1 u2.2.1 Pa_engineMiles u2.2.2.1 u2.2.2.2.1 u2.2.2.2.2) := hD
      refine lv_aload_n hx hb dX2_fewestDays_18 rfl (lv_at hl 0 rfl) ?_
      refine lv_iload_n hx hb dX2_fewestDays_19 rfl (lv_at hl 1 rfl) ?_
      refine lv_iload hx hb dX2_fewestDays_20 (lv_at hl 4 rfl) ?_
      refine lv_iload_n hx hb dX2_fewestDays_22 rfl (lv_at hl 2 rfl) ?_
      obtain ⟨u3, eu3, hf⟩ := Option.bind_eq_some_iff.mp hf
      refine cq_l (wc' := fun (u : Unit) => (wX2 cy qPa Pa_sailMiles Pa_weights u2.1 u2.2.1 Pa_engineMiles u2.2.2.1 u2.2.2.2.1 u2.2.2.2.2)) (ws' := fun (u : Unit) => (wX2 cy qPa Pa_sailMiles Pa_weights u2.1 u2.2.1 Pa_engineMiles u2.2.2.1 u2.2.2.2.1 u2.2.2.2.2)) (wc := (wX2 cy qPa Pa_sailMiles Pa_weights u2.1 u2.2.1 Pa_engineMiles u2.2.2.1 u2.2.2.2.1 u2.2.2.2.2)) (wr := ([] : va_W)) C0 hP hD hS [0, 1, 2, 3, 4] [] [0, 1, 2, 3, 4] rfl rfl (by decide) (by decide) (by decide) (fun _ => rfl) (va_runV (As := [.int x1, .int x4, .int x2]) (rest := []) ⟨hx, hb, hml, hown, hts⟩ (c_X2_chanceOf l D cy qPa Pa_sailMiles Pa_weights u2.1 u2.2.1 Pa_engineMiles u2.2.2.1 u2.2.2.2.1 u2.2.2.2.2 H.size x1 x4 x2 u3 eu3) (cwV 3 hts gX2_fewestDays_X2_chanceOf rfl rfl rfl (by decide +kernel) ⟨Nat.le_of_ble_eq_true rfl, Nat.le_of_ble_eq_true rfl⟩) (pre_V (hP.sub (ws' := (wX2 cy qPa Pa_sailMiles Pa_weights u2.1 u2.2.1 Pa_engineMiles u2.2.2.1 u2.2.2.2.1 u2.2.2.2.2)) [0, 1, 2, 3, 4] rfl) hK (hD.sub (ws' := (wX2 cy qPa Pa_sailMiles Pa_weights u2.1 u2.2.1 Pa_engineMiles u2.2.2.1 u2.2.2.2.1 u2.2.2.2.2)) [0, 1, 2, 3, 4] (by decide) rfl) hN 2 0 rfl rfl) rfl rfl hl.1 rfl (lv_room (Nat.le_of_ble_eq_true rfl)) dX2_fewestDays_23 ⟨Nat.zero_le _, Nat.zero_le _⟩) (fun r u H locs hw hP hD hS => ?_)
      have hw := hw.symm
      subst hw
      have hP : va_P D vwCl (wX2 cy qPa Pa_sailMiles Pa_weights u2.1 u2.2.1 Pa_engineMiles u2.2.2.1 u2.2.2.2.1 u2.2.2.2.2) H := hP
      have hD : va_D A (wX2 cy qPa Pa_sailMiles Pa_weights u2.1 u2.2.1 Pa_engineMiles u2.2.2.1 u2.2.2.2.1 u2.2.2.2.2) := hD
      refine lv_ldc2 (v := (16 : Int64)) hx hb hown (hts _ m_X2_fewestDays_c72) dX2_fewestDays_26 ?_
      refine lv_lmul hx hb dX2_fewestDays_29 ?_
      refine lv_iload_n hx hb dX2_fewestDays_30 rfl (lv_at hl 3 rfl) ?_
      refine lv_i2l (v := x3.toInt64) hx hb dX2_fewestDays_31 rfl ?_
      refine lv_iload hx hb dX2_fewestDays_32 (lv_at hl 4 rfl) ?_
      obtain ⟨u4, eu4, hf⟩ := Option.bind_eq_some_iff.mp hf
      refine cq_l (wc' := fun (u : Unit) => ([] : va_W)) (ws' := fun (u : Unit) => (wX2 cy qPa Pa_sailMiles Pa_weights u2.1 u2.2.1 Pa_engineMiles u2.2.2.1 u2.2.2.2.1 u2.2.2.2.2)) (wc := ([] : va_W)) (wr := (wX2 cy qPa Pa_sailMiles Pa_weights u2.1 u2.2.1 Pa_engineMiles u2.2.2.1 u2.2.2.2.1 u2.2.2.2.2)) C0 hP hD hS [] [0, 1, 2, 3, 4] [0, 1, 2, 3, 4] rfl rfl (by decide) (by decide) (by decide) (fun _ => rfl) (va_runS (As := [.int x4]) (rest := [.long x3.toInt64, .long (u3 * (16 : Int64))]) ⟨hx, hb, hml, hown, hts⟩ (c_X2_parts l D cy   H.size x4 u4 eu4) (va_cwS 1 hts gX2_fewestDays_X2_parts rfl rfl rfl (by decide +kernel) ⟨Nat.le_of_ble_eq_true rfl, Nat.le_of_ble_eq_true rfl⟩) (pre_S (hP.sub (ws' := ([] : va_W)) [] rfl) hK (hD.sub (ws' := ([] : va_W)) [] (by decide) rfl) hN) rfl rfl hl.1 rfl (lv_room (Nat.le_of_ble_eq_true rfl)) dX2_fewestDays_34 ⟨Nat.zero_le _, Nat.zero_le _⟩) (fun r u H locs hw hP hD hS => ?_)
      have hw := hw.symm
      subst hw
      have hP : va_P D vwCl (wX2 cy qPa Pa_sailMiles Pa_weights u2.1 u2.2.1 Pa_engineMiles u2.2.2.1 u2.2.2.2.1 u2.2.2.2.2) H := hP
      have hD : va_D A (wX2 cy qPa Pa_sailMiles Pa_weights u2.1 u2.2.1 Pa_engineMiles u2.2.2.1 u2.2.2.2.1 u2.2.2.2.2) := hD
      refine lv_lmul hx hb dX2_fewestDays_37 ?_
      refine W.lcmp hx hb dX2_fewestDays_38 ?_
      refine lv_if_lt (tgt := 45) hx hb dX2_fewestDays_39 (by decide) (fun hc5 => ?_) (fun hc5 => ?_)
      · have hc5 := lc_lt.mp hc5
        have hf := ift hf hc5
        refine lv_iinc (v := (x4 + 1)) (lv' := [(4, .int (x4 + 1)), (0, .ref (qPa 0)), (1, .int x1), (2, .int x2), (3, .int x3)]) hx hb dX2_fewestDays_45 hl (k := 4) rfl rfl (by decide) rfl (fun ls hl => ?_)
        refine lv_goto (tgt := 3) hx hb dX2_fewestDays_48 (by decide) ?_
        exact hk3 u2.1 u2.2.1 u2.2.2.1 u2.2.2.2.1 u2.2.2.2.2 x1 x2 x3 (x4 + 1) hf H locs ls hP hD hS (lv_sub hl [1, 2, 3, 4, 0] rfl)
      · have hc5 : ¬ (u3 * (16 : Int64)) < (x3.toInt64 * u4) := fun h9 => hc5 (lc_lt.mpr h9)
        have hf := iff_ hf hc5
        refine lv_iload hx hb dX2_fewestDays_42 (lv_at hl 4 rfl) ?_
        exact rq_i C0 (u2.1, u2.2.1, u2.2.2.1, u2.2.2.2.1, u2.2.2.2.2) (pr_2 hf) hP hD hS dX2_fewestDays_44

set_option maxHeartbeats 4000000 in
set_option maxRecDepth 100000 in
theorem c_X2_fewestDays (l : Launch) (D : va_G) (cy : Nat → ClassId) (qPa : Nat → Nat) (Pa_sailMiles : Nat → Int32) (Pa_weights : Nat → Int32) (Pa_chance : Nat → Int64) (Pa_burnt : Nat → Int64) (Pa_engineMiles : Int32) (Pa_daysReckoned : Int32) (Pa_milesReckoned : Int32) (Pa_coalReckoned : Int32) (sz : Nat) (x1 : Int32) (x2 : Int32) (x3 : Int32) (X : Int32 × (Nat → Int64) × (Nat → Int64) × (Int32) × (Int32) × (Int32)) (hf : f_X2_fewestDays Pa_sailMiles Pa_weights Pa_chance Pa_burnt Pa_engineMiles Pa_daysReckoned Pa_milesReckoned Pa_coalReckoned x1 x2 x3 = some X) : Met l yX2_fewestDays wsX2_fewestDays ({ frames := 6, cells := 0, slots := 0, locals := 149 } : Room) (va_Pc [.ref (qPa 0), .int x1, .int x2, .int x3] (PW D cy (wX2 cy qPa Pa_sailMiles Pa_weights Pa_chance Pa_burnt Pa_engineMiles Pa_daysReckoned Pa_milesReckoned Pa_coalReckoned) sz)) (va_Qi (fun (r : Int32) (u : (Nat → Int64) × (Nat → Int64) × (Int32) × (Int32) × (Int32)) => r = X.1 ∧ u = X.2) (fun u t => BW D cy (va_A (wX2 cy qPa Pa_sailMiles Pa_weights Pa_chance Pa_burnt Pa_engineMiles Pa_daysReckoned Pa_milesReckoned Pa_coalReckoned) sz) (wX2 cy qPa Pa_sailMiles Pa_weights u.1 u.2.1 Pa_engineMiles u.2.2.1 u.2.2.2.1 u.2.2.2.2) t) (va_A (wX2 cy qPa Pa_sailMiles Pa_weights Pa_chance Pa_burnt Pa_engineMiles Pa_daysReckoned Pa_milesReckoned Pa_coalReckoned) sz)) 0 0 (va_A (wX2 cy qPa Pa_sailMiles Pa_weights Pa_chance Pa_burnt Pa_engineMiles Pa_daysReckoned Pa_milesReckoned Pa_coalReckoned) sz) := by
  refine met_enter (Qc := fun A => (va_Qi (fun (r : Int32) (u : (Nat → Int64) × (Nat → Int64) × (Int32) × (Int32) × (Int32)) => r = X.1 ∧ u = X.2) (fun u t => BW D cy A (wX2 cy qPa Pa_sailMiles Pa_weights u.1 u.2.1 Pa_engineMiles u.2.2.1 u.2.2.2.1 u.2.2.2.2) t) A)) (lv0 := [(0, .ref (qPa 0)), (1, .int x1), (2, .int x2), (3, .int x3)]) (by decide) rfl (Nat.le_of_ble_eq_true rfl) rfl ?_
  intro p e s m below meth c A ls hnm C0 hP hD hS hl
  generalize hH : s.heap = H at hP ⊢
  generalize hLoc : ([] : List Loc) = locs at hS ⊢
  have hS : va_S A s.heap H locs := by rw [← hH]; exact hS
  have C0 : CX cX2_fewestDays 5 (some .int) RX2 wsX2_fewestDays D cy p s m _ meth c A := C0
  obtain ⟨hx, hb, hr, hml, hown, hts, hK, hA, hN, hlocks⟩ := id C0
  unfold f_X2_fewestDays at hf
  refine lv_iconst (v := (0 : Int32)) hx hb dX2_fewestDays_0 (by decide) ?_
  refine lv_istore (lv' := [(4, .int (0 : Int32)), (0, .ref (qPa 0)), (1, .int x1), (2, .int x2), (3, .int x3)]) hx hb dX2_fewestDays_1 hl (by decide) rfl (fun ls hl => ?_)
  exact w_X2_fewestDays_3 C0  FU Pa_chance Pa_burnt Pa_daysReckoned Pa_milesReckoned Pa_coalReckoned x1 x2 x3 (0 : Int32) hf H locs ls hP hD hS (lv_sub hl [1, 2, 3, 4, 0] rfl)

set_option maxHeartbeats 4000000 in
set_option maxRecDepth 100000 in
theorem c_X2_bestChoice (l : Launch) (D : va_G) (cy : Nat → ClassId) (qPa : Nat → Nat) (Pa_sailMiles : Nat → Int32) (Pa_weights : Nat → Int32) (Pa_chance : Nat → Int64) (Pa_burnt : Nat → Int64) (Pa_engineMiles : Int32) (Pa_daysReckoned : Int32) (Pa_milesReckoned : Int32) (Pa_coalReckoned : Int32) (sz : Nat) (x1 : Int32) (x2 : Int32) (x3 : Int32) (x4 : Int32) (X : Int32) (hf : f_X2_bestChoice Pa_sailMiles Pa_chance Pa_burnt Pa_engineMiles x1 x2 x3 x4 = some X) : Met l yX2_bestChoice wsX2_bestChoice ({ frames := 3, cells := 0, slots := 0, locals := 70 } : Room) (va_Pc [.ref (qPa 0), .int x1, .int x2, .int x3, .int x4] (PW D cy (wX2 cy qPa Pa_sailMiles Pa_weights Pa_chance Pa_burnt Pa_engineMiles Pa_daysReckoned Pa_milesReckoned Pa_coalReckoned) sz)) (va_Qi (fun (r : Int32) (_ : Unit) => r = X) (fun u t => BW D cy (va_A (wX2 cy qPa Pa_sailMiles Pa_weights Pa_chance Pa_burnt Pa_engineMiles Pa_daysReckoned Pa_milesReckoned Pa_coalReckoned) sz) (wX2 cy qPa Pa_sailMiles Pa_weights Pa_chance Pa_burnt Pa_engineMiles Pa_daysReckoned Pa_milesReckoned Pa_coalReckoned) t) (va_A (wX2 cy qPa Pa_sailMiles Pa_weights Pa_chance Pa_burnt Pa_engineMiles Pa_daysReckoned Pa_milesReckoned Pa_coalReckoned) sz)) 0 0 (va_A (wX2 cy qPa Pa_sailMiles Pa_weights Pa_chance Pa_burnt Pa_engineMiles Pa_daysReckoned Pa_milesReckoned Pa_coalReckoned) sz) := by
  refine met_enter (Qc := fun A => (va_Qi (fun (r : Int32) (_ : Unit) => r = X) (fun u t => BW D cy A (wX2 cy qPa Pa_sailMiles Pa_weights Pa_chance Pa_burnt Pa_engineMiles Pa_daysReckoned Pa_milesReckoned Pa_coalReckoned) t) A)) (lv0 := [(0, .ref (qPa 0)), (1, .int x1), (2, .int x2), (3, .int x3), (4, .int x4)]) (by decide) rfl (Nat.le_of_ble_eq_true rfl) rfl ?_
  intro p e s m below meth c A ls hnm C0 hP hD hS hl
  generalize hH : s.heap = H at hP ⊢
  generalize hLoc : ([] : List Loc) = locs at hS ⊢
  have hS : va_S A s.heap H locs := by rw [← hH]; exact hS
  have C0 : CX cX2_bestChoice 7 (some .int) RX2 wsX2_bestChoice D cy p s m _ meth c A := C0
  obtain ⟨hx, hb, hr, hml, hown, hts, hK, hA, hN, hlocks⟩ := id C0
  unfold f_X2_bestChoice at hf
  refine lv_aload_n hx hb dX2_bestChoice_0 rfl (lv_at hl 0 rfl) ?_
  refine lv_iload_n hx hb dX2_bestChoice_1 rfl (lv_at hl 1 rfl) ?_
  refine lv_iload_n hx hb dX2_bestChoice_2 rfl (lv_at hl 2 rfl) ?_
  refine lv_iload_n hx hb dX2_bestChoice_3 rfl (lv_at hl 3 rfl) ?_
  obtain ⟨u1, eu1, hf⟩ := Option.bind_eq_some_iff.mp hf
  refine cq_i (wc' := fun (u : Unit) => (wX2 cy qPa Pa_sailMiles Pa_weights Pa_chance Pa_burnt Pa_engineMiles Pa_daysReckoned Pa_milesReckoned Pa_coalReckoned)) (ws' := fun (u : Unit) => (wX2 cy qPa Pa_sailMiles Pa_weights Pa_chance Pa_burnt Pa_engineMiles Pa_daysReckoned Pa_milesReckoned Pa_coalReckoned)) (wc := (wX2 cy qPa Pa_sailMiles Pa_weights Pa_chance Pa_burnt Pa_engineMiles Pa_daysReckoned Pa_milesReckoned Pa_coalReckoned)) (wr := ([] : va_W)) C0 hP hD hS [0, 1, 2, 3, 4] [] [0, 1, 2, 3, 4] rfl rfl (by decide) (by decide) (by decide) (fun _ => rfl) (va_runV (As := [.int x1, .int x2, .int x3]) (rest := []) ⟨hx, hb, hml, hown, hts⟩ (c_X2_calmChoice l D cy qPa Pa_sailMiles Pa_weights Pa_chance Pa_burnt Pa_engineMiles Pa_daysReckoned Pa_milesReckoned Pa_coalReckoned H.size x1 x2 x3 u1 eu1) (cwV 3 hts gX2_bestChoice_X2_calmChoice rfl rfl rfl (by decide +kernel) ⟨Nat.le_of_ble_eq_true rfl, Nat.le_of_ble_eq_true rfl⟩) (pre_V (hP.sub (ws' := (wX2 cy qPa Pa_sailMiles Pa_weights Pa_chance Pa_burnt Pa_engineMiles Pa_daysReckoned Pa_milesReckoned Pa_coalReckoned)) [0, 1, 2, 3, 4] rfl) hK (hD.sub (ws' := (wX2 cy qPa Pa_sailMiles Pa_weights Pa_chance Pa_burnt Pa_engineMiles Pa_daysReckoned Pa_milesReckoned Pa_coalReckoned)) [0, 1, 2, 3, 4] (by decide) rfl) hN 2 0 rfl rfl) rfl rfl hl.1 rfl (lv_room (Nat.le_of_ble_eq_true rfl)) dX2_bestChoice_4 ⟨Nat.zero_le _, Nat.zero_le _⟩) (fun r u H locs hw hP hD hS => ?_)
  have hw := hw.symm
  subst hw
  have hP : va_P D vwCl (wX2 cy qPa Pa_sailMiles Pa_weights Pa_chance Pa_burnt Pa_engineMiles Pa_daysReckoned Pa_milesReckoned Pa_coalReckoned) H := hP
  have hD : va_D A (wX2 cy qPa Pa_sailMiles Pa_weights Pa_chance Pa_burnt Pa_engineMiles Pa_daysReckoned Pa_milesReckoned Pa_coalReckoned) := hD
  refine lv_istore (lv' := [(5, .int u1), (0, .ref (qPa 0)), (1, .int x1), (2, .int x2), (3, .int x3), (4, .int x4)]) hx hb dX2_bestChoice_7 hl (by decide) rfl (fun ls hl => ?_)
  refine lv_aload_n hx hb dX2_bestChoice_9 rfl (lv_at hl 1 rfl) ?_
  refine lv_aload_n hx hb dX2_bestChoice_10 rfl (lv_at hl 1 rfl) ?_
  refine lv_iload hx hb dX2_bestChoice_11 (lv_at hl 0 rfl) ?_
  refine lv_iload_n hx hb dX2_bestChoice_13 rfl (lv_at hl 2 rfl) ?_
  refine lv_iload_n hx hb dX2_bestChoice_14 rfl (lv_at hl 3 rfl) ?_
  refine lv_iload_n hx hb dX2_bestChoice_15 rfl (lv_at hl 4 rfl) ?_
  obtain ⟨u2, eu2, hf⟩ := Option.bind_eq_some_iff.mp hf
  refine cq_i (wc' := fun (u : Unit) => (wX2 cy qPa Pa_sailMiles Pa_weights Pa_chance Pa_burnt Pa_engineMiles Pa_daysReckoned Pa_milesReckoned Pa_coalReckoned)) (ws' := fun (u : Unit) => (wX2 cy qPa Pa_sailMiles Pa_weights Pa_chance Pa_burnt Pa_engineMiles Pa_daysReckoned Pa_milesReckoned Pa_coalReckoned)) (wc := (wX2 cy qPa Pa_sailMiles Pa_weights Pa_chance Pa_burnt Pa_engineMiles Pa_daysReckoned Pa_milesReckoned Pa_coalReckoned)) (wr := ([] : va_W)) C0 hP hD hS [0, 1, 2, 3, 4] [] [0, 1, 2, 3, 4] rfl rfl (by decide) (by decide) (by decide) (fun _ => rfl) (va_runV (As := [.int u1, .int x1, .int x2, .int x3]) (rest := [.ref (qPa 0)]) ⟨hx, hb, hml, hown, hts⟩ (c_X2_afterCalm l D cy qPa Pa_sailMiles Pa_weights Pa_chance Pa_burnt Pa_engineMiles Pa_daysReckoned Pa_milesReckoned Pa_coalReckoned H.size u1 x1 x2 x3 u2 eu2) (cwV 4 hts gX2_bestChoice_X2_afterCalm rfl rfl rfl (by decide +kernel) ⟨Nat.le_of_ble_eq_true rfl, Nat.le_of_ble_eq_true rfl⟩) (pre_V (hP.sub (ws' := (wX2 cy qPa Pa_sailMiles Pa_weights Pa_chance Pa_burnt Pa_engineMiles Pa_daysReckoned Pa_milesReckoned Pa_coalReckoned)) [0, 1, 2, 3, 4] rfl) hK (hD.sub (ws' := (wX2 cy qPa Pa_sailMiles Pa_weights Pa_chance Pa_burnt Pa_engineMiles Pa_daysReckoned Pa_milesReckoned Pa_coalReckoned)) [0, 1, 2, 3, 4] (by decide) rfl) hN 2 0 rfl rfl) rfl rfl hl.1 rfl (lv_room (Nat.le_of_ble_eq_true rfl)) dX2_bestChoice_16 ⟨Nat.zero_le _, Nat.zero_le _⟩) (fun r u H locs hw hP hD hS => ?_)
  have hw := hw.symm
  subst hw
  have hP : va_P D vwCl (wX2 cy qPa Pa_sailMiles Pa_weights Pa_chance Pa_burnt Pa_engineMiles Pa_daysReckoned Pa_milesReckoned Pa_coalReckoned) H := hP
  have hD : va_D A (wX2 cy qPa Pa_sailMiles Pa_weights Pa_chance Pa_burnt Pa_engineMiles Pa_daysReckoned Pa_milesReckoned Pa_coalReckoned) := hD
  refine lv_iload hx hb dX2_bestChoice_19 (lv_at hl 0 rfl) ?_
  refine lv_iload_n hx hb dX2_bestChoice_21 rfl (lv_at hl 2 rfl) ?_
  obtain ⟨u3, eu3, hf⟩ := Option.bind_eq_some_iff.mp hf
  refine cq_l (wc' := fun (u : Unit) => ([] : va_W)) (ws' := fun (u : Unit) => (wX2 cy qPa Pa_sailMiles Pa_weights Pa_chance Pa_burnt Pa_engineMiles Pa_daysReckoned Pa_milesReckoned Pa_coalReckoned)) (wc := ([] : va_W)) (wr := (wX2 cy qPa Pa_sailMiles Pa_weights Pa_chance Pa_burnt Pa_engineMiles Pa_daysReckoned Pa_milesReckoned Pa_coalReckoned)) C0 hP hD hS [] [0, 1, 2, 3, 4] [0, 1, 2, 3, 4] rfl rfl (by decide) (by decide) (by decide) (fun _ => rfl) (va_runS (As := [.int u1, .int x1]) (rest := [.int u2, .ref (qPa 0)]) ⟨hx, hb, hml, hown, hts⟩ (c_X2_fuel l D cy   H.size u1 x1 u3 eu3) (va_cwS 2 hts gX2_bestChoice_X2_fuel rfl rfl rfl (by decide +kernel) ⟨Nat.le_of_ble_eq_true rfl, Nat.le_of_ble_eq_true rfl⟩) (pre_S (hP.sub (ws' := ([] : va_W)) [] rfl) hK (hD.sub (ws' := ([] : va_W)) [] (by decide) rfl) hN) rfl rfl hl.1 rfl (lv_room (Nat.le_of_ble_eq_true rfl)) dX2_bestChoice_22 ⟨Nat.zero_le _, Nat.zero_le _⟩) (fun r u H locs hw hP hD hS => ?_)
  have hw := hw.symm
  subst hw
  have hP : va_P D vwCl (wX2 cy qPa Pa_sailMiles Pa_weights Pa_chance Pa_burnt Pa_engineMiles Pa_daysReckoned Pa_milesReckoned Pa_coalReckoned) H := hP
  have hD : va_D A (wX2 cy qPa Pa_sailMiles Pa_weights Pa_chance Pa_burnt Pa_engineMiles Pa_daysReckoned Pa_milesReckoned Pa_coalReckoned) := hD
  refine lv_aload_n hx hb dX2_bestChoice_25 rfl (lv_at hl 1 rfl) ?_
  refine lv_iload_n hx hb dX2_bestChoice_26 rfl (lv_at hl 2 rfl) ?_
  refine lv_iload_n hx hb dX2_bestChoice_27 rfl (lv_at hl 3 rfl) ?_
  refine lv_iload_n hx hb dX2_bestChoice_28 rfl (lv_at hl 4 rfl) ?_
  refine lv_iload hx hb dX2_bestChoice_29 (lv_at hl 5 rfl) ?_
  obtain ⟨u4, eu4, hf⟩ := Option.bind_eq_some_iff.mp hf
  refine cq_i (wc' := fun (u : Unit) => (wX2 cy qPa Pa_sailMiles Pa_weights Pa_chance Pa_burnt Pa_engineMiles Pa_daysReckoned Pa_milesReckoned Pa_coalReckoned)) (ws' := fun (u : Unit) => (wX2 cy qPa Pa_sailMiles Pa_weights Pa_chance Pa_burnt Pa_engineMiles Pa_daysReckoned Pa_milesReckoned Pa_coalReckoned)) (wc := (wX2 cy qPa Pa_sailMiles Pa_weights Pa_chance Pa_burnt Pa_engineMiles Pa_daysReckoned Pa_milesReckoned Pa_coalReckoned)) (wr := ([] : va_W)) C0 hP hD hS [0, 1, 2, 3, 4] [] [0, 1, 2, 3, 4] rfl rfl (by decide) (by decide) (by decide) (fun _ => rfl) (va_runV (As := [.int x1, .int x2, .int x3, .int x4]) (rest := [.long u3, .int u2, .ref (qPa 0)]) ⟨hx, hb, hml, hown, hts⟩ (c_X2_afterSails l D cy qPa Pa_sailMiles Pa_weights Pa_chance Pa_burnt Pa_engineMiles Pa_daysReckoned Pa_milesReckoned Pa_coalReckoned H.size x1 x2 x3 x4 u4 eu4) (cwV 4 hts gX2_bestChoice_X2_afterSails rfl rfl rfl (by decide +kernel) ⟨Nat.le_of_ble_eq_true rfl, Nat.le_of_ble_eq_true rfl⟩) (pre_V (hP.sub (ws' := (wX2 cy qPa Pa_sailMiles Pa_weights Pa_chance Pa_burnt Pa_engineMiles Pa_daysReckoned Pa_milesReckoned Pa_coalReckoned)) [0, 1, 2, 3, 4] rfl) hK (hD.sub (ws' := (wX2 cy qPa Pa_sailMiles Pa_weights Pa_chance Pa_burnt Pa_engineMiles Pa_daysReckoned Pa_milesReckoned Pa_coalReckoned)) [0, 1, 2, 3, 4] (by decide) rfl) hN 2 0 rfl rfl) rfl rfl hl.1 rfl (lv_room (Nat.le_of_ble_eq_true rfl)) dX2_bestChoice_31 ⟨Nat.zero_le _, Nat.zero_le _⟩) (fun r u H locs hw hP hD hS => ?_)
  have hw := hw.symm
  subst hw
  have hP : va_P D vwCl (wX2 cy qPa Pa_sailMiles Pa_weights Pa_chance Pa_burnt Pa_engineMiles Pa_daysReckoned Pa_milesReckoned Pa_coalReckoned) H := hP
  have hD : va_D A (wX2 cy qPa Pa_sailMiles Pa_weights Pa_chance Pa_burnt Pa_engineMiles Pa_daysReckoned Pa_milesReckoned Pa_coalReckoned) := hD
  refine lv_lconst (v := (0 : Int64)) hx hb dX2_bestChoice_34 (by decide) ?_
  obtain ⟨u5, eu5, hf⟩ := Option.bind_eq_some_iff.mp hf
  refine cq_i (wc' := fun (u : Unit) => (wX2 cy qPa Pa_sailMiles Pa_weights Pa_chance Pa_burnt Pa_engineMiles Pa_daysReckoned Pa_milesReckoned Pa_coalReckoned)) (ws' := fun (u : Unit) => (wX2 cy qPa Pa_sailMiles Pa_weights Pa_chance Pa_burnt Pa_engineMiles Pa_daysReckoned Pa_milesReckoned Pa_coalReckoned)) (wc := (wX2 cy qPa Pa_sailMiles Pa_weights Pa_chance Pa_burnt Pa_engineMiles Pa_daysReckoned Pa_milesReckoned Pa_coalReckoned)) (wr := ([] : va_W)) C0 hP hD hS [0, 1, 2, 3, 4] [] [0, 1, 2, 3, 4] rfl rfl (by decide) (by decide) (by decide) (fun _ => rfl) (va_runV (As := [.int u2, .long u3, .int u4, .long (0 : Int64)]) (rest := []) ⟨hx, hb, hml, hown, hts⟩ (c_X2_isBetter l D cy qPa Pa_sailMiles Pa_weights Pa_chance Pa_burnt Pa_engineMiles Pa_daysReckoned Pa_milesReckoned Pa_coalReckoned H.size u2 u3 u4 (0 : Int64) u5 eu5) (cwV 4 hts gX2_bestChoice_X2_isBetter rfl rfl rfl (by decide +kernel) ⟨Nat.le_of_ble_eq_true rfl, Nat.le_of_ble_eq_true rfl⟩) (pre_V (hP.sub (ws' := (wX2 cy qPa Pa_sailMiles Pa_weights Pa_chance Pa_burnt Pa_engineMiles Pa_daysReckoned Pa_milesReckoned Pa_coalReckoned)) [0, 1, 2, 3, 4] rfl) hK (hD.sub (ws' := (wX2 cy qPa Pa_sailMiles Pa_weights Pa_chance Pa_burnt Pa_engineMiles Pa_daysReckoned Pa_milesReckoned Pa_coalReckoned)) [0, 1, 2, 3, 4] (by decide) rfl) hN 2 0 rfl rfl) rfl rfl hl.1 rfl (lv_room (Nat.le_of_ble_eq_true rfl)) dX2_bestChoice_35 ⟨Nat.zero_le _, Nat.zero_le _⟩) (fun r u H locs hw hP hD hS => ?_)
  have hw := hw.symm
  subst hw
  have hP : va_P D vwCl (wX2 cy qPa Pa_sailMiles Pa_weights Pa_chance Pa_burnt Pa_engineMiles Pa_daysReckoned Pa_milesReckoned Pa_coalReckoned) H := hP
  have hD : va_D A (wX2 cy qPa Pa_sailMiles Pa_weights Pa_chance Pa_burnt Pa_engineMiles Pa_daysReckoned Pa_milesReckoned Pa_coalReckoned) := hD
  refine lv_istore (lv' := [(6, .int u5), (5, .int u1), (0, .ref (qPa 0)), (1, .int x1), (2, .int x2), (3, .int x3), (4, .int x4)]) hx hb dX2_bestChoice_38 hl (by decide) rfl (fun ls hl => ?_)
  refine lv_iload hx hb dX2_bestChoice_40 (lv_at hl 0 rfl) ?_
  refine lv_if_eq (tgt := 50) hx hb dX2_bestChoice_42 (by decide) (fun hc6 => ?_) (fun hc6 => ?_)
  · have hf := ift hf hc6
    refine lv_iconst (v := (0 : Int32)) hx hb dX2_bestChoice_50 (by decide) ?_
    exact rq_i C0 () (Option.some.inj hf) hP hD hS dX2_bestChoice_51
  · have hf := iff_ hf hc6
    refine lv_iload hx hb dX2_bestChoice_45 (lv_at hl 1 rfl) ?_
    refine lv_goto (tgt := 51) hx hb dX2_bestChoice_47 (by decide) ?_
    exact rq_i C0 () (Option.some.inj hf) hP hD hS dX2_bestChoice_51

