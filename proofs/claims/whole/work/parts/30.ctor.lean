/-! new arrays of the known array classes; constructors -/
theorem cy_eq {D : va_G} {cy : Nat → ClassId} {s : State} {cA : ClassId} {ty : FieldType} {k : Nat} (hK : va_K D vwCl (tyL cy ++ [(cA, ty)]) s) (hk : (tyL cy)[k]? = some (cy k, ty)) (hty : ty = .int ∨ ty = .long ∨ ty = .boolean) : cA = cy k := by
  have h1 := (hK.2 3 (cA, ty) rfl).2
  have h2 : va_RA s (cy k) ty := by
    refine (hK.2 k (cy k, ty) ?_).2
    rw [List.getElem?_append_left]
    · exact hk
    · exact (List.getElem?_eq_some_iff.mp hk).1
  rcases hty with rfl | rfl | rfl
  · exact Option.some.inj ((show s.vm.findClass _ = some cA from h1).symm.trans (show s.vm.findClass _ = some (cy k) from h2))
  · exact Option.some.inj ((show s.vm.findClass _ = some cA from h1).symm.trans (show s.vm.findClass _ = some (cy k) from h2))
  · exact Option.some.inj ((show s.vm.findClass _ = some cA from h1).symm.trans (show s.vm.findClass _ = some (cy k) from h2))
section NEWA
variable {p : Program} {l : Launch} {e : Env} {R : Room} {s : State} {m : MethodId} {args : Array Value} {below : List Frame} {meth : Method} {c : Code} {H : Heap} {locs : List Loc} {cells slots : Nat} {Q : State → Prop}
variable {cc : ByteArray} {mL : Nat} {ret : Option FieldType} {own : String} {Ts : List Cond} {D : va_G} {cy : Nat → ClassId} {A : Nat → Prop} {pc : Nat} {ls : Array Slot} {rest : List Value} {ws : va_W}
theorem na_i (C0 : CX cc mL ret own Ts D cy p s m args meth c A) (harr : (Cond.arrayClass .int).before args s = true) (hP : va_P D vwCl ws H) (hD : va_D A ws) (hS : va_S A s.heap H locs) {n : Int32} {N : Nat} (hn : ¬ n < 0) (hN : n.toNatClampNeg = N) (hby : N * componentBytes .int ≤ 536870912) (hc : cells + 1 ≤ R.cells) (hs : slots + N ≤ R.slots) (hdg : decode cc pc = .ok (.newarray .int, 2))
    (kk : ∀ (q : Nat) (H1 : Heap), va_P D vwCl (ws ++ [(q, .inl (cy 0, N, .inl (fun _ => 0)))]) H1 → va_D A (ws ++ [(q, .inl (cy 0, N, .inl (fun _ => 0)))]) → va_S A s.heap H1 locs → W p l e R s m args below meth c H1 locs (cells + 1) (slots + N) Q (F0 m (pc + 2) ls (.ref q :: rest))) : W p l e R s m args below meth c H locs cells slots Q (F0 m pc ls (.int n :: rest)) := by
  obtain ⟨hx, hb, -, -, -, -, hK, hA, -, -⟩ := C0
  refine va_newa (atype := .int) (ty := .int) (a0 := (N, .inl (fun _ => 0))) hx hb harr rfl hK hP hD hS hA (fun _ => rfl) hn hN hby hc hs hdg (fun q cA H1 hK1 hP1 hD1 hS1 => ?_)
  have e := cy_eq (k := 0) hK1 rfl (Or.inl rfl)
  subst e
  exact kk q H1 hP1 hD1 hS1
theorem na_j (C0 : CX cc mL ret own Ts D cy p s m args meth c A) (harr : (Cond.arrayClass .long).before args s = true) (hP : va_P D vwCl ws H) (hD : va_D A ws) (hS : va_S A s.heap H locs) {n : Int32} {N : Nat} (hn : ¬ n < 0) (hN : n.toNatClampNeg = N) (hby : N * componentBytes .long ≤ 536870912) (hc : cells + 1 ≤ R.cells) (hs : slots + N ≤ R.slots) (hdg : decode cc pc = .ok (.newarray .long, 2))
    (kk : ∀ (q : Nat) (H1 : Heap), va_P D vwCl (ws ++ [(q, .inl (cy 1, N, .inr (.inl (fun _ => 0))))]) H1 → va_D A (ws ++ [(q, .inl (cy 1, N, .inr (.inl (fun _ => 0))))]) → va_S A s.heap H1 locs → W p l e R s m args below meth c H1 locs (cells + 1) (slots + N) Q (F0 m (pc + 2) ls (.ref q :: rest))) : W p l e R s m args below meth c H locs cells slots Q (F0 m pc ls (.int n :: rest)) := by
  obtain ⟨hx, hb, -, -, -, -, hK, hA, -, -⟩ := C0
  refine va_newa (atype := .long) (ty := .long) (a0 := (N, .inr (.inl (fun _ => 0)))) hx hb harr rfl hK hP hD hS hA (fun _ => rfl) hn hN hby hc hs hdg (fun q cA H1 hK1 hP1 hD1 hS1 => ?_)
  have e := cy_eq (k := 1) hK1 rfl (Or.inr (Or.inl rfl))
  subst e
  exact kk q H1 hP1 hD1 hS1
theorem na_z (C0 : CX cc mL ret own Ts D cy p s m args meth c A) (harr : (Cond.arrayClass .boolean).before args s = true) (hP : va_P D vwCl ws H) (hD : va_D A ws) (hS : va_S A s.heap H locs) {n : Int32} {N : Nat} (hn : ¬ n < 0) (hN : n.toNatClampNeg = N) (hby : N * componentBytes .boolean ≤ 536870912) (hc : cells + 1 ≤ R.cells) (hs : slots + N ≤ R.slots) (hdg : decode cc pc = .ok (.newarray .boolean, 2))
    (kk : ∀ (q : Nat) (H1 : Heap), va_P D vwCl (ws ++ [(q, .inl (cy 2, N, .inl (fun _ => 0)))]) H1 → va_D A (ws ++ [(q, .inl (cy 2, N, .inl (fun _ => 0)))]) → va_S A s.heap H1 locs → W p l e R s m args below meth c H1 locs (cells + 1) (slots + N) Q (F0 m (pc + 2) ls (.ref q :: rest))) : W p l e R s m args below meth c H locs cells slots Q (F0 m pc ls (.int n :: rest)) := by
  obtain ⟨hx, hb, -, -, -, -, hK, hA, -, -⟩ := C0
  refine va_newa (atype := .boolean) (ty := .boolean) (a0 := (N, .inl (fun _ => 0))) hx hb harr rfl hK hP hD hS hA (fun _ => rfl) hn hN hby hc hs hdg (fun q cA H1 hK1 hP1 hD1 hS1 => ?_)
  have e := cy_eq (k := 2) hK1 rfl (Or.inr (Or.inr rfl))
  subst e
  exact kk q H1 hP1 hD1 hS1
end NEWA
def f_X0_init_54   (kh54 : (Nat → Int32) → (Nat → Int32) → (Nat → Int32) → (Nat → Int32) → (Nat → Int32) → (Nat → Int32) → (Int32) → (Int32) → Int32 → Option ((Nat → Int32) × (Nat → Int32) × (Nat → Int32) × (Nat → Int32) × (Nat → Int32) × (Nat → Int32) × (Int32) × (Int32))) (Hb_berthsOf : Nat → Int32) (Hb_port : Nat → Int32) (Hb_berth : Nat → Int32) (Hb_first : Nat → Int32) (Hb_last : Nat → Int32) (Hb_isGivenUp : Nat → Int32) (Hb_told : Int32) (Hb_held : Int32) (x1 : Int32) : Option ((Nat → Int32) × (Nat → Int32) × (Nat → Int32) × (Nat → Int32) × (Nat → Int32) × (Nat → Int32) × (Int32) × (Int32)) :=
  (if (6 : Int32) ≤ x1 then (some (Hb_berthsOf, Hb_port, Hb_berth, Hb_first, Hb_last, Hb_isGivenUp, Hb_told, Hb_held)) else (if inb x1 6 then (kh54 (upd Hb_berthsOf x1.toNatClampNeg (1 : Int32)) Hb_port Hb_berth Hb_first Hb_last Hb_isGivenUp Hb_told Hb_held (x1 + 1)) else none))
def g_X0_init_54   (n : Nat) (Hb_berthsOf : Nat → Int32) (Hb_port : Nat → Int32) (Hb_berth : Nat → Int32) (Hb_first : Nat → Int32) (Hb_last : Nat → Int32) (Hb_isGivenUp : Nat → Int32) (Hb_told : Int32) (Hb_held : Int32) (x1 : Int32) : Option ((Nat → Int32) × (Nat → Int32) × (Nat → Int32) × (Nat → Int32) × (Nat → Int32) × (Nat → Int32) × (Int32) × (Int32)) := lp (fun (k : (Nat → Int32) × (Nat → Int32) × (Nat → Int32) × (Nat → Int32) × (Nat → Int32) × (Nat → Int32) × (Int32) × (Int32) × Int32 → Option ((Nat → Int32) × (Nat → Int32) × (Nat → Int32) × (Nat → Int32) × (Nat → Int32) × (Nat → Int32) × (Int32) × (Int32))) (a : (Nat → Int32) × (Nat → Int32) × (Nat → Int32) × (Nat → Int32) × (Nat → Int32) × (Nat → Int32) × (Int32) × (Int32) × Int32) => f_X0_init_54  (fun Hb_berthsOf Hb_port Hb_berth Hb_first Hb_last Hb_isGivenUp Hb_told Hb_held x1 => k (Hb_berthsOf, Hb_port, Hb_berth, Hb_first, Hb_last, Hb_isGivenUp, Hb_told, Hb_held, x1)) a.1 a.2.1 a.2.2.1 a.2.2.2.1 a.2.2.2.2.1 a.2.2.2.2.2.1 a.2.2.2.2.2.2.1 a.2.2.2.2.2.2.2.1 a.2.2.2.2.2.2.2.2) n (Hb_berthsOf, Hb_port, Hb_berth, Hb_first, Hb_last, Hb_isGivenUp, Hb_told, Hb_held, x1)
def f_X0_init : Option ((Nat → Int32) × (Nat → Int32) × (Nat → Int32) × (Nat → Int32) × (Nat → Int32) × (Nat → Int32) × (Int32) × (Int32)) :=
  (g_X0_init_54 FU (fun _ => (0 : Int32)) (fun _ => (0 : Int32)) (fun _ => (0 : Int32)) (fun _ => (0 : Int32)) (fun _ => (0 : Int32)) (fun _ => (0 : Int32)) (0 : Int32) (0 : Int32) (0 : Int32))
theorem i_X0_init_X0 : ∀ w ∈ wsX00, w ∈ wsX0_init := by decide +kernel
theorem m_X0_init_f11 : Cond.fieldLink RX0 11 "SailCargo$Harbour" "berthsOf" "[I" ∈ wsX0_init := by decide +kernel
theorem m_X0_init_o3 : Cond.methodLink RX0 3 objectInit ∈ wsX0_init := by decide +kernel
theorem m_X0_init_oi : Cond.instanceMethod objectInit ∈ wsX0_init := by decide +kernel
theorem m_X0_init_oc : Cond.code objectInit ⟨#[0xb1]⟩ 1 none ∈ wsX0_init := by decide +kernel
theorem m_X0_init_arint : Cond.arrayClass .int ∈ wsX0_init := by decide +kernel
theorem m_X0_init_f15 : Cond.fieldLink RX0 15 "SailCargo$Harbour" "port" "[I" ∈ wsX0_init := by decide +kernel
theorem m_X0_init_f18 : Cond.fieldLink RX0 18 "SailCargo$Harbour" "berth" "[I" ∈ wsX0_init := by decide +kernel
theorem m_X0_init_f21 : Cond.fieldLink RX0 21 "SailCargo$Harbour" "first" "[I" ∈ wsX0_init := by decide +kernel
theorem m_X0_init_f24 : Cond.fieldLink RX0 24 "SailCargo$Harbour" "last" "[I" ∈ wsX0_init := by decide +kernel
theorem m_X0_init_arboolean : Cond.arrayClass .boolean ∈ wsX0_init := by decide +kernel
theorem m_X0_init_f27 : Cond.fieldLink RX0 27 "SailCargo$Harbour" "isGivenUp" "[Z" ∈ wsX0_init := by decide +kernel
set_option maxHeartbeats 4000000 in
set_option maxRecDepth 100000 in
theorem w_X0_init_54 {p : Program} {l : Launch} {e : Env} {s : State} {m : MethodId} {args : Array Value} {below : List Frame} {meth : Method} {c : Code} {A : Nat → Prop} {D : va_G} {cy : Nat → ClassId} {qHb : Nat → Nat}  {X : (Nat → Int32) × (Nat → Int32) × (Nat → Int32) × (Nat → Int32) × (Nat → Int32) × (Nat → Int32) × (Int32) × (Int32)}  (C0 : CX cX0_init 2 none RX0 wsX0_init D cy p s m args meth c A)  : ∀ (n : Nat) (Hb_berthsOf : Nat → Int32) (Hb_port : Nat → Int32) (Hb_berth : Nat → Int32) (Hb_first : Nat → Int32) (Hb_last : Nat → Int32) (Hb_isGivenUp : Nat → Int32) (Hb_told : Int32) (Hb_held : Int32) (x1 : Int32), g_X0_init_54  n Hb_berthsOf Hb_port Hb_berth Hb_first Hb_last Hb_isGivenUp Hb_told Hb_held x1 = some X → ∀ (H : Heap) (locs : List Loc) (ls : Array Slot), va_P D vwCl (wX0 cy qHb Hb_berthsOf Hb_port Hb_berth Hb_first Hb_last Hb_isGivenUp Hb_told Hb_held) H → va_D A (wX0 cy qHb Hb_berthsOf Hb_port Hb_berth Hb_first Hb_last Hb_isGivenUp Hb_told Hb_held) → va_S A s.heap H locs → lv_has ls 2 [(0, .ref (qHb 0)), (1, .int x1)] → W p l e ({ frames := 1, cells := 6, slots := 306, locals := 16 } : Room) s m args below meth c H locs 6 306 (MQ below (va_Qv (fun (u : ((Nat → Int32) × (Nat → Int32) × (Nat → Int32) × (Nat → Int32) × (Nat → Int32) × (Nat → Int32) × (Int32) × (Int32)) × (Nat → Nat)) => u.1 = X ∧ u.2 0 = qHb 0) (fun u t => BW D cy A (wX0 cy u.2 u.1.1 u.1.2.1 u.1.2.2.1 u.1.2.2.2.1 u.1.2.2.2.2.1 u.1.2.2.2.2.2.1 u.1.2.2.2.2.2.2.1 u.1.2.2.2.2.2.2.2) t) A) args s 6 306 A) (F0 m 54 ls []) := by
  obtain ⟨hx, hb, hr, hml, hown, hts, hK, hA, hN, hlocks⟩ := id C0
  intro n
  induction n with
  | zero => intro Hb_berthsOf Hb_port Hb_berth Hb_first Hb_last Hb_isGivenUp Hb_told Hb_held x1 hf; exact (no_some hf).elim
  | succ n hk54 =>
    intro Hb_berthsOf Hb_port Hb_berth Hb_first Hb_last Hb_isGivenUp Hb_told Hb_held x1 hf H locs ls hP hD hS hl
    have hf : f_X0_init_54  (fun Hb_berthsOf Hb_port Hb_berth Hb_first Hb_last Hb_isGivenUp Hb_told Hb_held x1 => g_X0_init_54  n Hb_berthsOf Hb_port Hb_berth Hb_first Hb_last Hb_isGivenUp Hb_told Hb_held x1) Hb_berthsOf Hb_port Hb_berth Hb_first Hb_last Hb_isGivenUp Hb_told Hb_held x1 = some X := hf
    unfold f_X0_init_54 at hf
    refine lv_iload_n hx hb dX0_init_54 rfl (lv_at hl 1 rfl) ?_
    refine lv_bipush (v := (6 : Int32)) hx hb dX0_init_55 (by decide) ?_
    refine lv_icmp_ge (tgt := 73) hx hb dX0_init_57 (by decide) (fun hc1 => ?_) (fun hc1 => ?_)
    · have hf := ift hf hc1
      exact rq_v C0 ((Hb_berthsOf, Hb_port, Hb_berth, Hb_first, Hb_last, Hb_isGivenUp, Hb_told, Hb_held), qHb) ⟨Option.some.inj hf, rfl⟩ hP hD hS dX0_init_73
    · have hf := iff_ hf hc1
      refine lv_aload_n hx hb dX0_init_60 rfl (lv_at hl 0 rfl) ?_
      refine va_get (D := D) (ci := 0) (v := .ref (qHb 1)) (C := RX0) (T := TX0) (N := 8) hx hb hts i_X0_init_X0 hown hK hP 0 rfl rfl 0 (by decide) (hts _ m_X0_init_f11) (fun _ h9 => h9) rfl dX0_init_61 ?_
      refine lv_iload_n hx hb dX0_init_64 rfl (lv_at hl 1 rfl) ?_
      refine lv_iconst (v := (1 : Int32)) hx hb dX0_init_65 (by decide) ?_
      obtain ⟨hz2, hf⟩ := ifn hf
      refine va_iast hx hb hK hP hD hS 1 0 rfl rfl (inb_in hz2) dX0_init_66 (fun H locs hP hD hS => ?_)
      have hP : va_P D vwCl (wX0 cy qHb (upd Hb_berthsOf x1.toNatClampNeg (1 : Int32)) Hb_port Hb_berth Hb_first Hb_last Hb_isGivenUp Hb_told Hb_held) H := hP
      have hD : va_D A (wX0 cy qHb (upd Hb_berthsOf x1.toNatClampNeg (1 : Int32)) Hb_port Hb_berth Hb_first Hb_last Hb_isGivenUp Hb_told Hb_held) := hD
      refine lv_iinc (v := (x1 + 1)) (lv' := [(1, .int (x1 + 1)), (0, .ref (qHb 0))]) hx hb dX0_init_67 hl (k := 1) rfl rfl (by decide) rfl (fun ls hl => ?_)
      refine lv_goto (tgt := 54) hx hb dX0_init_70 (by decide) ?_
      exact hk54 (upd Hb_berthsOf x1.toNatClampNeg (1 : Int32)) Hb_port Hb_berth Hb_first Hb_last Hb_isGivenUp Hb_told Hb_held (x1 + 1) hf H locs ls hP hD hS (lv_sub hl [1, 0] rfl)

set_option maxHeartbeats 4000000 in
set_option maxRecDepth 100000 in
theorem c_X0_init (l : Launch) (D : va_G) (cy : Nat → ClassId) (h0 : Nat) (sz : Nat) (X : (Nat → Int32) × (Nat → Int32) × (Nat → Int32) × (Nat → Int32) × (Nat → Int32) × (Nat → Int32) × (Int32) × (Int32)) (hf : f_X0_init = some X) : Met l yX0_init wsX0_init ({ frames := 1, cells := 6, slots := 306, locals := 16 } : Room) (va_Pc [.ref h0] (PW D cy [(h0, .inr (0, [.null, .null, .null, .null, .null, .null, .int 0, .int 0]))] sz)) (va_Qv (fun (u : ((Nat → Int32) × (Nat → Int32) × (Nat → Int32) × (Nat → Int32) × (Nat → Int32) × (Nat → Int32) × (Int32) × (Int32)) × (Nat → Nat)) => u.1 = X ∧ u.2 0 = h0) (fun u t => BW D cy (va_A [(h0, .inr (0, [.null, .null, .null, .null, .null, .null, .int 0, .int 0]))] sz) (wX0 cy u.2 u.1.1 u.1.2.1 u.1.2.2.1 u.1.2.2.2.1 u.1.2.2.2.2.1 u.1.2.2.2.2.2.1 u.1.2.2.2.2.2.2.1 u.1.2.2.2.2.2.2.2) t) (va_A [(h0, .inr (0, [.null, .null, .null, .null, .null, .null, .int 0, .int 0]))] sz)) 6 306 (va_A [(h0, .inr (0, [.null, .null, .null, .null, .null, .null, .int 0, .int 0]))] sz) := by
  refine met_enter (Qc := fun A => (va_Qv (fun (u : ((Nat → Int32) × (Nat → Int32) × (Nat → Int32) × (Nat → Int32) × (Nat → Int32) × (Nat → Int32) × (Int32) × (Int32)) × (Nat → Nat)) => u.1 = X ∧ u.2 0 = h0) (fun u t => BW D cy A (wX0 cy u.2 u.1.1 u.1.2.1 u.1.2.2.1 u.1.2.2.2.1 u.1.2.2.2.2.1 u.1.2.2.2.2.2.1 u.1.2.2.2.2.2.2.1 u.1.2.2.2.2.2.2.2) t) A)) (lv0 := [(0, .ref h0)]) (by decide) rfl (Nat.le_of_ble_eq_true rfl) rfl ?_
  intro p e s m below meth c A ls hin C0 hP hD hS hl
  have hin : meth.name = "<init>" := hin
  generalize hH : s.heap = H at hP ⊢
  generalize hLoc : ([] : List Loc) = locs at hS ⊢
  have hS : va_S A s.heap H locs := by rw [← hH]; exact hS
  have C0 : CX cX0_init 2 none RX0 wsX0_init D cy p s m _ meth c A := C0
  obtain ⟨hx, hb, hr, hml, hown, hts, hK, hA, hN, hlocks⟩ := id C0
  unfold f_X0_init at hf
  refine lv_aload_n hx hb dX0_init_0 rfl (lv_at hl 0 rfl) ?_
  refine W.objInit hx hb hown (hts _ m_X0_init_o3) (hts _ m_X0_init_oi) (hts _ m_X0_init_oc) rfl (by rw [hml]; exact hl.1) rfl dX0_init_1 (Nat.le_of_ble_eq_true rfl) (Nat.le_of_ble_eq_true rfl) ?_
  refine W.eq (g2 := F0 m 4 ls []) rfl ?_
  refine lv_aload_n hx hb dX0_init_4 rfl (lv_at hl 0 rfl) ?_
  refine lv_bipush (v := (6 : Int32)) hx hb dX0_init_5 (by decide) ?_
  refine na_i (N := 6) C0 (hts _ m_X0_init_arint) hP hD hS (by decide +kernel) (by decide +kernel) (by decide +kernel) (Nat.le_of_ble_eq_true rfl) (Nat.le_of_ble_eq_true rfl) dX0_init_7 (fun a1 H hP hD hS => ?_)
  refine W.widen (k := 1) (n := 6) (Nat.le_of_ble_eq_true rfl) (Nat.le_of_ble_eq_true rfl) ?_
  have hP : va_P D vwCl [(h0, .inr (0, [.null, .null, .null, .null, .null, .null, .int 0, .int 0])), (a1, .inl (cy 0, 6, .inl (fun _ => 0)))] H := hP
  have hD : va_D A [(h0, .inr (0, [.null, .null, .null, .null, .null, .null, .int 0, .int 0])), (a1, .inl (cy 0, 6, .inl (fun _ => 0)))] := hD
  refine va_putF (D := D) (ci := 0) (v := .ref a1) (ty := .array .int) (C := RX0) (T := TX0) (N := 8) hx hb hts i_X0_init_X0 tyX0 tyX0_ok nmX0 hown hK hP hD hS 0 rfl rfl 0 (by decide) (hts _ m_X0_init_f11) (fun _ h9 => h9) rfl hin rfl (by decide +kernel) rfl rfl (Nat.le_of_ble_eq_true rfl) dX0_init_9 (fun H locs hP hD hS => ?_)
  have hP : va_P D vwCl [(h0, .inr (0, [.ref a1, .null, .null, .null, .null, .null, .int 0, .int 0])), (a1, .inl (cy 0, 6, .inl (fun _ => 0)))] H := hP
  have hD : va_D A [(h0, .inr (0, [.ref a1, .null, .null, .null, .null, .null, .int 0, .int 0])), (a1, .inl (cy 0, 6, .inl (fun _ => 0)))] := hD
  refine lv_aload_n hx hb dX0_init_12 rfl (lv_at hl 0 rfl) ?_
  refine lv_bipush (v := (60 : Int32)) hx hb dX0_init_13 (by decide) ?_
  refine na_i (N := 60) C0 (hts _ m_X0_init_arint) hP hD hS (by decide +kernel) (by decide +kernel) (by decide +kernel) (Nat.le_of_ble_eq_true rfl) (Nat.le_of_ble_eq_true rfl) dX0_init_15 (fun a2 H hP hD hS => ?_)
  refine W.widen (k := 2) (n := 66) (Nat.le_of_ble_eq_true rfl) (Nat.le_of_ble_eq_true rfl) ?_
  have hP : va_P D vwCl [(h0, .inr (0, [.ref a1, .null, .null, .null, .null, .null, .int 0, .int 0])), (a1, .inl (cy 0, 6, .inl (fun _ => 0))), (a2, .inl (cy 0, 60, .inl (fun _ => 0)))] H := hP
  have hD : va_D A [(h0, .inr (0, [.ref a1, .null, .null, .null, .null, .null, .int 0, .int 0])), (a1, .inl (cy 0, 6, .inl (fun _ => 0))), (a2, .inl (cy 0, 60, .inl (fun _ => 0)))] := hD
  refine va_putF (D := D) (ci := 0) (v := .ref a2) (ty := .array .int) (C := RX0) (T := TX0) (N := 8) hx hb hts i_X0_init_X0 tyX0 tyX0_ok nmX0 hown hK hP hD hS 0 rfl rfl 1 (by decide) (hts _ m_X0_init_f15) (fun _ h9 => h9) rfl hin rfl (by decide +kernel) rfl rfl (Nat.le_of_ble_eq_true rfl) dX0_init_17 (fun H locs hP hD hS => ?_)
  have hP : va_P D vwCl [(h0, .inr (0, [.ref a1, .ref a2, .null, .null, .null, .null, .int 0, .int 0])), (a1, .inl (cy 0, 6, .inl (fun _ => 0))), (a2, .inl (cy 0, 60, .inl (fun _ => 0)))] H := hP
  have hD : va_D A [(h0, .inr (0, [.ref a1, .ref a2, .null, .null, .null, .null, .int 0, .int 0])), (a1, .inl (cy 0, 6, .inl (fun _ => 0))), (a2, .inl (cy 0, 60, .inl (fun _ => 0)))] := hD
  refine lv_aload_n hx hb dX0_init_20 rfl (lv_at hl 0 rfl) ?_
  refine lv_bipush (v := (60 : Int32)) hx hb dX0_init_21 (by decide) ?_
  refine na_i (N := 60) C0 (hts _ m_X0_init_arint) hP hD hS (by decide +kernel) (by decide +kernel) (by decide +kernel) (Nat.le_of_ble_eq_true rfl) (Nat.le_of_ble_eq_true rfl) dX0_init_23 (fun a3 H hP hD hS => ?_)
  refine W.widen (k := 3) (n := 126) (Nat.le_of_ble_eq_true rfl) (Nat.le_of_ble_eq_true rfl) ?_
  have hP : va_P D vwCl [(h0, .inr (0, [.ref a1, .ref a2, .null, .null, .null, .null, .int 0, .int 0])), (a1, .inl (cy 0, 6, .inl (fun _ => 0))), (a2, .inl (cy 0, 60, .inl (fun _ => 0))), (a3, .inl (cy 0, 60, .inl (fun _ => 0)))] H := hP
  have hD : va_D A [(h0, .inr (0, [.ref a1, .ref a2, .null, .null, .null, .null, .int 0, .int 0])), (a1, .inl (cy 0, 6, .inl (fun _ => 0))), (a2, .inl (cy 0, 60, .inl (fun _ => 0))), (a3, .inl (cy 0, 60, .inl (fun _ => 0)))] := hD
  refine va_putF (D := D) (ci := 0) (v := .ref a3) (ty := .array .int) (C := RX0) (T := TX0) (N := 8) hx hb hts i_X0_init_X0 tyX0 tyX0_ok nmX0 hown hK hP hD hS 0 rfl rfl 2 (by decide) (hts _ m_X0_init_f18) (fun _ h9 => h9) rfl hin rfl (by decide +kernel) rfl rfl (Nat.le_of_ble_eq_true rfl) dX0_init_25 (fun H locs hP hD hS => ?_)
  have hP : va_P D vwCl [(h0, .inr (0, [.ref a1, .ref a2, .ref a3, .null, .null, .null, .int 0, .int 0])), (a1, .inl (cy 0, 6, .inl (fun _ => 0))), (a2, .inl (cy 0, 60, .inl (fun _ => 0))), (a3, .inl (cy 0, 60, .inl (fun _ => 0)))] H := hP
  have hD : va_D A [(h0, .inr (0, [.ref a1, .ref a2, .ref a3, .null, .null, .null, .int 0, .int 0])), (a1, .inl (cy 0, 6, .inl (fun _ => 0))), (a2, .inl (cy 0, 60, .inl (fun _ => 0))), (a3, .inl (cy 0, 60, .inl (fun _ => 0)))] := hD
  refine lv_aload_n hx hb dX0_init_28 rfl (lv_at hl 0 rfl) ?_
  refine lv_bipush (v := (60 : Int32)) hx hb dX0_init_29 (by decide) ?_
  refine na_i (N := 60) C0 (hts _ m_X0_init_arint) hP hD hS (by decide +kernel) (by decide +kernel) (by decide +kernel) (Nat.le_of_ble_eq_true rfl) (Nat.le_of_ble_eq_true rfl) dX0_init_31 (fun a4 H hP hD hS => ?_)
  refine W.widen (k := 4) (n := 186) (Nat.le_of_ble_eq_true rfl) (Nat.le_of_ble_eq_true rfl) ?_
  have hP : va_P D vwCl [(h0, .inr (0, [.ref a1, .ref a2, .ref a3, .null, .null, .null, .int 0, .int 0])), (a1, .inl (cy 0, 6, .inl (fun _ => 0))), (a2, .inl (cy 0, 60, .inl (fun _ => 0))), (a3, .inl (cy 0, 60, .inl (fun _ => 0))), (a4, .inl (cy 0, 60, .inl (fun _ => 0)))] H := hP
  have hD : va_D A [(h0, .inr (0, [.ref a1, .ref a2, .ref a3, .null, .null, .null, .int 0, .int 0])), (a1, .inl (cy 0, 6, .inl (fun _ => 0))), (a2, .inl (cy 0, 60, .inl (fun _ => 0))), (a3, .inl (cy 0, 60, .inl (fun _ => 0))), (a4, .inl (cy 0, 60, .inl (fun _ => 0)))] := hD
  refine va_putF (D := D) (ci := 0) (v := .ref a4) (ty := .array .int) (C := RX0) (T := TX0) (N := 8) hx hb hts i_X0_init_X0 tyX0 tyX0_ok nmX0 hown hK hP hD hS 0 rfl rfl 3 (by decide) (hts _ m_X0_init_f21) (fun _ h9 => h9) rfl hin rfl (by decide +kernel) rfl rfl (Nat.le_of_ble_eq_true rfl) dX0_init_33 (fun H locs hP hD hS => ?_)
  have hP : va_P D vwCl [(h0, .inr (0, [.ref a1, .ref a2, .ref a3, .ref a4, .null, .null, .int 0, .int 0])), (a1, .inl (cy 0, 6, .inl (fun _ => 0))), (a2, .inl (cy 0, 60, .inl (fun _ => 0))), (a3, .inl (cy 0, 60, .inl (fun _ => 0))), (a4, .inl (cy 0, 60, .inl (fun _ => 0)))] H := hP
  have hD : va_D A [(h0, .inr (0, [.ref a1, .ref a2, .ref a3, .ref a4, .null, .null, .int 0, .int 0])), (a1, .inl (cy 0, 6, .inl (fun _ => 0))), (a2, .inl (cy 0, 60, .inl (fun _ => 0))), (a3, .inl (cy 0, 60, .inl (fun _ => 0))), (a4, .inl (cy 0, 60, .inl (fun _ => 0)))] := hD
  refine lv_aload_n hx hb dX0_init_36 rfl (lv_at hl 0 rfl) ?_
  refine lv_bipush (v := (60 : Int32)) hx hb dX0_init_37 (by decide) ?_
  refine na_i (N := 60) C0 (hts _ m_X0_init_arint) hP hD hS (by decide +kernel) (by decide +kernel) (by decide +kernel) (Nat.le_of_ble_eq_true rfl) (Nat.le_of_ble_eq_true rfl) dX0_init_39 (fun a5 H hP hD hS => ?_)
  refine W.widen (k := 5) (n := 246) (Nat.le_of_ble_eq_true rfl) (Nat.le_of_ble_eq_true rfl) ?_
  have hP : va_P D vwCl [(h0, .inr (0, [.ref a1, .ref a2, .ref a3, .ref a4, .null, .null, .int 0, .int 0])), (a1, .inl (cy 0, 6, .inl (fun _ => 0))), (a2, .inl (cy 0, 60, .inl (fun _ => 0))), (a3, .inl (cy 0, 60, .inl (fun _ => 0))), (a4, .inl (cy 0, 60, .inl (fun _ => 0))), (a5, .inl (cy 0, 60, .inl (fun _ => 0)))] H := hP
  have hD : va_D A [(h0, .inr (0, [.ref a1, .ref a2, .ref a3, .ref a4, .null, .null, .int 0, .int 0])), (a1, .inl (cy 0, 6, .inl (fun _ => 0))), (a2, .inl (cy 0, 60, .inl (fun _ => 0))), (a3, .inl (cy 0, 60, .inl (fun _ => 0))), (a4, .inl (cy 0, 60, .inl (fun _ => 0))), (a5, .inl (cy 0, 60, .inl (fun _ => 0)))] := hD
  refine va_putF (D := D) (ci := 0) (v := .ref a5) (ty := .array .int) (C := RX0) (T := TX0) (N := 8) hx hb hts i_X0_init_X0 tyX0 tyX0_ok nmX0 hown hK hP hD hS 0 rfl rfl 4 (by decide) (hts _ m_X0_init_f24) (fun _ h9 => h9) rfl hin rfl (by decide +kernel) rfl rfl (Nat.le_of_ble_eq_true rfl) dX0_init_41 (fun H locs hP hD hS => ?_)
  have hP : va_P D vwCl [(h0, .inr (0, [.ref a1, .ref a2, .ref a3, .ref a4, .ref a5, .null, .int 0, .int 0])), (a1, .inl (cy 0, 6, .inl (fun _ => 0))), (a2, .inl (cy 0, 60, .inl (fun _ => 0))), (a3, .inl (cy 0, 60, .inl (fun _ => 0))), (a4, .inl (cy 0, 60, .inl (fun _ => 0))), (a5, .inl (cy 0, 60, .inl (fun _ => 0)))] H := hP
  have hD : va_D A [(h0, .inr (0, [.ref a1, .ref a2, .ref a3, .ref a4, .ref a5, .null, .int 0, .int 0])), (a1, .inl (cy 0, 6, .inl (fun _ => 0))), (a2, .inl (cy 0, 60, .inl (fun _ => 0))), (a3, .inl (cy 0, 60, .inl (fun _ => 0))), (a4, .inl (cy 0, 60, .inl (fun _ => 0))), (a5, .inl (cy 0, 60, .inl (fun _ => 0)))] := hD
  refine lv_aload_n hx hb dX0_init_44 rfl (lv_at hl 0 rfl) ?_
  refine lv_bipush (v := (60 : Int32)) hx hb dX0_init_45 (by decide) ?_
  refine na_z (N := 60) C0 (hts _ m_X0_init_arboolean) hP hD hS (by decide +kernel) (by decide +kernel) (by decide +kernel) (Nat.le_of_ble_eq_true rfl) (Nat.le_of_ble_eq_true rfl) dX0_init_47 (fun a6 H hP hD hS => ?_)
  refine W.widen (k := 6) (n := 306) (Nat.le_of_ble_eq_true rfl) (Nat.le_of_ble_eq_true rfl) ?_
  have hP : va_P D vwCl [(h0, .inr (0, [.ref a1, .ref a2, .ref a3, .ref a4, .ref a5, .null, .int 0, .int 0])), (a1, .inl (cy 0, 6, .inl (fun _ => 0))), (a2, .inl (cy 0, 60, .inl (fun _ => 0))), (a3, .inl (cy 0, 60, .inl (fun _ => 0))), (a4, .inl (cy 0, 60, .inl (fun _ => 0))), (a5, .inl (cy 0, 60, .inl (fun _ => 0))), (a6, .inl (cy 2, 60, .inl (fun _ => 0)))] H := hP
  have hD : va_D A [(h0, .inr (0, [.ref a1, .ref a2, .ref a3, .ref a4, .ref a5, .null, .int 0, .int 0])), (a1, .inl (cy 0, 6, .inl (fun _ => 0))), (a2, .inl (cy 0, 60, .inl (fun _ => 0))), (a3, .inl (cy 0, 60, .inl (fun _ => 0))), (a4, .inl (cy 0, 60, .inl (fun _ => 0))), (a5, .inl (cy 0, 60, .inl (fun _ => 0))), (a6, .inl (cy 2, 60, .inl (fun _ => 0)))] := hD
  refine va_putF (D := D) (ci := 0) (v := .ref a6) (ty := .array .boolean) (C := RX0) (T := TX0) (N := 8) hx hb hts i_X0_init_X0 tyX0 tyX0_ok nmX0 hown hK hP hD hS 0 rfl rfl 5 (by decide) (hts _ m_X0_init_f27) (fun _ h9 => h9) rfl hin rfl (by decide +kernel) rfl rfl (Nat.le_of_ble_eq_true rfl) dX0_init_49 (fun H locs hP hD hS => ?_)
  have hP : va_P D vwCl [(h0, .inr (0, [.ref a1, .ref a2, .ref a3, .ref a4, .ref a5, .ref a6, .int 0, .int 0])), (a1, .inl (cy 0, 6, .inl (fun _ => 0))), (a2, .inl (cy 0, 60, .inl (fun _ => 0))), (a3, .inl (cy 0, 60, .inl (fun _ => 0))), (a4, .inl (cy 0, 60, .inl (fun _ => 0))), (a5, .inl (cy 0, 60, .inl (fun _ => 0))), (a6, .inl (cy 2, 60, .inl (fun _ => 0)))] H := hP
  have hD : va_D A [(h0, .inr (0, [.ref a1, .ref a2, .ref a3, .ref a4, .ref a5, .ref a6, .int 0, .int 0])), (a1, .inl (cy 0, 6, .inl (fun _ => 0))), (a2, .inl (cy 0, 60, .inl (fun _ => 0))), (a3, .inl (cy 0, 60, .inl (fun _ => 0))), (a4, .inl (cy 0, 60, .inl (fun _ => 0))), (a5, .inl (cy 0, 60, .inl (fun _ => 0))), (a6, .inl (cy 2, 60, .inl (fun _ => 0)))] := hD
  obtain ⟨qHb, rfl, rfl, rfl, rfl, rfl, rfl, rfl⟩ : ∃ q : Nat → Nat, q 0 = h0 ∧ q 1 = a1 ∧ q 2 = a2 ∧ q 3 = a3 ∧ q 4 = a4 ∧ q 5 = a5 ∧ q 6 = a6 := ⟨fun k => if k = 0 then h0 else if k = 1 then a1 else if k = 2 then a2 else if k = 3 then a3 else if k = 4 then a4 else if k = 5 then a5 else a6, rfl, rfl, rfl, rfl, rfl, rfl, rfl⟩
  have hP : va_P D vwCl (wX0 cy qHb (fun _ => (0 : Int32)) (fun _ => (0 : Int32)) (fun _ => (0 : Int32)) (fun _ => (0 : Int32)) (fun _ => (0 : Int32)) (fun _ => (0 : Int32)) (0 : Int32) (0 : Int32)) H := hP
  have hD : va_D A (wX0 cy qHb (fun _ => (0 : Int32)) (fun _ => (0 : Int32)) (fun _ => (0 : Int32)) (fun _ => (0 : Int32)) (fun _ => (0 : Int32)) (fun _ => (0 : Int32)) (0 : Int32) (0 : Int32)) := hD
  refine lv_iconst (v := (0 : Int32)) hx hb dX0_init_52 (by decide) ?_
  refine lv_istore_n (lv' := [(1, .int (0 : Int32)), (0, .ref (qHb 0))]) hx hb dX0_init_53 rfl hl (by decide) rfl (fun ls hl => ?_)
  exact w_X0_init_54 C0  FU (fun _ => (0 : Int32)) (fun _ => (0 : Int32)) (fun _ => (0 : Int32)) (fun _ => (0 : Int32)) (fun _ => (0 : Int32)) (fun _ => (0 : Int32)) (0 : Int32) (0 : Int32) (0 : Int32) hf H locs ls hP hD hS (lv_sub hl [1, 0] rfl)

def f_X1_init : Option ((Nat → Int32) × (Nat → Int32) × (Nat → Int32) × (Int32) × (Int32) × (Int32) × (Int32) × (Int32)) :=
  (some ((fun _ => (0 : Int32)), (fun _ => (0 : Int32)), (fun _ => (0 : Int32)), (0 : Int32), (0 : Int32), (0 : Int32), (0 : Int32), (0 : Int32)))
theorem i_X1_init_X1 : ∀ w ∈ wsX10, w ∈ wsX1_init := by decide +kernel
theorem m_X1_init_o3 : Cond.methodLink RX1 3 objectInit ∈ wsX1_init := by decide +kernel
theorem m_X1_init_oi : Cond.instanceMethod objectInit ∈ wsX1_init := by decide +kernel
theorem m_X1_init_oc : Cond.code objectInit ⟨#[0xb1]⟩ 1 none ∈ wsX1_init := by decide +kernel
theorem m_X1_init_arint : Cond.arrayClass .int ∈ wsX1_init := by decide +kernel
theorem m_X1_init_f9 : Cond.fieldLink RX1 9 "SailCargo$Hold" "tons" "[I" ∈ wsX1_init := by decide +kernel
theorem m_X1_init_f15 : Cond.fieldLink RX1 15 "SailCargo$Hold" "worth" "[I" ∈ wsX1_init := by decide +kernel
theorem m_X1_init_f18 : Cond.fieldLink RX1 18 "SailCargo$Hold" "apartBits" "[I" ∈ wsX1_init := by decide +kernel
set_option maxHeartbeats 4000000 in
set_option maxRecDepth 100000 in
theorem c_X1_init (l : Launch) (D : va_G) (cy : Nat → ClassId) (h0 : Nat) (sz : Nat) (X : (Nat → Int32) × (Nat → Int32) × (Nat → Int32) × (Int32) × (Int32) × (Int32) × (Int32) × (Int32)) (hf : f_X1_init = some X) : Met l yX1_init wsX1_init ({ frames := 1, cells := 3, slots := 36, locals := 16 } : Room) (va_Pc [.ref h0] (PW D cy [(h0, .inr (1, [.null, .null, .null, .int 0, .int 0, .int 0, .int 0, .int 0]))] sz)) (va_Qv (fun (u : ((Nat → Int32) × (Nat → Int32) × (Nat → Int32) × (Int32) × (Int32) × (Int32) × (Int32) × (Int32)) × (Nat → Nat)) => u.1 = X ∧ u.2 0 = h0) (fun u t => BW D cy (va_A [(h0, .inr (1, [.null, .null, .null, .int 0, .int 0, .int 0, .int 0, .int 0]))] sz) (wX1 cy u.2 u.1.1 u.1.2.1 u.1.2.2.1 u.1.2.2.2.1 u.1.2.2.2.2.1 u.1.2.2.2.2.2.1 u.1.2.2.2.2.2.2.1 u.1.2.2.2.2.2.2.2) t) (va_A [(h0, .inr (1, [.null, .null, .null, .int 0, .int 0, .int 0, .int 0, .int 0]))] sz)) 3 36 (va_A [(h0, .inr (1, [.null, .null, .null, .int 0, .int 0, .int 0, .int 0, .int 0]))] sz) := by
  refine met_enter (Qc := fun A => (va_Qv (fun (u : ((Nat → Int32) × (Nat → Int32) × (Nat → Int32) × (Int32) × (Int32) × (Int32) × (Int32) × (Int32)) × (Nat → Nat)) => u.1 = X ∧ u.2 0 = h0) (fun u t => BW D cy A (wX1 cy u.2 u.1.1 u.1.2.1 u.1.2.2.1 u.1.2.2.2.1 u.1.2.2.2.2.1 u.1.2.2.2.2.2.1 u.1.2.2.2.2.2.2.1 u.1.2.2.2.2.2.2.2) t) A)) (lv0 := [(0, .ref h0)]) (by decide) rfl (Nat.le_of_ble_eq_true rfl) rfl ?_
  intro p e s m below meth c A ls hin C0 hP hD hS hl
  have hin : meth.name = "<init>" := hin
  generalize hH : s.heap = H at hP ⊢
  generalize hLoc : ([] : List Loc) = locs at hS ⊢
  have hS : va_S A s.heap H locs := by rw [← hH]; exact hS
  have C0 : CX cX1_init 1 none RX1 wsX1_init D cy p s m _ meth c A := C0
  obtain ⟨hx, hb, hr, hml, hown, hts, hK, hA, hN, hlocks⟩ := id C0
  unfold f_X1_init at hf
  refine lv_aload_n hx hb dX1_init_0 rfl (lv_at hl 0 rfl) ?_
  refine W.objInit hx hb hown (hts _ m_X1_init_o3) (hts _ m_X1_init_oi) (hts _ m_X1_init_oc) rfl (by rw [hml]; exact hl.1) rfl dX1_init_1 (Nat.le_of_ble_eq_true rfl) (Nat.le_of_ble_eq_true rfl) ?_
  refine W.eq (g2 := F0 m 4 ls []) rfl ?_
  refine lv_aload_n hx hb dX1_init_4 rfl (lv_at hl 0 rfl) ?_
  refine lv_bipush (v := (12 : Int32)) hx hb dX1_init_5 (by decide) ?_
  refine na_i (N := 12) C0 (hts _ m_X1_init_arint) hP hD hS (by decide +kernel) (by decide +kernel) (by decide +kernel) (Nat.le_of_ble_eq_true rfl) (Nat.le_of_ble_eq_true rfl) dX1_init_7 (fun a1 H hP hD hS => ?_)
  refine W.widen (k := 1) (n := 12) (Nat.le_of_ble_eq_true rfl) (Nat.le_of_ble_eq_true rfl) ?_
  have hP : va_P D vwCl [(h0, .inr (1, [.null, .null, .null, .int 0, .int 0, .int 0, .int 0, .int 0])), (a1, .inl (cy 0, 12, .inl (fun _ => 0)))] H := hP
  have hD : va_D A [(h0, .inr (1, [.null, .null, .null, .int 0, .int 0, .int 0, .int 0, .int 0])), (a1, .inl (cy 0, 12, .inl (fun _ => 0)))] := hD
  refine va_putF (D := D) (ci := 1) (v := .ref a1) (ty := .array .int) (C := RX1) (T := TX1) (N := 8) hx hb hts i_X1_init_X1 tyX1 tyX1_ok nmX1 hown hK hP hD hS 0 rfl rfl 0 (by decide) (hts _ m_X1_init_f9) (fun _ h9 => h9) rfl hin rfl (by decide +kernel) rfl rfl (Nat.le_of_ble_eq_true rfl) dX1_init_9 (fun H locs hP hD hS => ?_)
  have hP : va_P D vwCl [(h0, .inr (1, [.ref a1, .null, .null, .int 0, .int 0, .int 0, .int 0, .int 0])), (a1, .inl (cy 0, 12, .inl (fun _ => 0)))] H := hP
  have hD : va_D A [(h0, .inr (1, [.ref a1, .null, .null, .int 0, .int 0, .int 0, .int 0, .int 0])), (a1, .inl (cy 0, 12, .inl (fun _ => 0)))] := hD
  refine lv_aload_n hx hb dX1_init_12 rfl (lv_at hl 0 rfl) ?_
  refine lv_bipush (v := (12 : Int32)) hx hb dX1_init_13 (by decide) ?_
  refine na_i (N := 12) C0 (hts _ m_X1_init_arint) hP hD hS (by decide +kernel) (by decide +kernel) (by decide +kernel) (Nat.le_of_ble_eq_true rfl) (Nat.le_of_ble_eq_true rfl) dX1_init_15 (fun a2 H hP hD hS => ?_)
  refine W.widen (k := 2) (n := 24) (Nat.le_of_ble_eq_true rfl) (Nat.le_of_ble_eq_true rfl) ?_
  have hP : va_P D vwCl [(h0, .inr (1, [.ref a1, .null, .null, .int 0, .int 0, .int 0, .int 0, .int 0])), (a1, .inl (cy 0, 12, .inl (fun _ => 0))), (a2, .inl (cy 0, 12, .inl (fun _ => 0)))] H := hP
  have hD : va_D A [(h0, .inr (1, [.ref a1, .null, .null, .int 0, .int 0, .int 0, .int 0, .int 0])), (a1, .inl (cy 0, 12, .inl (fun _ => 0))), (a2, .inl (cy 0, 12, .inl (fun _ => 0)))] := hD
  refine va_putF (D := D) (ci := 1) (v := .ref a2) (ty := .array .int) (C := RX1) (T := TX1) (N := 8) hx hb hts i_X1_init_X1 tyX1 tyX1_ok nmX1 hown hK hP hD hS 0 rfl rfl 1 (by decide) (hts _ m_X1_init_f15) (fun _ h9 => h9) rfl hin rfl (by decide +kernel) rfl rfl (Nat.le_of_ble_eq_true rfl) dX1_init_17 (fun H locs hP hD hS => ?_)
  have hP : va_P D vwCl [(h0, .inr (1, [.ref a1, .ref a2, .null, .int 0, .int 0, .int 0, .int 0, .int 0])), (a1, .inl (cy 0, 12, .inl (fun _ => 0))), (a2, .inl (cy 0, 12, .inl (fun _ => 0)))] H := hP
  have hD : va_D A [(h0, .inr (1, [.ref a1, .ref a2, .null, .int 0, .int 0, .int 0, .int 0, .int 0])), (a1, .inl (cy 0, 12, .inl (fun _ => 0))), (a2, .inl (cy 0, 12, .inl (fun _ => 0)))] := hD
  refine lv_aload_n hx hb dX1_init_20 rfl (lv_at hl 0 rfl) ?_
  refine lv_bipush (v := (12 : Int32)) hx hb dX1_init_21 (by decide) ?_
  refine na_i (N := 12) C0 (hts _ m_X1_init_arint) hP hD hS (by decide +kernel) (by decide +kernel) (by decide +kernel) (Nat.le_of_ble_eq_true rfl) (Nat.le_of_ble_eq_true rfl) dX1_init_23 (fun a3 H hP hD hS => ?_)
  refine W.widen (k := 3) (n := 36) (Nat.le_of_ble_eq_true rfl) (Nat.le_of_ble_eq_true rfl) ?_
  have hP : va_P D vwCl [(h0, .inr (1, [.ref a1, .ref a2, .null, .int 0, .int 0, .int 0, .int 0, .int 0])), (a1, .inl (cy 0, 12, .inl (fun _ => 0))), (a2, .inl (cy 0, 12, .inl (fun _ => 0))), (a3, .inl (cy 0, 12, .inl (fun _ => 0)))] H := hP
  have hD : va_D A [(h0, .inr (1, [.ref a1, .ref a2, .null, .int 0, .int 0, .int 0, .int 0, .int 0])), (a1, .inl (cy 0, 12, .inl (fun _ => 0))), (a2, .inl (cy 0, 12, .inl (fun _ => 0))), (a3, .inl (cy 0, 12, .inl (fun _ => 0)))] := hD
  refine va_putF (D := D) (ci := 1) (v := .ref a3) (ty := .array .int) (C := RX1) (T := TX1) (N := 8) hx hb hts i_X1_init_X1 tyX1 tyX1_ok nmX1 hown hK hP hD hS 0 rfl rfl 2 (by decide) (hts _ m_X1_init_f18) (fun _ h9 => h9) rfl hin rfl (by decide +kernel) rfl rfl (Nat.le_of_ble_eq_true rfl) dX1_init_25 (fun H locs hP hD hS => ?_)
  have hP : va_P D vwCl [(h0, .inr (1, [.ref a1, .ref a2, .ref a3, .int 0, .int 0, .int 0, .int 0, .int 0])), (a1, .inl (cy 0, 12, .inl (fun _ => 0))), (a2, .inl (cy 0, 12, .inl (fun _ => 0))), (a3, .inl (cy 0, 12, .inl (fun _ => 0)))] H := hP
  have hD : va_D A [(h0, .inr (1, [.ref a1, .ref a2, .ref a3, .int 0, .int 0, .int 0, .int 0, .int 0])), (a1, .inl (cy 0, 12, .inl (fun _ => 0))), (a2, .inl (cy 0, 12, .inl (fun _ => 0))), (a3, .inl (cy 0, 12, .inl (fun _ => 0)))] := hD
  obtain ⟨qHo, rfl, rfl, rfl, rfl⟩ : ∃ q : Nat → Nat, q 0 = h0 ∧ q 1 = a1 ∧ q 2 = a2 ∧ q 3 = a3 := ⟨fun k => if k = 0 then h0 else if k = 1 then a1 else if k = 2 then a2 else a3, rfl, rfl, rfl, rfl⟩
  have hP : va_P D vwCl (wX1 cy qHo (fun _ => (0 : Int32)) (fun _ => (0 : Int32)) (fun _ => (0 : Int32)) (0 : Int32) (0 : Int32) (0 : Int32) (0 : Int32) (0 : Int32)) H := hP
  have hD : va_D A (wX1 cy qHo (fun _ => (0 : Int32)) (fun _ => (0 : Int32)) (fun _ => (0 : Int32)) (0 : Int32) (0 : Int32) (0 : Int32) (0 : Int32) (0 : Int32)) := hD
  exact rq_v C0 (((fun _ => (0 : Int32)), (fun _ => (0 : Int32)), (fun _ => (0 : Int32)), (0 : Int32), (0 : Int32), (0 : Int32), (0 : Int32), (0 : Int32)), qHo) ⟨Option.some.inj hf, rfl⟩ hP hD hS dX1_init_28

def f_X3_init : Option ((Int32) × (Int32)) :=
  (some ((0 : Int32), (0 : Int32)))
theorem i_X3_init_X3 : ∀ w ∈ wsX30, w ∈ wsX3_init := by decide +kernel
theorem m_X3_init_o3 : Cond.methodLink RX3 3 objectInit ∈ wsX3_init := by decide +kernel
theorem m_X3_init_oi : Cond.instanceMethod objectInit ∈ wsX3_init := by decide +kernel
theorem m_X3_init_oc : Cond.code objectInit ⟨#[0xb1]⟩ 1 none ∈ wsX3_init := by decide +kernel
theorem m_X3_init_f9 : Cond.fieldLink RX3 9 "SailCargo$Reader" "tape" "LSailCargo$Tape;" ∈ wsX3_init := by decide +kernel
set_option maxHeartbeats 4000000 in
set_option maxRecDepth 100000 in
theorem c_X3_init (l : Launch) (D : va_G) (cy : Nat → ClassId) (qTa : Nat → Nat) (h0 : Nat) (sz : Nat) (X : (Int32) × (Int32)) (hf : f_X3_init = some X) : Met l yX3_init wsX3_init ({ frames := 1, cells := 0, slots := 0, locals := 16 } : Room) (va_Pc [.ref h0, .ref (qTa 0)] (PW D cy [(h0, .inr (3, [.null, .int 0, .int 0]))] sz)) (va_Qv (fun (u : ((Int32) × (Int32)) × (Nat → Nat)) => u.1 = X ∧ u.2 0 = h0) (fun u t => BW D cy (va_A [(h0, .inr (3, [.null, .int 0, .int 0]))] sz) (wX3 cy u.2 (qTa 0) u.1.1 u.1.2) t) (va_A [(h0, .inr (3, [.null, .int 0, .int 0]))] sz)) 0 0 (va_A [(h0, .inr (3, [.null, .int 0, .int 0]))] sz) := by
  refine met_enter (Qc := fun A => (va_Qv (fun (u : ((Int32) × (Int32)) × (Nat → Nat)) => u.1 = X ∧ u.2 0 = h0) (fun u t => BW D cy A (wX3 cy u.2 (qTa 0) u.1.1 u.1.2) t) A)) (lv0 := [(0, .ref h0), (1, .ref (qTa 0))]) (by decide) rfl (Nat.le_of_ble_eq_true rfl) rfl ?_
  intro p e s m below meth c A ls hin C0 hP hD hS hl
  have hin : meth.name = "<init>" := hin
  generalize hH : s.heap = H at hP ⊢
  generalize hLoc : ([] : List Loc) = locs at hS ⊢
  have hS : va_S A s.heap H locs := by rw [← hH]; exact hS
  have C0 : CX cX3_init 2 none RX3 wsX3_init D cy p s m _ meth c A := C0
  obtain ⟨hx, hb, hr, hml, hown, hts, hK, hA, hN, hlocks⟩ := id C0
  unfold f_X3_init at hf
  refine lv_aload_n hx hb dX3_init_0 rfl (lv_at hl 0 rfl) ?_
  refine W.objInit hx hb hown (hts _ m_X3_init_o3) (hts _ m_X3_init_oi) (hts _ m_X3_init_oc) rfl (by rw [hml]; exact hl.1) rfl dX3_init_1 (Nat.le_of_ble_eq_true rfl) (Nat.le_of_ble_eq_true rfl) ?_
  refine W.eq (g2 := F0 m 4 ls []) rfl ?_
  refine lv_aload_n hx hb dX3_init_4 rfl (lv_at hl 0 rfl) ?_
  refine lv_aload_n hx hb dX3_init_5 rfl (lv_at hl 1 rfl) ?_
  refine va_putF (D := D) (ci := 3) (v := .ref (qTa 0)) (ty := .object "SailCargo$Tape") (C := RX3) (T := TX3) (N := 3) hx hb hts i_X3_init_X3 tyX3 tyX3_ok nmX3 hown hK hP hD hS 0 rfl rfl 0 (by decide) (hts _ m_X3_init_f9) (fun _ h9 => h9) rfl hin rfl (by decide +kernel) rfl rfl (Nat.le_of_ble_eq_true rfl) dX3_init_6 (fun H locs hP hD hS => ?_)
  have hP : va_P D vwCl [(h0, .inr (3, [.ref (qTa 0), .int 0, .int 0]))] H := hP
  have hD : va_D A [(h0, .inr (3, [.ref (qTa 0), .int 0, .int 0]))] := hD
  obtain ⟨qRe, rfl⟩ : ∃ q : Nat → Nat, q 0 = h0 := ⟨fun _ => h0, rfl⟩
  have hP : va_P D vwCl (wX3 cy qRe (qTa 0) (0 : Int32) (0 : Int32)) H := hP
  have hD : va_D A (wX3 cy qRe (qTa 0) (0 : Int32) (0 : Int32)) := hD
  exact rq_v C0 (((0 : Int32), (0 : Int32)), qRe) ⟨Option.some.inj hf, rfl⟩ hP hD hS dX3_init_9

def f_X4_init : Option ((Nat → Int32) × (Int32)) :=
  (some ((fun _ => (0 : Int32)), (0 : Int32)))
theorem i_X4_init_X4 : ∀ w ∈ wsX40, w ∈ wsX4_init := by decide +kernel
theorem m_X4_init_o1 : Cond.methodLink RX4 1 objectInit ∈ wsX4_init := by decide +kernel
theorem m_X4_init_oi : Cond.instanceMethod objectInit ∈ wsX4_init := by decide +kernel
theorem m_X4_init_oc : Cond.code objectInit ⟨#[0xb1]⟩ 1 none ∈ wsX4_init := by decide +kernel
theorem m_X4_init_arint : Cond.arrayClass .int ∈ wsX4_init := by decide +kernel
theorem m_X4_init_f9 : Cond.fieldLink RX4 9 "SailCargo$Tape" "bytes" "[I" ∈ wsX4_init := by decide +kernel
set_option maxHeartbeats 4000000 in
set_option maxRecDepth 100000 in
theorem c_X4_init (l : Launch) (D : va_G) (cy : Nat → ClassId) (h0 : Nat) (sz : Nat) (X : (Nat → Int32) × (Int32)) (hf : f_X4_init = some X) : Met l yX4_init wsX4_init ({ frames := 1, cells := 1, slots := 200, locals := 16 } : Room) (va_Pc [.ref h0] (PW D cy [(h0, .inr (4, [.null, .int 0]))] sz)) (va_Qv (fun (u : ((Nat → Int32) × (Int32)) × (Nat → Nat)) => u.1 = X ∧ u.2 0 = h0) (fun u t => BW D cy (va_A [(h0, .inr (4, [.null, .int 0]))] sz) (wX4 cy u.2 u.1.1 u.1.2) t) (va_A [(h0, .inr (4, [.null, .int 0]))] sz)) 1 200 (va_A [(h0, .inr (4, [.null, .int 0]))] sz) := by
  refine met_enter (Qc := fun A => (va_Qv (fun (u : ((Nat → Int32) × (Int32)) × (Nat → Nat)) => u.1 = X ∧ u.2 0 = h0) (fun u t => BW D cy A (wX4 cy u.2 u.1.1 u.1.2) t) A)) (lv0 := [(0, .ref h0)]) (by decide) rfl (Nat.le_of_ble_eq_true rfl) rfl ?_
  intro p e s m below meth c A ls hin C0 hP hD hS hl
  have hin : meth.name = "<init>" := hin
  generalize hH : s.heap = H at hP ⊢
  generalize hLoc : ([] : List Loc) = locs at hS ⊢
  have hS : va_S A s.heap H locs := by rw [← hH]; exact hS
  have C0 : CX cX4_init 1 none RX4 wsX4_init D cy p s m _ meth c A := C0
  obtain ⟨hx, hb, hr, hml, hown, hts, hK, hA, hN, hlocks⟩ := id C0
  unfold f_X4_init at hf
  refine lv_aload_n hx hb dX4_init_0 rfl (lv_at hl 0 rfl) ?_
  refine W.objInit hx hb hown (hts _ m_X4_init_o1) (hts _ m_X4_init_oi) (hts _ m_X4_init_oc) rfl (by rw [hml]; exact hl.1) rfl dX4_init_1 (Nat.le_of_ble_eq_true rfl) (Nat.le_of_ble_eq_true rfl) ?_
  refine W.eq (g2 := F0 m 4 ls []) rfl ?_
  refine lv_aload_n hx hb dX4_init_4 rfl (lv_at hl 0 rfl) ?_
  refine lv_sipush (v := (200 : Int32)) hx hb dX4_init_5 (by decide) ?_
  refine na_i (N := 200) C0 (hts _ m_X4_init_arint) hP hD hS (by decide +kernel) (by decide +kernel) (by decide +kernel) (Nat.le_of_ble_eq_true rfl) (Nat.le_of_ble_eq_true rfl) dX4_init_8 (fun a1 H hP hD hS => ?_)
  refine W.widen (k := 1) (n := 200) (Nat.le_of_ble_eq_true rfl) (Nat.le_of_ble_eq_true rfl) ?_
  have hP : va_P D vwCl [(h0, .inr (4, [.null, .int 0])), (a1, .inl (cy 0, 200, .inl (fun _ => 0)))] H := hP
  have hD : va_D A [(h0, .inr (4, [.null, .int 0])), (a1, .inl (cy 0, 200, .inl (fun _ => 0)))] := hD
  refine va_putF (D := D) (ci := 4) (v := .ref a1) (ty := .array .int) (C := RX4) (T := TX4) (N := 2) hx hb hts i_X4_init_X4 tyX4 tyX4_ok nmX4 hown hK hP hD hS 0 rfl rfl 0 (by decide) (hts _ m_X4_init_f9) (fun _ h9 => h9) rfl hin rfl (by decide +kernel) rfl rfl (Nat.le_of_ble_eq_true rfl) dX4_init_10 (fun H locs hP hD hS => ?_)
  have hP : va_P D vwCl [(h0, .inr (4, [.ref a1, .int 0])), (a1, .inl (cy 0, 200, .inl (fun _ => 0)))] H := hP
  have hD : va_D A [(h0, .inr (4, [.ref a1, .int 0])), (a1, .inl (cy 0, 200, .inl (fun _ => 0)))] := hD
  obtain ⟨qTa, rfl, rfl⟩ : ∃ q : Nat → Nat, q 0 = h0 ∧ q 1 = a1 := ⟨fun k => if k = 0 then h0 else a1, rfl, rfl⟩
  have hP : va_P D vwCl (wX4 cy qTa (fun _ => (0 : Int32)) (0 : Int32)) H := hP
  have hD : va_D A (wX4 cy qTa (fun _ => (0 : Int32)) (0 : Int32)) := hD
  exact rq_v C0 (((fun _ => (0 : Int32)), (0 : Int32)), qTa) ⟨Option.some.inj hf, rfl⟩ hP hD hS dX4_init_13

def f_X5_init : Option ((Nat → Int32) × (Nat → Int32) × (Nat → Int32) × (Int32)) :=
  (some ((fun _ => (0 : Int32)), (fun _ => (0 : Int32)), (fun _ => (0 : Int32)), (0 : Int32)))
theorem i_X5_init_X5 : ∀ w ∈ wsX50, w ∈ wsX5_init := by decide +kernel
theorem m_X5_init_o1 : Cond.methodLink RX5 1 objectInit ∈ wsX5_init := by decide +kernel
theorem m_X5_init_oi : Cond.instanceMethod objectInit ∈ wsX5_init := by decide +kernel
theorem m_X5_init_oc : Cond.code objectInit ⟨#[0xb1]⟩ 1 none ∈ wsX5_init := by decide +kernel
theorem m_X5_init_arint : Cond.arrayClass .int ∈ wsX5_init := by decide +kernel
theorem m_X5_init_f9 : Cond.fieldLink RX5 9 "SailCargo$Terms" "kind" "[I" ∈ wsX5_init := by decide +kernel
theorem m_X5_init_f13 : Cond.fieldLink RX5 13 "SailCargo$Terms" "amount" "[I" ∈ wsX5_init := by decide +kernel
theorem m_X5_init_f16 : Cond.fieldLink RX5 16 "SailCargo$Terms" "mark" "[I" ∈ wsX5_init := by decide +kernel
set_option maxHeartbeats 4000000 in
set_option maxRecDepth 100000 in
theorem c_X5_init (l : Launch) (D : va_G) (cy : Nat → ClassId) (h0 : Nat) (sz : Nat) (X : (Nat → Int32) × (Nat → Int32) × (Nat → Int32) × (Int32)) (hf : f_X5_init = some X) : Met l yX5_init wsX5_init ({ frames := 1, cells := 3, slots := 60, locals := 16 } : Room) (va_Pc [.ref h0] (PW D cy [(h0, .inr (5, [.null, .null, .null, .int 0]))] sz)) (va_Qv (fun (u : ((Nat → Int32) × (Nat → Int32) × (Nat → Int32) × (Int32)) × (Nat → Nat)) => u.1 = X ∧ u.2 0 = h0) (fun u t => BW D cy (va_A [(h0, .inr (5, [.null, .null, .null, .int 0]))] sz) (wX5 cy u.2 u.1.1 u.1.2.1 u.1.2.2.1 u.1.2.2.2) t) (va_A [(h0, .inr (5, [.null, .null, .null, .int 0]))] sz)) 3 60 (va_A [(h0, .inr (5, [.null, .null, .null, .int 0]))] sz) := by
  refine met_enter (Qc := fun A => (va_Qv (fun (u : ((Nat → Int32) × (Nat → Int32) × (Nat → Int32) × (Int32)) × (Nat → Nat)) => u.1 = X ∧ u.2 0 = h0) (fun u t => BW D cy A (wX5 cy u.2 u.1.1 u.1.2.1 u.1.2.2.1 u.1.2.2.2) t) A)) (lv0 := [(0, .ref h0)]) (by decide) rfl (Nat.le_of_ble_eq_true rfl) rfl ?_
  intro p e s m below meth c A ls hin C0 hP hD hS hl
  have hin : meth.name = "<init>" := hin
  generalize hH : s.heap = H at hP ⊢
  generalize hLoc : ([] : List Loc) = locs at hS ⊢
  have hS : va_S A s.heap H locs := by rw [← hH]; exact hS
  have C0 : CX cX5_init 1 none RX5 wsX5_init D cy p s m _ meth c A := C0
  obtain ⟨hx, hb, hr, hml, hown, hts, hK, hA, hN, hlocks⟩ := id C0
  unfold f_X5_init at hf
  refine lv_aload_n hx hb dX5_init_0 rfl (lv_at hl 0 rfl) ?_
  refine W.objInit hx hb hown (hts _ m_X5_init_o1) (hts _ m_X5_init_oi) (hts _ m_X5_init_oc) rfl (by rw [hml]; exact hl.1) rfl dX5_init_1 (Nat.le_of_ble_eq_true rfl) (Nat.le_of_ble_eq_true rfl) ?_
  refine W.eq (g2 := F0 m 4 ls []) rfl ?_
  refine lv_aload_n hx hb dX5_init_4 rfl (lv_at hl 0 rfl) ?_
  refine lv_bipush (v := (20 : Int32)) hx hb dX5_init_5 (by decide) ?_
  refine na_i (N := 20) C0 (hts _ m_X5_init_arint) hP hD hS (by decide +kernel) (by decide +kernel) (by decide +kernel) (Nat.le_of_ble_eq_true rfl) (Nat.le_of_ble_eq_true rfl) dX5_init_7 (fun a1 H hP hD hS => ?_)
  refine W.widen (k := 1) (n := 20) (Nat.le_of_ble_eq_true rfl) (Nat.le_of_ble_eq_true rfl) ?_
  have hP : va_P D vwCl [(h0, .inr (5, [.null, .null, .null, .int 0])), (a1, .inl (cy 0, 20, .inl (fun _ => 0)))] H := hP
  have hD : va_D A [(h0, .inr (5, [.null, .null, .null, .int 0])), (a1, .inl (cy 0, 20, .inl (fun _ => 0)))] := hD
  refine va_putF (D := D) (ci := 5) (v := .ref a1) (ty := .array .int) (C := RX5) (T := TX5) (N := 4) hx hb hts i_X5_init_X5 tyX5 tyX5_ok nmX5 hown hK hP hD hS 0 rfl rfl 0 (by decide) (hts _ m_X5_init_f9) (fun _ h9 => h9) rfl hin rfl (by decide +kernel) rfl rfl (Nat.le_of_ble_eq_true rfl) dX5_init_9 (fun H locs hP hD hS => ?_)
  have hP : va_P D vwCl [(h0, .inr (5, [.ref a1, .null, .null, .int 0])), (a1, .inl (cy 0, 20, .inl (fun _ => 0)))] H := hP
  have hD : va_D A [(h0, .inr (5, [.ref a1, .null, .null, .int 0])), (a1, .inl (cy 0, 20, .inl (fun _ => 0)))] := hD
  refine lv_aload_n hx hb dX5_init_12 rfl (lv_at hl 0 rfl) ?_
  refine lv_bipush (v := (20 : Int32)) hx hb dX5_init_13 (by decide) ?_
  refine na_i (N := 20) C0 (hts _ m_X5_init_arint) hP hD hS (by decide +kernel) (by decide +kernel) (by decide +kernel) (Nat.le_of_ble_eq_true rfl) (Nat.le_of_ble_eq_true rfl) dX5_init_15 (fun a2 H hP hD hS => ?_)
  refine W.widen (k := 2) (n := 40) (Nat.le_of_ble_eq_true rfl) (Nat.le_of_ble_eq_true rfl) ?_
  have hP : va_P D vwCl [(h0, .inr (5, [.ref a1, .null, .null, .int 0])), (a1, .inl (cy 0, 20, .inl (fun _ => 0))), (a2, .inl (cy 0, 20, .inl (fun _ => 0)))] H := hP
  have hD : va_D A [(h0, .inr (5, [.ref a1, .null, .null, .int 0])), (a1, .inl (cy 0, 20, .inl (fun _ => 0))), (a2, .inl (cy 0, 20, .inl (fun _ => 0)))] := hD
  refine va_putF (D := D) (ci := 5) (v := .ref a2) (ty := .array .int) (C := RX5) (T := TX5) (N := 4) hx hb hts i_X5_init_X5 tyX5 tyX5_ok nmX5 hown hK hP hD hS 0 rfl rfl 1 (by decide) (hts _ m_X5_init_f13) (fun _ h9 => h9) rfl hin rfl (by decide +kernel) rfl rfl (Nat.le_of_ble_eq_true rfl) dX5_init_17 (fun H locs hP hD hS => ?_)
  have hP : va_P D vwCl [(h0, .inr (5, [.ref a1, .ref a2, .null, .int 0])), (a1, .inl (cy 0, 20, .inl (fun _ => 0))), (a2, .inl (cy 0, 20, .inl (fun _ => 0)))] H := hP
  have hD : va_D A [(h0, .inr (5, [.ref a1, .ref a2, .null, .int 0])), (a1, .inl (cy 0, 20, .inl (fun _ => 0))), (a2, .inl (cy 0, 20, .inl (fun _ => 0)))] := hD
  refine lv_aload_n hx hb dX5_init_20 rfl (lv_at hl 0 rfl) ?_
  refine lv_bipush (v := (20 : Int32)) hx hb dX5_init_21 (by decide) ?_
  refine na_i (N := 20) C0 (hts _ m_X5_init_arint) hP hD hS (by decide +kernel) (by decide +kernel) (by decide +kernel) (Nat.le_of_ble_eq_true rfl) (Nat.le_of_ble_eq_true rfl) dX5_init_23 (fun a3 H hP hD hS => ?_)
  refine W.widen (k := 3) (n := 60) (Nat.le_of_ble_eq_true rfl) (Nat.le_of_ble_eq_true rfl) ?_
  have hP : va_P D vwCl [(h0, .inr (5, [.ref a1, .ref a2, .null, .int 0])), (a1, .inl (cy 0, 20, .inl (fun _ => 0))), (a2, .inl (cy 0, 20, .inl (fun _ => 0))), (a3, .inl (cy 0, 20, .inl (fun _ => 0)))] H := hP
  have hD : va_D A [(h0, .inr (5, [.ref a1, .ref a2, .null, .int 0])), (a1, .inl (cy 0, 20, .inl (fun _ => 0))), (a2, .inl (cy 0, 20, .inl (fun _ => 0))), (a3, .inl (cy 0, 20, .inl (fun _ => 0)))] := hD
  refine va_putF (D := D) (ci := 5) (v := .ref a3) (ty := .array .int) (C := RX5) (T := TX5) (N := 4) hx hb hts i_X5_init_X5 tyX5 tyX5_ok nmX5 hown hK hP hD hS 0 rfl rfl 2 (by decide) (hts _ m_X5_init_f16) (fun _ h9 => h9) rfl hin rfl (by decide +kernel) rfl rfl (Nat.le_of_ble_eq_true rfl) dX5_init_25 (fun H locs hP hD hS => ?_)
  have hP : va_P D vwCl [(h0, .inr (5, [.ref a1, .ref a2, .ref a3, .int 0])), (a1, .inl (cy 0, 20, .inl (fun _ => 0))), (a2, .inl (cy 0, 20, .inl (fun _ => 0))), (a3, .inl (cy 0, 20, .inl (fun _ => 0)))] H := hP
  have hD : va_D A [(h0, .inr (5, [.ref a1, .ref a2, .ref a3, .int 0])), (a1, .inl (cy 0, 20, .inl (fun _ => 0))), (a2, .inl (cy 0, 20, .inl (fun _ => 0))), (a3, .inl (cy 0, 20, .inl (fun _ => 0)))] := hD
  obtain ⟨qTe, rfl, rfl, rfl, rfl⟩ : ∃ q : Nat → Nat, q 0 = h0 ∧ q 1 = a1 ∧ q 2 = a2 ∧ q 3 = a3 := ⟨fun k => if k = 0 then h0 else if k = 1 then a1 else if k = 2 then a2 else a3, rfl, rfl, rfl, rfl⟩
  have hP : va_P D vwCl (wX5 cy qTe (fun _ => (0 : Int32)) (fun _ => (0 : Int32)) (fun _ => (0 : Int32)) (0 : Int32)) H := hP
  have hD : va_D A (wX5 cy qTe (fun _ => (0 : Int32)) (fun _ => (0 : Int32)) (fun _ => (0 : Int32)) (0 : Int32)) := hD
  exact rq_v C0 (((fun _ => (0 : Int32)), (fun _ => (0 : Int32)), (fun _ => (0 : Int32)), (0 : Int32)), qTe) ⟨Option.some.inj hf, rfl⟩ hP hD hS dX5_init_28

def f_X6_init_35   (kh35 : (Nat → Int32) → (Nat → Int32) → (Nat → Int32) → (Int32) → Int32 → Option ((Nat → Int32) × (Nat → Int32) × (Nat → Int32) × (Int32))) (Vo_legSmoke : Nat → Int32) (Vo_firstLeg : Nat → Int32) (Vo_lastLeg : Nat → Int32) (Vo_legs : Int32) (x2 : Int32) : Option ((Nat → Int32) × (Nat → Int32) × (Nat → Int32) × (Int32)) :=
  (if (12 : Int32) ≤ x2 then (some (Vo_legSmoke, Vo_firstLeg, Vo_lastLeg, Vo_legs)) else (if inb x2 12 then (kh35 Vo_legSmoke Vo_firstLeg (upd Vo_lastLeg x2.toNatClampNeg (-1 : Int32)) Vo_legs (x2 + 1)) else none))
def g_X6_init_35   (n : Nat) (Vo_legSmoke : Nat → Int32) (Vo_firstLeg : Nat → Int32) (Vo_lastLeg : Nat → Int32) (Vo_legs : Int32) (x2 : Int32) : Option ((Nat → Int32) × (Nat → Int32) × (Nat → Int32) × (Int32)) := lp (fun (k : (Nat → Int32) × (Nat → Int32) × (Nat → Int32) × (Int32) × Int32 → Option ((Nat → Int32) × (Nat → Int32) × (Nat → Int32) × (Int32))) (a : (Nat → Int32) × (Nat → Int32) × (Nat → Int32) × (Int32) × Int32) => f_X6_init_35  (fun Vo_legSmoke Vo_firstLeg Vo_lastLeg Vo_legs x2 => k (Vo_legSmoke, Vo_firstLeg, Vo_lastLeg, Vo_legs, x2)) a.1 a.2.1 a.2.2.1 a.2.2.2.1 a.2.2.2.2) n (Vo_legSmoke, Vo_firstLeg, Vo_lastLeg, Vo_legs, x2)
def f_X6_init : Option ((Nat → Int32) × (Nat → Int32) × (Nat → Int32) × (Int32)) :=
  (g_X6_init_35 FU (fun _ => (0 : Int32)) (fun _ => (0 : Int32)) (fun _ => (0 : Int32)) (0 : Int32) (0 : Int32))
theorem i_X6_init_X6 : ∀ w ∈ wsX60, w ∈ wsX6_init := by decide +kernel
theorem m_X6_init_f18 : Cond.fieldLink RX6 18 "SailCargo$Voyage" "lastLeg" "[I" ∈ wsX6_init := by decide +kernel
theorem m_X6_init_o3 : Cond.methodLink RX6 3 objectInit ∈ wsX6_init := by decide +kernel
theorem m_X6_init_oi : Cond.instanceMethod objectInit ∈ wsX6_init := by decide +kernel
theorem m_X6_init_oc : Cond.code objectInit ⟨#[0xb1]⟩ 1 none ∈ wsX6_init := by decide +kernel
theorem m_X6_init_arint : Cond.arrayClass .int ∈ wsX6_init := by decide +kernel
theorem m_X6_init_f11 : Cond.fieldLink RX6 11 "SailCargo$Voyage" "legSmoke" "[I" ∈ wsX6_init := by decide +kernel
theorem m_X6_init_f15 : Cond.fieldLink RX6 15 "SailCargo$Voyage" "firstLeg" "[I" ∈ wsX6_init := by decide +kernel
theorem m_X6_init_f21 : Cond.fieldLink RX6 21 "SailCargo$Voyage" "hold" "LSailCargo$Hold;" ∈ wsX6_init := by decide +kernel
set_option maxHeartbeats 4000000 in
set_option maxRecDepth 100000 in
theorem w_X6_init_35 {p : Program} {l : Launch} {e : Env} {s : State} {m : MethodId} {args : Array Value} {below : List Frame} {meth : Method} {c : Code} {A : Nat → Prop} {D : va_G} {cy : Nat → ClassId} {qVo qHo : Nat → Nat}  {X : (Nat → Int32) × (Nat → Int32) × (Nat → Int32) × (Int32)}  (C0 : CX cX6_init 3 none RX6 wsX6_init D cy p s m args meth c A)  : ∀ (n : Nat) (Vo_legSmoke : Nat → Int32) (Vo_firstLeg : Nat → Int32) (Vo_lastLeg : Nat → Int32) (Vo_legs : Int32) (x2 : Int32), g_X6_init_35  n Vo_legSmoke Vo_firstLeg Vo_lastLeg Vo_legs x2 = some X → ∀ (H : Heap) (locs : List Loc) (ls : Array Slot), va_P D vwCl (wX6 cy qVo (qHo 0) Vo_legSmoke Vo_firstLeg Vo_lastLeg Vo_legs) H → va_D A (wX6 cy qVo (qHo 0) Vo_legSmoke Vo_firstLeg Vo_lastLeg Vo_legs) → va_S A s.heap H locs → lv_has ls 3 [(0, .ref (qVo 0)), (2, .int x2)] → W p l e ({ frames := 1, cells := 3, slots := 34, locals := 16 } : Room) s m args below meth c H locs 3 34 (MQ below (va_Qv (fun (u : ((Nat → Int32) × (Nat → Int32) × (Nat → Int32) × (Int32)) × (Nat → Nat)) => u.1 = X ∧ u.2 0 = qVo 0) (fun u t => BW D cy A (wX6 cy u.2 (qHo 0) u.1.1 u.1.2.1 u.1.2.2.1 u.1.2.2.2) t) A) args s 3 34 A) (F0 m 35 ls []) := by
  obtain ⟨hx, hb, hr, hml, hown, hts, hK, hA, hN, hlocks⟩ := id C0
  intro n
  induction n with
  | zero => intro Vo_legSmoke Vo_firstLeg Vo_lastLeg Vo_legs x2 hf; exact (no_some hf).elim
  | succ n hk35 =>
    intro Vo_legSmoke Vo_firstLeg Vo_lastLeg Vo_legs x2 hf H locs ls hP hD hS hl
    have hf : f_X6_init_35  (fun Vo_legSmoke Vo_firstLeg Vo_lastLeg Vo_legs x2 => g_X6_init_35  n Vo_legSmoke Vo_firstLeg Vo_lastLeg Vo_legs x2) Vo_legSmoke Vo_firstLeg Vo_lastLeg Vo_legs x2 = some X := hf
    unfold f_X6_init_35 at hf
    refine lv_iload_n hx hb dX6_init_35 rfl (lv_at hl 1 rfl) ?_
    refine lv_bipush (v := (12 : Int32)) hx hb dX6_init_36 (by decide) ?_
    refine lv_icmp_ge (tgt := 54) hx hb dX6_init_38 (by decide) (fun hc1 => ?_) (fun hc1 => ?_)
    · have hf := ift hf hc1
      exact rq_v C0 ((Vo_legSmoke, Vo_firstLeg, Vo_lastLeg, Vo_legs), qVo) ⟨Option.some.inj hf, rfl⟩ hP hD hS dX6_init_54
    · have hf := iff_ hf hc1
      refine lv_aload_n hx hb dX6_init_41 rfl (lv_at hl 0 rfl) ?_
      refine va_get (D := D) (ci := 6) (v := .ref (qVo 3)) (C := RX6) (T := TX6) (N := 5) hx hb hts i_X6_init_X6 hown hK hP 0 rfl rfl 3 (by decide) (hts _ m_X6_init_f18) (fun _ h9 => h9) rfl dX6_init_42 ?_
      refine lv_iload_n hx hb dX6_init_45 rfl (lv_at hl 1 rfl) ?_
      refine lv_iconst (v := (-1 : Int32)) hx hb dX6_init_46 (by decide) ?_
      obtain ⟨hz2, hf⟩ := ifn hf
      refine va_iast hx hb hK hP hD hS 3 0 rfl rfl (inb_in hz2) dX6_init_47 (fun H locs hP hD hS => ?_)
      have hP : va_P D vwCl (wX6 cy qVo (qHo 0) Vo_legSmoke Vo_firstLeg (upd Vo_lastLeg x2.toNatClampNeg (-1 : Int32)) Vo_legs) H := hP
      have hD : va_D A (wX6 cy qVo (qHo 0) Vo_legSmoke Vo_firstLeg (upd Vo_lastLeg x2.toNatClampNeg (-1 : Int32)) Vo_legs) := hD
      refine lv_iinc (v := (x2 + 1)) (lv' := [(2, .int (x2 + 1)), (0, .ref (qVo 0))]) hx hb dX6_init_48 hl (k := 1) rfl rfl (by decide) rfl (fun ls hl => ?_)
      refine lv_goto (tgt := 35) hx hb dX6_init_51 (by decide) ?_
      exact hk35 Vo_legSmoke Vo_firstLeg (upd Vo_lastLeg x2.toNatClampNeg (-1 : Int32)) Vo_legs (x2 + 1) hf H locs ls hP hD hS (lv_sub hl [1, 0] rfl)

set_option maxHeartbeats 4000000 in
set_option maxRecDepth 100000 in
theorem c_X6_init (l : Launch) (D : va_G) (cy : Nat → ClassId) (qHo : Nat → Nat) (h0 : Nat) (sz : Nat) (X : (Nat → Int32) × (Nat → Int32) × (Nat → Int32) × (Int32)) (hf : f_X6_init = some X) : Met l yX6_init wsX6_init ({ frames := 1, cells := 3, slots := 34, locals := 16 } : Room) (va_Pc [.ref h0, .ref (qHo 0)] (PW D cy [(h0, .inr (6, [.null, .null, .null, .null, .int 0]))] sz)) (va_Qv (fun (u : ((Nat → Int32) × (Nat → Int32) × (Nat → Int32) × (Int32)) × (Nat → Nat)) => u.1 = X ∧ u.2 0 = h0) (fun u t => BW D cy (va_A [(h0, .inr (6, [.null, .null, .null, .null, .int 0]))] sz) (wX6 cy u.2 (qHo 0) u.1.1 u.1.2.1 u.1.2.2.1 u.1.2.2.2) t) (va_A [(h0, .inr (6, [.null, .null, .null, .null, .int 0]))] sz)) 3 34 (va_A [(h0, .inr (6, [.null, .null, .null, .null, .int 0]))] sz) := by
  refine met_enter (Qc := fun A => (va_Qv (fun (u : ((Nat → Int32) × (Nat → Int32) × (Nat → Int32) × (Int32)) × (Nat → Nat)) => u.1 = X ∧ u.2 0 = h0) (fun u t => BW D cy A (wX6 cy u.2 (qHo 0) u.1.1 u.1.2.1 u.1.2.2.1 u.1.2.2.2) t) A)) (lv0 := [(0, .ref h0), (1, .ref (qHo 0))]) (by decide) rfl (Nat.le_of_ble_eq_true rfl) rfl ?_
  intro p e s m below meth c A ls hin C0 hP hD hS hl
  have hin : meth.name = "<init>" := hin
  generalize hH : s.heap = H at hP ⊢
  generalize hLoc : ([] : List Loc) = locs at hS ⊢
  have hS : va_S A s.heap H locs := by rw [← hH]; exact hS
  have C0 : CX cX6_init 3 none RX6 wsX6_init D cy p s m _ meth c A := C0
  obtain ⟨hx, hb, hr, hml, hown, hts, hK, hA, hN, hlocks⟩ := id C0
  unfold f_X6_init at hf
  refine lv_aload_n hx hb dX6_init_0 rfl (lv_at hl 0 rfl) ?_
  refine W.objInit hx hb hown (hts _ m_X6_init_o3) (hts _ m_X6_init_oi) (hts _ m_X6_init_oc) rfl (by rw [hml]; exact hl.1) rfl dX6_init_1 (Nat.le_of_ble_eq_true rfl) (Nat.le_of_ble_eq_true rfl) ?_
  refine W.eq (g2 := F0 m 4 ls []) rfl ?_
  refine lv_aload_n hx hb dX6_init_4 rfl (lv_at hl 0 rfl) ?_
  refine lv_bipush (v := (10 : Int32)) hx hb dX6_init_5 (by decide) ?_
  refine na_i (N := 10) C0 (hts _ m_X6_init_arint) hP hD hS (by decide +kernel) (by decide +kernel) (by decide +kernel) (Nat.le_of_ble_eq_true rfl) (Nat.le_of_ble_eq_true rfl) dX6_init_7 (fun a1 H hP hD hS => ?_)
  refine W.widen (k := 1) (n := 10) (Nat.le_of_ble_eq_true rfl) (Nat.le_of_ble_eq_true rfl) ?_
  have hP : va_P D vwCl [(h0, .inr (6, [.null, .null, .null, .null, .int 0])), (a1, .inl (cy 0, 10, .inl (fun _ => 0)))] H := hP
  have hD : va_D A [(h0, .inr (6, [.null, .null, .null, .null, .int 0])), (a1, .inl (cy 0, 10, .inl (fun _ => 0)))] := hD
  refine va_putF (D := D) (ci := 6) (v := .ref a1) (ty := .array .int) (C := RX6) (T := TX6) (N := 5) hx hb hts i_X6_init_X6 tyX6 tyX6_ok nmX6 hown hK hP hD hS 0 rfl rfl 1 (by decide) (hts _ m_X6_init_f11) (fun _ h9 => h9) rfl hin rfl (by decide +kernel) rfl rfl (Nat.le_of_ble_eq_true rfl) dX6_init_9 (fun H locs hP hD hS => ?_)
  have hP : va_P D vwCl [(h0, .inr (6, [.null, .ref a1, .null, .null, .int 0])), (a1, .inl (cy 0, 10, .inl (fun _ => 0)))] H := hP
  have hD : va_D A [(h0, .inr (6, [.null, .ref a1, .null, .null, .int 0])), (a1, .inl (cy 0, 10, .inl (fun _ => 0)))] := hD
  refine lv_aload_n hx hb dX6_init_12 rfl (lv_at hl 0 rfl) ?_
  refine lv_bipush (v := (12 : Int32)) hx hb dX6_init_13 (by decide) ?_
  refine na_i (N := 12) C0 (hts _ m_X6_init_arint) hP hD hS (by decide +kernel) (by decide +kernel) (by decide +kernel) (Nat.le_of_ble_eq_true rfl) (Nat.le_of_ble_eq_true rfl) dX6_init_15 (fun a2 H hP hD hS => ?_)
  refine W.widen (k := 2) (n := 22) (Nat.le_of_ble_eq_true rfl) (Nat.le_of_ble_eq_true rfl) ?_
  have hP : va_P D vwCl [(h0, .inr (6, [.null, .ref a1, .null, .null, .int 0])), (a1, .inl (cy 0, 10, .inl (fun _ => 0))), (a2, .inl (cy 0, 12, .inl (fun _ => 0)))] H := hP
  have hD : va_D A [(h0, .inr (6, [.null, .ref a1, .null, .null, .int 0])), (a1, .inl (cy 0, 10, .inl (fun _ => 0))), (a2, .inl (cy 0, 12, .inl (fun _ => 0)))] := hD
  refine va_putF (D := D) (ci := 6) (v := .ref a2) (ty := .array .int) (C := RX6) (T := TX6) (N := 5) hx hb hts i_X6_init_X6 tyX6 tyX6_ok nmX6 hown hK hP hD hS 0 rfl rfl 2 (by decide) (hts _ m_X6_init_f15) (fun _ h9 => h9) rfl hin rfl (by decide +kernel) rfl rfl (Nat.le_of_ble_eq_true rfl) dX6_init_17 (fun H locs hP hD hS => ?_)
  have hP : va_P D vwCl [(h0, .inr (6, [.null, .ref a1, .ref a2, .null, .int 0])), (a1, .inl (cy 0, 10, .inl (fun _ => 0))), (a2, .inl (cy 0, 12, .inl (fun _ => 0)))] H := hP
  have hD : va_D A [(h0, .inr (6, [.null, .ref a1, .ref a2, .null, .int 0])), (a1, .inl (cy 0, 10, .inl (fun _ => 0))), (a2, .inl (cy 0, 12, .inl (fun _ => 0)))] := hD
  refine lv_aload_n hx hb dX6_init_20 rfl (lv_at hl 0 rfl) ?_
  refine lv_bipush (v := (12 : Int32)) hx hb dX6_init_21 (by decide) ?_
  refine na_i (N := 12) C0 (hts _ m_X6_init_arint) hP hD hS (by decide +kernel) (by decide +kernel) (by decide +kernel) (Nat.le_of_ble_eq_true rfl) (Nat.le_of_ble_eq_true rfl) dX6_init_23 (fun a3 H hP hD hS => ?_)
  refine W.widen (k := 3) (n := 34) (Nat.le_of_ble_eq_true rfl) (Nat.le_of_ble_eq_true rfl) ?_
  have hP : va_P D vwCl [(h0, .inr (6, [.null, .ref a1, .ref a2, .null, .int 0])), (a1, .inl (cy 0, 10, .inl (fun _ => 0))), (a2, .inl (cy 0, 12, .inl (fun _ => 0))), (a3, .inl (cy 0, 12, .inl (fun _ => 0)))] H := hP
  have hD : va_D A [(h0, .inr (6, [.null, .ref a1, .ref a2, .null, .int 0])), (a1, .inl (cy 0, 10, .inl (fun _ => 0))), (a2, .inl (cy 0, 12, .inl (fun _ => 0))), (a3, .inl (cy 0, 12, .inl (fun _ => 0)))] := hD
  refine va_putF (D := D) (ci := 6) (v := .ref a3) (ty := .array .int) (C := RX6) (T := TX6) (N := 5) hx hb hts i_X6_init_X6 tyX6 tyX6_ok nmX6 hown hK hP hD hS 0 rfl rfl 3 (by decide) (hts _ m_X6_init_f18) (fun _ h9 => h9) rfl hin rfl (by decide +kernel) rfl rfl (Nat.le_of_ble_eq_true rfl) dX6_init_25 (fun H locs hP hD hS => ?_)
  have hP : va_P D vwCl [(h0, .inr (6, [.null, .ref a1, .ref a2, .ref a3, .int 0])), (a1, .inl (cy 0, 10, .inl (fun _ => 0))), (a2, .inl (cy 0, 12, .inl (fun _ => 0))), (a3, .inl (cy 0, 12, .inl (fun _ => 0)))] H := hP
  have hD : va_D A [(h0, .inr (6, [.null, .ref a1, .ref a2, .ref a3, .int 0])), (a1, .inl (cy 0, 10, .inl (fun _ => 0))), (a2, .inl (cy 0, 12, .inl (fun _ => 0))), (a3, .inl (cy 0, 12, .inl (fun _ => 0)))] := hD
  refine lv_aload_n hx hb dX6_init_28 rfl (lv_at hl 0 rfl) ?_
  refine lv_aload_n hx hb dX6_init_29 rfl (lv_at hl 1 rfl) ?_
  refine va_putF (D := D) (ci := 6) (v := .ref (qHo 0)) (ty := .object "SailCargo$Hold") (C := RX6) (T := TX6) (N := 5) hx hb hts i_X6_init_X6 tyX6 tyX6_ok nmX6 hown hK hP hD hS 0 rfl rfl 0 (by decide) (hts _ m_X6_init_f21) (fun _ h9 => h9) rfl hin rfl (by decide +kernel) rfl rfl (Nat.le_of_ble_eq_true rfl) dX6_init_30 (fun H locs hP hD hS => ?_)
  have hP : va_P D vwCl [(h0, .inr (6, [.ref (qHo 0), .ref a1, .ref a2, .ref a3, .int 0])), (a1, .inl (cy 0, 10, .inl (fun _ => 0))), (a2, .inl (cy 0, 12, .inl (fun _ => 0))), (a3, .inl (cy 0, 12, .inl (fun _ => 0)))] H := hP
  have hD : va_D A [(h0, .inr (6, [.ref (qHo 0), .ref a1, .ref a2, .ref a3, .int 0])), (a1, .inl (cy 0, 10, .inl (fun _ => 0))), (a2, .inl (cy 0, 12, .inl (fun _ => 0))), (a3, .inl (cy 0, 12, .inl (fun _ => 0)))] := hD
  obtain ⟨qVo, rfl, rfl, rfl, rfl⟩ : ∃ q : Nat → Nat, q 0 = h0 ∧ q 1 = a1 ∧ q 2 = a2 ∧ q 3 = a3 := ⟨fun k => if k = 0 then h0 else if k = 1 then a1 else if k = 2 then a2 else a3, rfl, rfl, rfl, rfl⟩
  have hP : va_P D vwCl (wX6 cy qVo (qHo 0) (fun _ => (0 : Int32)) (fun _ => (0 : Int32)) (fun _ => (0 : Int32)) (0 : Int32)) H := hP
  have hD : va_D A (wX6 cy qVo (qHo 0) (fun _ => (0 : Int32)) (fun _ => (0 : Int32)) (fun _ => (0 : Int32)) (0 : Int32)) := hD
  refine lv_iconst (v := (0 : Int32)) hx hb dX6_init_33 (by decide) ?_
  refine lv_istore_n (lv' := [(2, .int (0 : Int32)), (0, .ref (qVo 0)), (1, .ref (qHo 0))]) hx hb dX6_init_34 rfl hl (by decide) rfl (fun ls hl => ?_)
  exact w_X6_init_35 C0  FU (fun _ => (0 : Int32)) (fun _ => (0 : Int32)) (fun _ => (0 : Int32)) (0 : Int32) (0 : Int32) hf H locs ls hP hD hS (lv_sub hl [1, 0] rfl)

def f_X7_init : Option ((Nat → Int32) × (Nat → Int32) × (Int32)) :=
  (some ((fun _ => (0 : Int32)), (fun _ => (0 : Int32)), (0 : Int32)))
theorem i_X7_init_X7 : ∀ w ∈ wsX70, w ∈ wsX7_init := by decide +kernel
theorem m_X7_init_o3 : Cond.methodLink RX7 3 objectInit ∈ wsX7_init := by decide +kernel
theorem m_X7_init_oi : Cond.instanceMethod objectInit ∈ wsX7_init := by decide +kernel
theorem m_X7_init_oc : Cond.code objectInit ⟨#[0xb1]⟩ 1 none ∈ wsX7_init := by decide +kernel
theorem m_X7_init_arint : Cond.arrayClass .int ∈ wsX7_init := by decide +kernel
theorem m_X7_init_f11 : Cond.fieldLink RX7 11 "SailCargo$Weather" "weights" "[I" ∈ wsX7_init := by decide +kernel
theorem m_X7_init_f15 : Cond.fieldLink RX7 15 "SailCargo$Weather" "knownFrom" "[I" ∈ wsX7_init := by decide +kernel
set_option maxHeartbeats 4000000 in
set_option maxRecDepth 100000 in
theorem c_X7_init (l : Launch) (D : va_G) (cy : Nat → ClassId) (h0 : Nat) (sz : Nat) (X : (Nat → Int32) × (Nat → Int32) × (Int32)) (hf : f_X7_init = some X) : Met l yX7_init wsX7_init ({ frames := 1, cells := 2, slots := 200, locals := 16 } : Room) (va_Pc [.ref h0] (PW D cy [(h0, .inr (7, [.null, .null, .int 0]))] sz)) (va_Qv (fun (u : ((Nat → Int32) × (Nat → Int32) × (Int32)) × (Nat → Nat)) => u.1 = X ∧ u.2 0 = h0) (fun u t => BW D cy (va_A [(h0, .inr (7, [.null, .null, .int 0]))] sz) (wX7 cy u.2 u.1.1 u.1.2.1 u.1.2.2) t) (va_A [(h0, .inr (7, [.null, .null, .int 0]))] sz)) 2 200 (va_A [(h0, .inr (7, [.null, .null, .int 0]))] sz) := by
  refine met_enter (Qc := fun A => (va_Qv (fun (u : ((Nat → Int32) × (Nat → Int32) × (Int32)) × (Nat → Nat)) => u.1 = X ∧ u.2 0 = h0) (fun u t => BW D cy A (wX7 cy u.2 u.1.1 u.1.2.1 u.1.2.2) t) A)) (lv0 := [(0, .ref h0)]) (by decide) rfl (Nat.le_of_ble_eq_true rfl) rfl ?_
  intro p e s m below meth c A ls hin C0 hP hD hS hl
  have hin : meth.name = "<init>" := hin
  generalize hH : s.heap = H at hP ⊢
  generalize hLoc : ([] : List Loc) = locs at hS ⊢
  have hS : va_S A s.heap H locs := by rw [← hH]; exact hS
  have C0 : CX cX7_init 1 none RX7 wsX7_init D cy p s m _ meth c A := C0
  obtain ⟨hx, hb, hr, hml, hown, hts, hK, hA, hN, hlocks⟩ := id C0
  unfold f_X7_init at hf
  refine lv_aload_n hx hb dX7_init_0 rfl (lv_at hl 0 rfl) ?_
  refine W.objInit hx hb hown (hts _ m_X7_init_o3) (hts _ m_X7_init_oi) (hts _ m_X7_init_oc) rfl (by rw [hml]; exact hl.1) rfl dX7_init_1 (Nat.le_of_ble_eq_true rfl) (Nat.le_of_ble_eq_true rfl) ?_
  refine W.eq (g2 := F0 m 4 ls []) rfl ?_
  refine lv_aload_n hx hb dX7_init_4 rfl (lv_at hl 0 rfl) ?_
  refine lv_sipush (v := (160 : Int32)) hx hb dX7_init_5 (by decide) ?_
  refine na_i (N := 160) C0 (hts _ m_X7_init_arint) hP hD hS (by decide +kernel) (by decide +kernel) (by decide +kernel) (Nat.le_of_ble_eq_true rfl) (Nat.le_of_ble_eq_true rfl) dX7_init_8 (fun a1 H hP hD hS => ?_)
  refine W.widen (k := 1) (n := 160) (Nat.le_of_ble_eq_true rfl) (Nat.le_of_ble_eq_true rfl) ?_
  have hP : va_P D vwCl [(h0, .inr (7, [.null, .null, .int 0])), (a1, .inl (cy 0, 160, .inl (fun _ => 0)))] H := hP
  have hD : va_D A [(h0, .inr (7, [.null, .null, .int 0])), (a1, .inl (cy 0, 160, .inl (fun _ => 0)))] := hD
  refine va_putF (D := D) (ci := 7) (v := .ref a1) (ty := .array .int) (C := RX7) (T := TX7) (N := 3) hx hb hts i_X7_init_X7 tyX7 tyX7_ok nmX7 hown hK hP hD hS 0 rfl rfl 0 (by decide) (hts _ m_X7_init_f11) (fun _ h9 => h9) rfl hin rfl (by decide +kernel) rfl rfl (Nat.le_of_ble_eq_true rfl) dX7_init_10 (fun H locs hP hD hS => ?_)
  have hP : va_P D vwCl [(h0, .inr (7, [.ref a1, .null, .int 0])), (a1, .inl (cy 0, 160, .inl (fun _ => 0)))] H := hP
  have hD : va_D A [(h0, .inr (7, [.ref a1, .null, .int 0])), (a1, .inl (cy 0, 160, .inl (fun _ => 0)))] := hD
  refine lv_aload_n hx hb dX7_init_13 rfl (lv_at hl 0 rfl) ?_
  refine lv_bipush (v := (40 : Int32)) hx hb dX7_init_14 (by decide) ?_
  refine na_i (N := 40) C0 (hts _ m_X7_init_arint) hP hD hS (by decide +kernel) (by decide +kernel) (by decide +kernel) (Nat.le_of_ble_eq_true rfl) (Nat.le_of_ble_eq_true rfl) dX7_init_16 (fun a2 H hP hD hS => ?_)
  refine W.widen (k := 2) (n := 200) (Nat.le_of_ble_eq_true rfl) (Nat.le_of_ble_eq_true rfl) ?_
  have hP : va_P D vwCl [(h0, .inr (7, [.ref a1, .null, .int 0])), (a1, .inl (cy 0, 160, .inl (fun _ => 0))), (a2, .inl (cy 0, 40, .inl (fun _ => 0)))] H := hP
  have hD : va_D A [(h0, .inr (7, [.ref a1, .null, .int 0])), (a1, .inl (cy 0, 160, .inl (fun _ => 0))), (a2, .inl (cy 0, 40, .inl (fun _ => 0)))] := hD
  refine va_putF (D := D) (ci := 7) (v := .ref a2) (ty := .array .int) (C := RX7) (T := TX7) (N := 3) hx hb hts i_X7_init_X7 tyX7 tyX7_ok nmX7 hown hK hP hD hS 0 rfl rfl 1 (by decide) (hts _ m_X7_init_f15) (fun _ h9 => h9) rfl hin rfl (by decide +kernel) rfl rfl (Nat.le_of_ble_eq_true rfl) dX7_init_18 (fun H locs hP hD hS => ?_)
  have hP : va_P D vwCl [(h0, .inr (7, [.ref a1, .ref a2, .int 0])), (a1, .inl (cy 0, 160, .inl (fun _ => 0))), (a2, .inl (cy 0, 40, .inl (fun _ => 0)))] H := hP
  have hD : va_D A [(h0, .inr (7, [.ref a1, .ref a2, .int 0])), (a1, .inl (cy 0, 160, .inl (fun _ => 0))), (a2, .inl (cy 0, 40, .inl (fun _ => 0)))] := hD
  obtain ⟨qWe, rfl, rfl, rfl⟩ : ∃ q : Nat → Nat, q 0 = h0 ∧ q 1 = a1 ∧ q 2 = a2 := ⟨fun k => if k = 0 then h0 else if k = 1 then a1 else a2, rfl, rfl, rfl⟩
  have hP : va_P D vwCl (wX7 cy qWe (fun _ => (0 : Int32)) (fun _ => (0 : Int32)) (0 : Int32)) H := hP
  have hD : va_D A (wX7 cy qWe (fun _ => (0 : Int32)) (fun _ => (0 : Int32)) (0 : Int32)) := hD
  exact rq_v C0 (((fun _ => (0 : Int32)), (fun _ => (0 : Int32)), (0 : Int32)), qWe) ⟨Option.some.inj hf, rfl⟩ hP hD hS dX7_init_21

