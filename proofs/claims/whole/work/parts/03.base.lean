/-! the words for worlds, contexts, entries, calls and returns that all contracts share -/
abbrev tyL (cy : Nat → ClassId) : List (ClassId × FieldType) := [(cy 0, .int), (cy 1, .long), (cy 2, .boolean)]
def nwL : List Cond := [.methodLinkNest RX8 9 yX7_init RX8, .methodLinkNest RX8 25 yX1_init RX8, .methodLinkNest RX8 39 yX4_init RX8, .methodLinkNest RX8 64 yX5_init RX8, .methodLinkNest RX7 29 yX8_isWithin RX8, .methodLinkNest RX7 22 yX8_isKnownDay RX8, .methodLinkNest RX2 33 yX8_isWind RX8, .methodLinkNest RX2 37 yX8_isWithin RX8, .methodLinkNest RX1 25 yX8_isWithin RX8, .methodLinkNest RX0 31 yX8_isWithin RX8, .methodLinkNest RX3 91 yX8_isWithin RX8, .methodLinkNest RX6 29 yX8_isWithin RX8, .fieldLinkNest RX8 209 "SailCargo$Weather" "told" "I" RX8, .fieldLinkNest RX6 49 "SailCargo$Hold" "tons" "[I" RX8, .fieldLinkNest RX6 52 "SailCargo$Hold" "loads" "I" RX8, .fieldLinkNest RX8 212 "SailCargo$Hold" "loads" "I" RX8, .fieldLinkNest RX8 147 "SailCargo$Hold" "bestBits" "I" RX8, .fieldLinkNest RX8 150 "SailCargo$Hold" "bestTons" "I" RX8, .fieldLinkNest RX8 153 "SailCargo$Hold" "bestWorth" "I" RX8, .fieldLinkNest RX8 215 "SailCargo$Harbour" "told" "I" RX8, .fieldLinkNest RX8 219 "SailCargo$Harbour" "held" "I" RX8, .fieldLinkNest RX3 72 "SailCargo$Tape" "bytes" "[I" RX8, .fieldLinkNest RX3 89 "SailCargo$Tape" "length" "I" RX8, .fieldLinkNest RX8 173 "SailCargo$Tape" "length" "I" RX8, .fieldLinkNest RX8 216 "SailCargo$Voyage" "legs" "I" RX8, .fieldLinkNest RX3 15 "SailCargo$Terms" "clauses" "I" RX8, .fieldLinkNest RX8 180 "SailCargo$Terms" "clauses" "I" RX8]
theorem nw_X8_9 : Cond.methodLinkNest RX8 9 yX7_init RX8 ∈ nwL := by decide +kernel
theorem nw_X8_25 : Cond.methodLinkNest RX8 25 yX1_init RX8 ∈ nwL := by decide +kernel
theorem nw_X8_39 : Cond.methodLinkNest RX8 39 yX4_init RX8 ∈ nwL := by decide +kernel
theorem nw_X8_64 : Cond.methodLinkNest RX8 64 yX5_init RX8 ∈ nwL := by decide +kernel
theorem nw_X7_29 : Cond.methodLinkNest RX7 29 yX8_isWithin RX8 ∈ nwL := by decide +kernel
theorem nw_X7_22 : Cond.methodLinkNest RX7 22 yX8_isKnownDay RX8 ∈ nwL := by decide +kernel
theorem nw_X2_33 : Cond.methodLinkNest RX2 33 yX8_isWind RX8 ∈ nwL := by decide +kernel
theorem nw_X2_37 : Cond.methodLinkNest RX2 37 yX8_isWithin RX8 ∈ nwL := by decide +kernel
theorem nw_X1_25 : Cond.methodLinkNest RX1 25 yX8_isWithin RX8 ∈ nwL := by decide +kernel
theorem nw_X0_31 : Cond.methodLinkNest RX0 31 yX8_isWithin RX8 ∈ nwL := by decide +kernel
theorem nw_X3_91 : Cond.methodLinkNest RX3 91 yX8_isWithin RX8 ∈ nwL := by decide +kernel
theorem nw_X6_29 : Cond.methodLinkNest RX6 29 yX8_isWithin RX8 ∈ nwL := by decide +kernel
theorem nw_X8_209 : Cond.fieldLinkNest RX8 209 "SailCargo$Weather" "told" "I" RX8 ∈ nwL := by decide +kernel
theorem nw_X6_49 : Cond.fieldLinkNest RX6 49 "SailCargo$Hold" "tons" "[I" RX8 ∈ nwL := by decide +kernel
theorem nw_X6_52 : Cond.fieldLinkNest RX6 52 "SailCargo$Hold" "loads" "I" RX8 ∈ nwL := by decide +kernel
theorem nw_X8_212 : Cond.fieldLinkNest RX8 212 "SailCargo$Hold" "loads" "I" RX8 ∈ nwL := by decide +kernel
theorem nw_X8_147 : Cond.fieldLinkNest RX8 147 "SailCargo$Hold" "bestBits" "I" RX8 ∈ nwL := by decide +kernel
theorem nw_X8_150 : Cond.fieldLinkNest RX8 150 "SailCargo$Hold" "bestTons" "I" RX8 ∈ nwL := by decide +kernel
theorem nw_X8_153 : Cond.fieldLinkNest RX8 153 "SailCargo$Hold" "bestWorth" "I" RX8 ∈ nwL := by decide +kernel
theorem nw_X8_215 : Cond.fieldLinkNest RX8 215 "SailCargo$Harbour" "told" "I" RX8 ∈ nwL := by decide +kernel
theorem nw_X8_219 : Cond.fieldLinkNest RX8 219 "SailCargo$Harbour" "held" "I" RX8 ∈ nwL := by decide +kernel
theorem nw_X3_72 : Cond.fieldLinkNest RX3 72 "SailCargo$Tape" "bytes" "[I" RX8 ∈ nwL := by decide +kernel
theorem nw_X3_89 : Cond.fieldLinkNest RX3 89 "SailCargo$Tape" "length" "I" RX8 ∈ nwL := by decide +kernel
theorem nw_X8_173 : Cond.fieldLinkNest RX8 173 "SailCargo$Tape" "length" "I" RX8 ∈ nwL := by decide +kernel
theorem nw_X8_216 : Cond.fieldLinkNest RX8 216 "SailCargo$Voyage" "legs" "I" RX8 ∈ nwL := by decide +kernel
theorem nw_X3_15 : Cond.fieldLinkNest RX3 15 "SailCargo$Terms" "clauses" "I" RX8 ∈ nwL := by decide +kernel
theorem nw_X8_180 : Cond.fieldLinkNest RX8 180 "SailCargo$Terms" "clauses" "I" RX8 ∈ nwL := by decide +kernel
theorem nw_on : ∀ w ∈ nwL, w.onTables = true := by decide +kernel
abbrev wX0 (cy : Nat → ClassId) (q : Nat → Nat) (v_berthsOf : Nat → Int32) (v_port : Nat → Int32) (v_berth : Nat → Int32) (v_first : Nat → Int32) (v_last : Nat → Int32) (v_isGivenUp : Nat → Int32) (v_told : Int32) (v_held : Int32) : va_W := [(q 0, .inr (0, [.ref (q 1), .ref (q 2), .ref (q 3), .ref (q 4), .ref (q 5), .ref (q 6), .int v_told, .int v_held])), (q 1, .inl (cy 0, 6, .inl v_berthsOf)), (q 2, .inl (cy 0, 60, .inl v_port)), (q 3, .inl (cy 0, 60, .inl v_berth)), (q 4, .inl (cy 0, 60, .inl v_first)), (q 5, .inl (cy 0, 60, .inl v_last)), (q 6, .inl (cy 2, 60, .inl v_isGivenUp))]
abbrev wX1 (cy : Nat → ClassId) (q : Nat → Nat) (v_tons : Nat → Int32) (v_worth : Nat → Int32) (v_apartBits : Nat → Int32) (v_loads : Int32) (v_room : Int32) (v_bestBits : Int32) (v_bestTons : Int32) (v_bestWorth : Int32) : va_W := [(q 0, .inr (1, [.ref (q 1), .ref (q 2), .ref (q 3), .int v_loads, .int v_room, .int v_bestBits, .int v_bestTons, .int v_bestWorth])), (q 1, .inl (cy 0, 12, .inl v_tons)), (q 2, .inl (cy 0, 12, .inl v_worth)), (q 3, .inl (cy 0, 12, .inl v_apartBits))]
abbrev wX2 (cy : Nat → ClassId) (q : Nat → Nat) (v_sailMiles : Nat → Int32) (v_weights : Nat → Int32) (v_chance : Nat → Int64) (v_burnt : Nat → Int64) (v_engineMiles : Int32) (v_daysReckoned : Int32) (v_milesReckoned : Int32) (v_coalReckoned : Int32) : va_W := [(q 0, .inr (2, [.ref (q 1), .ref (q 2), .ref (q 3), .ref (q 4), .int v_engineMiles, .int v_daysReckoned, .int v_milesReckoned, .int v_coalReckoned])), (q 1, .inl (cy 0, 4, .inl v_sailMiles)), (q 2, .inl (cy 0, 4, .inl v_weights)), (q 3, .inl (cy 1, 20449, .inr (.inl v_chance))), (q 4, .inl (cy 1, 20449, .inr (.inl v_burnt)))]
abbrev wX3 (cy : Nat → ClassId) (q : Nat → Nat) (r_tape : Nat) (v_tokenStart : Int32) (v_tokenEnd : Int32) : va_W := [(q 0, .inr (3, [.ref r_tape, .int v_tokenStart, .int v_tokenEnd]))]
abbrev wX4 (cy : Nat → ClassId) (q : Nat → Nat) (v_bytes : Nat → Int32) (v_length : Int32) : va_W := [(q 0, .inr (4, [.ref (q 1), .int v_length])), (q 1, .inl (cy 0, 200, .inl v_bytes))]
abbrev wX5 (cy : Nat → ClassId) (q : Nat → Nat) (v_kind : Nat → Int32) (v_amount : Nat → Int32) (v_mark : Nat → Int32) (v_clauses : Int32) : va_W := [(q 0, .inr (5, [.ref (q 1), .ref (q 2), .ref (q 3), .int v_clauses])), (q 1, .inl (cy 0, 20, .inl v_kind)), (q 2, .inl (cy 0, 20, .inl v_amount)), (q 3, .inl (cy 0, 20, .inl v_mark))]
abbrev wX6 (cy : Nat → ClassId) (q : Nat → Nat) (r_hold : Nat) (v_legSmoke : Nat → Int32) (v_firstLeg : Nat → Int32) (v_lastLeg : Nat → Int32) (v_legs : Int32) : va_W := [(q 0, .inr (6, [.ref r_hold, .ref (q 1), .ref (q 2), .ref (q 3), .int v_legs])), (q 1, .inl (cy 0, 10, .inl v_legSmoke)), (q 2, .inl (cy 0, 12, .inl v_firstLeg)), (q 3, .inl (cy 0, 12, .inl v_lastLeg))]
abbrev wX7 (cy : Nat → ClassId) (q : Nat → Nat) (v_weights : Nat → Int32) (v_knownFrom : Nat → Int32) (v_told : Int32) : va_W := [(q 0, .inr (7, [.ref (q 1), .ref (q 2), .int v_told])), (q 1, .inl (cy 0, 160, .inl v_weights)), (q 2, .inl (cy 0, 40, .inl v_knownFrom))]
abbrev wX8 (cy : Nat → ClassId) (q : Nat → Nat) (r_weather : Nat) (r_passage : Nat) (r_hold : Nat) (r_harbour : Nat) (r_tape : Nat) (r_reader : Nat) (r_voyage : Nat) (r_agreed : Nat) (r_draft : Nat) (v_faultPlace : Int32) (v_refusedBy : Int32) : va_W := [(q 0, .inr (8, [.ref r_weather, .ref r_passage, .ref r_hold, .ref r_harbour, .ref r_tape, .ref r_reader, .ref r_voyage, .ref r_agreed, .ref r_draft, .int v_faultPlace, .int v_refusedBy]))]
abbrev wX9 (cy : Nat → ClassId) (q : Nat → Nat) (v_thrown : Int32) (v_status : Int32) (v_windsTold : Int32) (v_weights : Nat → Int32) (v_windKnown : Nat → Int32) (v_sails : Nat → Int32) (v_engine : Int32) (v_chance : Nat → Int64) (v_burnt : Nat → Int64) (v_weighs : Nat → Int32) (v_wayOf : Int32) (v_wayChance : Int64) (v_wayBurnt : Int64) (v_loads : Int32) (v_lTons : Nat → Int32) (v_lWorth : Nat → Int32) (v_lApart : Nat → Int32) (v_lFrom : Nat → Int32) (v_lTo : Nat → Int32) (v_berths : Nat → Int32) (v_slots : Int32) (v_sPort : Nat → Int32) (v_sBerth : Nat → Int32) (v_sFirst : Nat → Int32) (v_sLast : Nat → Int32) (v_clauses : Int32) (v_cSort : Nat → Int32) (v_cA : Nat → Int32) (v_cB : Nat → Int32) (v_nMany : Int32) (v_nClause : Nat → Int32) (v_tape : Nat → Int32) (v_taped : Int32) (v_from : Int32) (v_to : Int32) (v_sort : Int32) (v_worth : Int64) (v_fault : Int32) (v_bad : Int32) (v_legs : Int32) (v_smokes : Nat → Int32) : va_W := [(q 0, .inr (9, [.int v_thrown, .int v_status, .int v_windsTold, .ref (q 1), .ref (q 2), .ref (q 3), .int v_engine, .ref (q 4), .ref (q 5), .ref (q 6), .int v_wayOf, .long v_wayChance, .long v_wayBurnt, .int v_loads, .ref (q 7), .ref (q 8), .ref (q 9), .ref (q 10), .ref (q 11), .ref (q 12), .int v_slots, .ref (q 13), .ref (q 14), .ref (q 15), .ref (q 16), .int v_clauses, .ref (q 17), .ref (q 18), .ref (q 19), .int v_nMany, .ref (q 20), .ref (q 21), .int v_taped, .int v_from, .int v_to, .int v_sort, .long v_worth, .int v_fault, .int v_bad, .int v_legs, .ref (q 22)])), (q 1, .inl (cy 0, 160, .inl v_weights)), (q 2, .inl (cy 0, 40, .inl v_windKnown)), (q 3, .inl (cy 0, 4, .inl v_sails)), (q 4, .inl (cy 1, 20449, .inr (.inl v_chance))), (q 5, .inl (cy 1, 20449, .inr (.inl v_burnt))), (q 6, .inl (cy 0, 4, .inl v_weighs)), (q 7, .inl (cy 0, 12, .inl v_lTons)), (q 8, .inl (cy 0, 12, .inl v_lWorth)), (q 9, .inl (cy 0, 12, .inl v_lApart)), (q 10, .inl (cy 0, 12, .inl v_lFrom)), (q 11, .inl (cy 0, 12, .inl v_lTo)), (q 12, .inl (cy 0, 6, .inl v_berths)), (q 13, .inl (cy 0, 60, .inl v_sPort)), (q 14, .inl (cy 0, 60, .inl v_sBerth)), (q 15, .inl (cy 0, 60, .inl v_sFirst)), (q 16, .inl (cy 0, 60, .inl v_sLast)), (q 17, .inl (cy 0, 20, .inl v_cSort)), (q 18, .inl (cy 0, 20, .inl v_cA)), (q 19, .inl (cy 0, 20, .inl v_cB)), (q 20, .inl (cy 0, 60, .inl v_nClause)), (q 21, .inl (cy 0, 200, .inl v_tape)), (q 22, .inl (cy 0, 10, .inl v_smokes))]
def va_NW (U : State) : Prop := ∀ w ∈ nwL, va_Nw w U
theorem va_NW.same {u U : State} (h : u.vm = U.vm) (hZ : va_NW u) : va_NW U := fun w hw => va_Nw.same (nw_on w hw) h (hZ w hw)
theorem va_NW.warm {s U : State} (hW : s.WarmedH U.vm) (h : va_NW s) : va_NW U := by
  intro w hw
  have h0 := h w hw
  cases w with
  | methodLinkNest a i x hh => exact va_Nw.warmM hW h0
  | fieldLinkNest a i b n d hh => exact va_Nw.warmF hW h0
  | _ => exact absurd hw (by simp [nwL])
def PW (D : va_G) (cy : Nat → ClassId) (ws : va_W) (sz : Nat) (U : State) : Prop := U.heap.size = sz ∧ va_P D vwCl ws U.heap ∧ va_K D vwCl (tyL cy) U ∧ va_D (fun _ => True) ws ∧ va_NW U
def BW (D : va_G) (cy : Nat → ClassId) (A : Nat → Prop) (ws : va_W) (t : State) : Prop := va_P D vwCl ws t.heap ∧ va_K D vwCl (tyL cy) t ∧ va_D A ws
def CX (cc : ByteArray) (mL : Nat) (ret : Option FieldType) (own : String) (Ts : List Cond) (D : va_G) (cy : Nat → ClassId) (p : Program) (s : State) (m : MethodId) (args : Array Value) (meth : Method) (c : Code) (A : Nat → Prop) : Prop :=
  p.tables.exec = Jvm.exec ∧ c.code = cc ∧ meth.sig.returnType = ret ∧ c.maxLocals = mL ∧ s.vm.findClass own = some m.cls ∧ (∀ w ∈ Ts, w.before args s = true) ∧ va_K D vwCl (tyL cy) s ∧ (∀ q : Nat, s.heap.size ≤ q → A q) ∧ va_NW s ∧ meth.locks = false
theorem PW.blind {D : va_G} {cy : Nat → ClassId} {ws : va_W} {sz : Nat} {av : List Value} : FrameBlind (va_Pc av (PW D cy ws sz)) := by
  intro a U g mk q
  obtain ⟨q0, q1, qP, qK, qD, qN⟩ := q
  exact ⟨q0, q1, qP, va_K.moved (u := U) (U := U.calling g mk a) (Vm.Alike.refl U.vm) qK, qD, va_NW.same (u := U) (U := U.calling g mk a) rfl qN⟩
theorem pre_S {D : va_G} {cy : Nat → ClassId} {wc : va_W} {A : Nat → Prop} {s : State} {H : Heap} {As : List Value} (hP : va_P D vwCl wc H) (hK : va_K D vwCl (tyL cy) s) (hD : va_D A wc) (hN : va_NW s) : PreS s H (va_Pc As (PW D cy wc H.size)) As :=
  ⟨PW.blind, fun U hU hW => ⟨rfl, by rw [hU], by rw [hU]; exact hP, va_K.moved hW.alike hK, hD.weaken (fun _ _ _ _ => trivial), va_NW.warm hW hN⟩⟩
theorem pre_V {D : va_G} {cy : Nat → ClassId} {wc : va_W} {A : Nat → Prop} {s : State} {H : Heap} {As : List Value} {b : Nat} {C : String} {T : u_T} {N : Nat} {fs : List Value} (hP : va_P D vwCl wc H) (hK : va_K D vwCl (tyL cy) s) (hD : va_D A wc) (hN : va_NW s) (ci q0 : Nat) (hc : vwCl[ci]? = some (C, T, N)) (he : wc[q0]? = some (b, .inr (ci, fs))) : PreV s H C b (va_Pc (.ref b :: As) (PW D cy wc H.size)) As :=
  ⟨PW.blind, va_recv hK hP hc he, fun U hU hW => ⟨rfl, by rw [hU], by rw [hU]; exact hP, va_K.moved hW.alike hK, hD.weaken (fun _ _ _ _ => trivial), va_NW.warm hW hN⟩⟩
/-- a method's entry -/
theorem met_enter {l : Launch} {y : MethodName} {ws ws' : List Cond} {rm : Room} {cc : ByteArray} {mL : Nat} {ret : Option FieldType} {av : List Value} {D : va_G} {cy : Nat → ClassId} {W0 : va_W} {sz mc ms : Nat} {lv0 : List (Nat × Value)} {Qc : (Nat → Prop) → Array Value → State → Outcome → State → Prop} (hy : plainName y.cls = true) (hw : ws = Cond.code y cc mL ret :: ws') (hlen : (lg_sl av).length ≤ mL) (hlv : lv_args 0 av = lv0)
    (body : ∀ (p : Program) (e : Env) (s : State) (m : MethodId) (below : List Frame) (meth : Method) (c : Code) (A : Nat → Prop) (ls : Array Slot), meth.name = y.name → CX cc mL ret y.cls ws D cy p s m av.toArray meth c A → va_P D vwCl W0 s.heap → va_D A W0 → va_S A s.heap s.heap [] → lv_has ls mL lv0 → W p l e rm s m av.toArray below meth c s.heap [] 0 0 (MQ below (Qc A) av.toArray s mc ms A) (F0 m 0 ls [])) :
    Met l y ws rm (va_Pc av (PW D cy W0 sz)) (Qc (va_A W0 sz)) mc ms (va_A W0 sz) := by
  refine Met.ofW (cc := cc) (maxL := mL) (ret := ret) hy hw ?_
  intro p e s m args below meth c s₁ B hml hv
  obtain ⟨rfl, hsz, hP, hK, hD0, hN⟩ := hv
  have hts := atoms_spec (ws := ws) B.pre
  have hown : s.vm.findClass y.cls = some m.cls := findClass_of_methodNamed B.named
  subst hsz
  have hD := hD0.self (sz := s.heap.size)
  have hl := lv_entry av (n := mL) hlen
  rw [hlv] at hl
  rw [lg_entry_eq]
  exact body p e s m below meth c _ _ (name_of_methodNamed B.named B.method).1 ⟨B.exec, B.bytes, B.returns, hml, hown, hts, hK, fun q h => Or.inr h, hN, B.notSynchronized⟩ hP hD va_S.rf hl
section CALLS
variable {p : Program} {l : Launch} {e : Env} {R : Room} {s : State} {m : MethodId} {args : Array Value} {below : List Frame} {meth : Method} {c : Code} {H : Heap} {locs : List Loc} {cells slots mc ms : Nat} {Q : State → Prop}
variable {cc : ByteArray} {mL : Nat} {ret : Option FieldType} {own : String} {Ts : List Cond} {D : va_G} {cy : Nat → ClassId} {A : Nat → Prop} {pc : Nat} {ls : Array Slot} {rest st0 : List Value} {a : Array Value}
theorem cq_i {S : Type} {post : Int32 → S → Prop} {wc' ws' : S → va_W} {ws wc wr : va_W} (C0 : CX cc mL ret own Ts D cy p s m args meth c A) (hP : va_P D vwCl ws H) (hD : va_D A ws) (hS : va_S A s.heap H locs)
    (isC isR perm : List Nat) (hC : isC.map (fun i => ws[i]?) = wc.map some) (hR : isR.map (fun i => ws[i]?) = wr.map some) (hn : va_nd isR = true) (hdis : ∀ i ∈ isR, i ∉ isC) (hnp : va_nd perm = true) (hp : ∀ u, perm.map (fun i => (wr ++ wc' u)[i]?) = (ws' u).map some)
    (hr : va_Run p l e R s m args below meth c H locs cells slots mc ms (F0 m pc ls st0) rest (va_Qi post (fun u t => BW D cy (va_A wc H.size) (wc' u) t) (va_A wc H.size) a) (va_A wc H.size))
    (kk : ∀ (r : Int32) (u : S) (H1 : Heap) (locs1 : List Loc), post r u → va_P D vwCl (ws' u) H1 → va_D A (ws' u) → va_S A s.heap H1 locs1 → W p l e R s m args below meth c H1 locs1 (cells + mc) (slots + ms) Q (F0 m (pc + 3) ls (.int r :: rest))) : W p l e R s m args below meth c H locs cells slots Q (F0 m pc ls st0) := by
  obtain ⟨-, -, -, -, -, -, -, hA, -, -⟩ := C0
  have hFc := va_free (wc := wc) hD hS hA isC hC
  refine va_calli hr hS (fun q _ h => hFc q h) hFc (fun r u t H1 locs1 ht hvm hw hB hz1 hk1 hS1 => ?_)
  obtain ⟨hP1, hK1, hD1⟩ := hB
  rw [ht] at hP1
  obtain ⟨hP2, hD2⟩ := va_join (wr := wr) (w1 := wc' u) hP hD isC isR hC hR hn hdis hk1 hFc hP1 hD1
  have hD3 := hD2.sub (ws' := ws' u) perm hnp (hp u)
  refine kk r u H1 locs1 hw (fun k q hk => ?_) hD3 hS1
  have h4 := hp u
  have h5 : ((ws' u).map some)[k]? = some (some q) := by rw [List.getElem?_map, hk]; rfl
  rw [← h4, List.getElem?_map] at h5
  obtain ⟨i, hi, h6⟩ := Option.map_eq_some_iff.mp h5
  exact hP2 i q h6
theorem cq_l {S : Type} {post : Int64 → S → Prop} {wc' ws' : S → va_W} {ws wc wr : va_W} (C0 : CX cc mL ret own Ts D cy p s m args meth c A) (hP : va_P D vwCl ws H) (hD : va_D A ws) (hS : va_S A s.heap H locs)
    (isC isR perm : List Nat) (hC : isC.map (fun i => ws[i]?) = wc.map some) (hR : isR.map (fun i => ws[i]?) = wr.map some) (hn : va_nd isR = true) (hdis : ∀ i ∈ isR, i ∉ isC) (hnp : va_nd perm = true) (hp : ∀ u, perm.map (fun i => (wr ++ wc' u)[i]?) = (ws' u).map some)
    (hr : va_Run p l e R s m args below meth c H locs cells slots mc ms (F0 m pc ls st0) rest (va_Ql post (fun u t => BW D cy (va_A wc H.size) (wc' u) t) (va_A wc H.size) a) (va_A wc H.size))
    (kk : ∀ (r : Int64) (u : S) (H1 : Heap) (locs1 : List Loc), post r u → va_P D vwCl (ws' u) H1 → va_D A (ws' u) → va_S A s.heap H1 locs1 → W p l e R s m args below meth c H1 locs1 (cells + mc) (slots + ms) Q (F0 m (pc + 3) ls (.long r :: rest))) : W p l e R s m args below meth c H locs cells slots Q (F0 m pc ls st0) := by
  obtain ⟨-, -, -, -, -, -, -, hA, -, -⟩ := C0
  have hFc := va_free (wc := wc) hD hS hA isC hC
  refine va_calll hr hS (fun q _ h => hFc q h) hFc (fun r u t H1 locs1 ht hvm hw hB hz1 hk1 hS1 => ?_)
  obtain ⟨hP1, hK1, hD1⟩ := hB
  rw [ht] at hP1
  obtain ⟨hP2, hD2⟩ := va_join (wr := wr) (w1 := wc' u) hP hD isC isR hC hR hn hdis hk1 hFc hP1 hD1
  have hD3 := hD2.sub (ws' := ws' u) perm hnp (hp u)
  refine kk r u H1 locs1 hw (fun k q hk => ?_) hD3 hS1
  have h4 := hp u
  have h5 : ((ws' u).map some)[k]? = some (some q) := by rw [List.getElem?_map, hk]; rfl
  rw [← h4, List.getElem?_map] at h5
  obtain ⟨i, hi, h6⟩ := Option.map_eq_some_iff.mp h5
  exact hP2 i q h6
theorem cq_v {S : Type} {post : S → Prop} {wc' ws' : S → va_W} {ws wc wr : va_W} (C0 : CX cc mL ret own Ts D cy p s m args meth c A) (hP : va_P D vwCl ws H) (hD : va_D A ws) (hS : va_S A s.heap H locs)
    (isC isR perm : List Nat) (hC : isC.map (fun i => ws[i]?) = wc.map some) (hR : isR.map (fun i => ws[i]?) = wr.map some) (hn : va_nd isR = true) (hdis : ∀ i ∈ isR, i ∉ isC) (hnp : va_nd perm = true) (hp : ∀ u, perm.map (fun i => (wr ++ wc' u)[i]?) = (ws' u).map some)
    (hr : va_Run p l e R s m args below meth c H locs cells slots mc ms (F0 m pc ls st0) rest (va_Qv post (fun u t => BW D cy (va_A wc H.size) (wc' u) t) (va_A wc H.size) a) (va_A wc H.size))
    (kk : ∀ (u : S) (H1 : Heap) (locs1 : List Loc), post u → va_P D vwCl (ws' u) H1 → va_D A (ws' u) → va_S A s.heap H1 locs1 → W p l e R s m args below meth c H1 locs1 (cells + mc) (slots + ms) Q (F0 m (pc + 3) ls rest)) : W p l e R s m args below meth c H locs cells slots Q (F0 m pc ls st0) := by
  obtain ⟨-, -, -, -, -, -, -, hA, -, -⟩ := C0
  have hFc := va_free (wc := wc) hD hS hA isC hC
  refine va_callv hr hS (fun q _ h => hFc q h) hFc (fun u t H1 locs1 ht hvm hw hB hz1 hk1 hS1 => ?_)
  obtain ⟨hP1, hK1, hD1⟩ := hB
  rw [ht] at hP1
  obtain ⟨hP2, hD2⟩ := va_join (wr := wr) (w1 := wc' u) hP hD isC isR hC hR hn hdis hk1 hFc hP1 hD1
  have hD3 := hD2.sub (ws' := ws' u) perm hnp (hp u)
  refine kk u H1 locs1 hw (fun k q hk => ?_) hD3 hS1
  have h4 := hp u
  have h5 : ((ws' u).map some)[k]? = some (some q) := by rw [List.getElem?_map, hk]; rfl
  rw [← h4, List.getElem?_map] at h5
  obtain ⟨i, hi, h6⟩ := Option.map_eq_some_iff.mp h5
  exact hP2 i q h6
/-- returns -/
theorem rq_i {S : Type} {post : Int32 → S → Prop} {Wf : S → va_W} {r : Int32} (C0 : CX cc mL (some .int) own Ts D cy p s m args meth c A) (u : S) (hpo : post r u) (hP : va_P D vwCl (Wf u) H) (hD : va_D A (Wf u)) (hS : va_S A s.heap H locs) (hdg : decode cc pc = .ok (.ireturn, 1)) :
    W p l e R s m args below meth c H locs cells slots (MQ below (va_Qi post (fun u t => BW D cy A (Wf u) t) A) args s cells slots A) (F0 m pc ls [.int r]) := by
  obtain ⟨hx, hb, hr, -, -, -, hK, -, -, hlocks⟩ := C0
  exact W.iret hx hb hr (fun t ht hW => ⟨⟨r, u, rfl, hpo, by rw [ht]; exact hP, va_K.moved hW.alike hK, hD⟩, hS.F ht⟩) hS.2.2 hdg hlocks
theorem rq_z {S : Type} {post : Int32 → S → Prop} {Wf : S → va_W} {r : Int32} {ty : FieldType} (C0 : CX cc mL (some ty) own Ts D cy p s m args meth c A) (hn : narrow ty (.int r) = .int r) (u : S) (hpo : post r u) (hP : va_P D vwCl (Wf u) H) (hD : va_D A (Wf u)) (hS : va_S A s.heap H locs) (hdg : decode cc pc = .ok (.ireturn, 1)) :
    W p l e R s m args below meth c H locs cells slots (MQ below (va_Qi post (fun u t => BW D cy A (Wf u) t) A) args s cells slots A) (F0 m pc ls [.int r]) := by
  obtain ⟨hx, hb, hr, -, -, -, hK, -, -, hlocks⟩ := C0
  exact W.zret hx hb hr hn (fun t ht hW => ⟨⟨r, u, rfl, hpo, by rw [ht]; exact hP, va_K.moved hW.alike hK, hD⟩, hS.F ht⟩) hS.2.2 hdg hlocks
theorem rq_l {S : Type} {post : Int64 → S → Prop} {Wf : S → va_W} {r : Int64} (C0 : CX cc mL (some .long) own Ts D cy p s m args meth c A) (u : S) (hpo : post r u) (hP : va_P D vwCl (Wf u) H) (hD : va_D A (Wf u)) (hS : va_S A s.heap H locs) (hdg : decode cc pc = .ok (.lreturn, 1)) :
    W p l e R s m args below meth c H locs cells slots (MQ below (va_Ql post (fun u t => BW D cy A (Wf u) t) A) args s cells slots A) (F0 m pc ls [.long r]) := by
  obtain ⟨hx, hb, hr, -, -, -, hK, -, -, hlocks⟩ := C0
  exact W.lret hx hb hr (fun t ht hW => ⟨⟨r, u, rfl, hpo, by rw [ht]; exact hP, va_K.moved hW.alike hK, hD⟩, hS.F ht⟩) hS.2.2 hdg hlocks
theorem rq_v {S : Type} {post : S → Prop} {Wf : S → va_W} (C0 : CX cc mL none own Ts D cy p s m args meth c A) (u : S) (hpo : post u) (hP : va_P D vwCl (Wf u) H) (hD : va_D A (Wf u)) (hS : va_S A s.heap H locs) (hdg : decode cc pc = .ok (.return_, 1)) :
    W p l e R s m args below meth c H locs cells slots (MQ below (va_Qv post (fun u t => BW D cy A (Wf u) t) A) args s cells slots A) (F0 m pc ls []) := by
  obtain ⟨hx, hb, hr, -, -, -, hK, -, -, hlocks⟩ := C0
  exact W.vret hx hb hr (fun t ht hW => ⟨⟨u, rfl, hpo, by rw [ht]; exact hP, va_K.moved hW.alike hK, hD⟩, hS.F ht⟩) hS.2.2 hdg hlocks
end CALLS
/-- numbers and tests of the pure functions -/
def inb (i : Int32) (n : Nat) : Bool := decide (0 ≤ i) && decide (i.toNatClampNeg < n)
theorem inb_in {i : Int32} {n : Nat} (h : inb i n = true) : vp_in i n := by
  unfold inb at h
  obtain ⟨h1, h2⟩ := Bool.and_eq_true_iff.mp h
  have h1 := of_decide_eq_true h1
  have h2 := of_decide_eq_true h2
  rintro (h3 | h3)
  · exact absurd (Int32.lt_of_lt_of_le h3 h1) Int32.lt_irrefl
  · omega
theorem lc_lt {x y : Int64} : lg_cmp x y < 0 ↔ x < y := by
  unfold lg_cmp
  by_cases h : y < x
  · rw [if_pos h]; exact ⟨fun h2 => absurd h2 (by decide), fun h2 => absurd (Int64.lt_trans h h2) Int64.lt_irrefl⟩
  · rw [if_neg h]
    by_cases h2 : x = y
    · rw [if_pos h2, h2]; exact ⟨fun h3 => absurd h3 (by decide), fun h3 => absurd h3 Int64.lt_irrefl⟩
    · rw [if_neg h2]; exact ⟨fun _ => Int64.lt_of_le_of_ne (Int64.not_lt.mp h) h2, fun _ => by decide⟩
theorem lc_gt {x y : Int64} : 0 < lg_cmp x y ↔ y < x := by
  unfold lg_cmp
  by_cases h : y < x
  · rw [if_pos h]; exact ⟨fun _ => h, fun _ => by decide⟩
  · rw [if_neg h]
    by_cases h2 : x = y
    · rw [if_pos h2]; exact ⟨fun h3 => absurd h3 (by decide), fun h3 => absurd h3 h⟩
    · rw [if_neg h2]; exact ⟨fun h3 => absurd h3 (by decide), fun h3 => absurd h3 h⟩
theorem lc_eq {x y : Int64} : lg_cmp x y = 0 ↔ x = y := by
  unfold lg_cmp
  by_cases h : y < x
  · rw [if_pos h]; exact ⟨fun h2 => absurd h2 (by decide), fun h2 => absurd (by rw [h2] at h; exact h : y < y) Int64.lt_irrefl⟩
  · rw [if_neg h]
    by_cases h2 : x = y
    · rw [if_pos h2]; exact ⟨fun _ => h2, fun _ => rfl⟩
    · rw [if_neg h2]; exact ⟨fun h3 => absurd h3 (by decide), fun h3 => absurd h3 h2⟩
theorem lc_ge {x y : Int64} : 0 ≤ lg_cmp x y ↔ y ≤ x := by
  rw [← Int32.not_lt, lc_lt, Int64.not_lt]
theorem lc_le {x y : Int64} : lg_cmp x y ≤ 0 ↔ x ≤ y := by
  rw [← Int32.not_lt, lc_gt, Int64.not_lt]
def isb (r : Int32) : Bool := decide (r = 0) || decide (r = 1)
theorem isb_nar {r : Int32} (h : isb r = true) : narrow .boolean (.int r) = .int r := by
  unfold isb at h
  rcases Bool.or_eq_true_iff.mp h with h | h
  · rw [of_decide_eq_true h]; rfl
  · rw [of_decide_eq_true h]; rfl
theorem no_some {α : Type} {X : α} (h : (none : Option α) = some X) : False := by cases h
theorem ifn {c : Prop} [Decidable c] {α : Type} {K : Option α} {X : α} (h : (if c then K else none) = some X) : c ∧ K = some X := by
  by_cases hc : c
  · rw [if_pos hc] at h; exact ⟨hc, h⟩
  · rw [if_neg hc] at h; cases h
theorem ifz {c : Prop} [Decidable c] {α : Type} {K : Option α} {X : α} (h : (if c then none else K) = some X) : ¬ c ∧ K = some X := by
  by_cases hc : c
  · rw [if_pos hc] at h; cases h
  · rw [if_neg hc] at h; exact ⟨hc, h⟩
theorem ift {c : Prop} [Decidable c] {α : Type} {A B X : α} (h : (if c then A else B) = X) (hc : c) : A = X := by rw [if_pos hc] at h; exact h
theorem iff_ {c : Prop} [Decidable c] {α : Type} {A B X : α} (h : (if c then A else B) = X) (hc : ¬ c) : B = X := by rw [if_neg hc] at h; exact h
theorem pr_2 {α β : Type} {r : α} {w : β} {X : α × β} (h : some (r, w) = some X) : r = X.1 ∧ w = X.2 := by cases h; exact ⟨rfl, rfl⟩
def lp {α R : Type} (F : (α → Option R) → α → Option R) : Nat → α → Option R
  | 0, _ => none
  | n + 1, a => F (lp F n) a
def FU : Nat := 1000000
