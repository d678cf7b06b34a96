/-! String constants: their world, and the JDK's own members over them -/
def strS : List (String × Nat × String) := [(RX5, 36, "pay"), (RX5, 38, "per"), (RX5, 40, "late"), (RX5, 42, "early"), (RX5, 44, "smoke"), (RX5, 46, "most"), (RX5, 48, "least"), (RX5, 50, ""), (RX3, 48, "ton"), (RX5, 52, "behind"), (RX5, 54, "ahead"), (RX5, 56, "below"), (RX3, 38, ";")]
def lenS : List Nat := [3, 3, 4, 5, 5, 4, 5, 0, 3, 6, 5, 5, 1]
def bytS : List (List Int32) := [[112, 97, 121], [112, 101, 114], [108, 97, 116, 101], [101, 97, 114, 108, 121], [115, 109, 111, 107, 101], [109, 111, 115, 116], [108, 101, 97, 115, 116], [], [116, 111, 110], [98, 101, 104, 105, 110, 100], [97, 104, 101, 97, 100], [98, 101, 108, 111, 119], [59]]
def sL (i : Nat) : Int32 := Int32.ofNat (lenS.getD i 0)
def sC (i : Nat) (k : Int32) : Int32 := (((bytS.getD i []).getD k.toNatClampNeg 0 &&& 255).toUInt32 % 65536).toInt32
def sE (i : Nat) : Int32 := if sL i = 0 then 1 else 0
def SW (adK adV : Nat → Nat) (A : Nat → Prop) (U : State) (H : Heap) : Prop :=
  vk_S 13 lenS bytS adK adV A U H ∧ (∀ (i : Nat) (q : String × Nat × String), strS[i]? = some q → vk_R q.1 q.2.1 q.2.2 (adK i) U) ∧ va_Z "java/lang/String" "COMPACT_STRINGS" "Z" (.int 1) A U H ∧ va_Zq "jdk/internal/util/Preconditions" "SIOOBE_FORMATTER" "Ljava/util/function/BiFunction;" A U H
theorem SW.to {adK adV : Nat → Nat} {A B : Nat → Prop} {s U : State} {H : Heap} {locs : List Loc} (h : SW adK adV A s s.heap) (hS : va_S A s.heap H locs) (hAB : ∀ q, B q → A q) (hU : U.heap = H) (hW : s.WarmedH U.vm) : SW adK adV B U U.heap := by
  obtain ⟨h1, h2, h3, h4⟩ := h
  subst hU
  exact ⟨vk_S.moved hW.alike ((h1.kept hS.2.1).narrow hAB), fun i q hq => vk_R.warm hW (h2 i q hq), va_Z.moved hW.alike ((h3.kept hS.2.1).narrow hAB), va_Zq.moved hW.alike ((h4.kept hS.2.1).narrow hAB)⟩
def PWS (adK adV : Nat → Nat) (D : va_G) (cy : Nat → ClassId) (ws : va_W) (sz : Nat) (U : State) : Prop := PW D cy ws sz U ∧ SW adK adV (va_A ws sz) U U.heap
theorem PWS.blind {adK adV : Nat → Nat} {D : va_G} {cy : Nat → ClassId} {ws : va_W} {sz : Nat} {av : List Value} : FrameBlind (va_Pc av (PWS adK adV D cy ws sz)) := by
  intro a U g mk q
  obtain ⟨q0, q1, h1, h2, h3, h4⟩ := q
  obtain ⟨q2, q3⟩ := PW.blind (D := D) (cy := cy) (ws := ws) (sz := sz) (av := av) a U g mk ⟨q0, q1⟩
  exact ⟨q2, q3, vk_S.moved (u := U) (U := U.calling g mk a) (Vm.Alike.refl U.vm) h1, fun i q hq => vk_R.same (u := U) (U := U.calling g mk a) rfl (h2 i q hq), va_Z.moved (u := U) (U := U.calling g mk a) (Vm.Alike.refl U.vm) h3, va_Zq.moved (u := U) (U := U.calling g mk a) (Vm.Alike.refl U.vm) h4⟩
theorem preS_S {adK adV : Nat → Nat} {D : va_G} {cy : Nat → ClassId} {wc : va_W} {A : Nat → Prop} {s : State} {H : Heap} {locs : List Loc} {As : List Value} (hSW : SW adK adV A s s.heap) (hS : va_S A s.heap H locs) (hFc : ∀ q, va_A wc H.size q → A q) (hP : va_P D vwCl wc H) (hK : va_K D vwCl (tyL cy) s) (hD : va_D A wc) (hN : va_NW s) : PreS s H (va_Pc As (PWS adK adV D cy wc H.size)) As :=
  ⟨PWS.blind, fun U hU hW => ⟨((pre_S (As := As) hP hK hD hN).2 U hU hW).1, ((pre_S (As := As) hP hK hD hN).2 U hU hW).2, hSW.to hS hFc hU hW⟩⟩
theorem preS_V {adK adV : Nat → Nat} {D : va_G} {cy : Nat → ClassId} {wc : va_W} {A : Nat → Prop} {s : State} {H : Heap} {locs : List Loc} {As : List Value} {b : Nat} {C : String} {T : u_T} {N : Nat} {fs : List Value} (hSW : SW adK adV A s s.heap) (hS : va_S A s.heap H locs) (hFc : ∀ q, va_A wc H.size q → A q) (hP : va_P D vwCl wc H) (hK : va_K D vwCl (tyL cy) s) (hD : va_D A wc) (hN : va_NW s) (ci q0 : Nat) (hc : vwCl[ci]? = some (C, T, N)) (he : wc[q0]? = some (b, .inr (ci, fs))) : PreV s H C b (va_Pc (.ref b :: As) (PWS adK adV D cy wc H.size)) As :=
  ⟨PWS.blind, va_recv hK hP hc he, fun U hU hW => ⟨((pre_V (As := As) hP hK hD hN ci q0 hc he).2.2 U hU hW).1, ((pre_V (As := As) hP hK hD hN ci q0 hc he).2.2 U hU hW).2, hSW.to hS hFc hU hW⟩⟩
theorem preS_J {adK adV : Nat → Nat} {D : va_G} {cy : Nat → ClassId} {A : Nat → Prop} {s : State} {H : Heap} {locs : List Loc} {As : List Value} {i : Nat} (hSW : SW adK adV A s s.heap) (hi : i < 13) (hS : va_S A s.heap H locs) (hFc : ∀ q, va_A ([] : va_W) H.size q → A q) (hK : va_K D vwCl (tyL cy) s) (hN : va_NW s) : PreV s H "java/lang/String" (adK i) (va_Pc (.ref (adK i) :: As) (PWS adK adV D cy [] H.size)) As :=
  ⟨PWS.blind, vk_recv hSW.1 hi hS, fun U hU hW => ⟨rfl, ⟨by rw [hU], fun k q h => by simp at h, va_K.moved hW.alike hK, ⟨fun i j p q h => by simp at h, fun k q h => by simp at h⟩, va_NW.warm hW hN⟩, hSW.to hS hFc hU hW⟩⟩
theorem freeNil {A : Nat → Prop} {s : State} {H : Heap} {locs : List Loc} (hS : va_S A s.heap H locs) (hA : ∀ q : Nat, s.heap.size ≤ q → A q) : ∀ q, va_A ([] : va_W) H.size q → A q := by
  intro q h
  rcases h with ⟨k, e, h⟩ | h
  · simp at h
  · exact hA q (Nat.le_trans hS.1 h)
theorem met_enterS {l : Launch} {y : MethodName} {ws ws' : List Cond} {rm : Room} {cc : ByteArray} {mL : Nat} {ret : Option FieldType} {av : List Value} {adK adV : Nat → Nat} {D : va_G} {cy : Nat → ClassId} {W0 : va_W} {sz mc ms : Nat} {lv0 : List (Nat × Value)} {Qc : (Nat → Prop) → Array Value → State → Outcome → State → Prop} (hy : plainName y.cls = true) (hw : ws = Cond.code y cc mL ret :: ws') (hlen : (lg_sl av).length ≤ mL) (hlv : lv_args 0 av = lv0)
    (body : ∀ (p : Program) (e : Env) (s : State) (m : MethodId) (below : List Frame) (meth : Method) (c : Code) (A : Nat → Prop) (ls : Array Slot), SW adK adV A s s.heap → CX cc mL ret y.cls ws D cy p s m av.toArray meth c A → va_P D vwCl W0 s.heap → va_D A W0 → va_S A s.heap s.heap [] → lv_has ls mL lv0 → W p l e rm s m av.toArray below meth c s.heap [] 0 0 (MQ below (Qc A) av.toArray s mc ms A) (F0 m 0 ls [])) :
    Met l y ws rm (va_Pc av (PWS adK adV D cy W0 sz)) (Qc (va_A W0 sz)) mc ms (va_A W0 sz) := by
  refine Met.ofW (cc := cc) (maxL := mL) (ret := ret) hy hw ?_
  intro p e s m args below meth c s₁ B hml hv
  obtain ⟨rfl, ⟨hsz, hP, hK, hD0, hN⟩, hSW⟩ := hv
  have hts := atoms_spec (ws := ws) B.pre
  have hown : s.vm.findClass y.cls = some m.cls := findClass_of_methodNamed B.named
  subst hsz
  have hD := hD0.self (sz := s.heap.size)
  have hl := lv_entry av (n := mL) hlen
  rw [hlv] at hl
  rw [lg_entry_eq]
  exact body p e s m below meth c _ _ hSW ⟨B.exec, B.bytes, B.returns, hml, hown, hts, hK, fun q h => Or.inr h, hN, B.notSynchronized⟩ hP hD va_S.rf hl
section CALLR
variable {p : Program} {l : Launch} {e : Env} {R : Room} {s : State} {m : MethodId} {args : Array Value} {below : List Frame} {meth : Method} {c : Code} {H : Heap} {locs : List Loc} {cells slots mc ms : Nat} {Q : State → Prop}
variable {cc : ByteArray} {mL : Nat} {ret : Option FieldType} {own : String} {Ts : List Cond} {D : va_G} {cy : Nat → ClassId} {A : Nat → Prop} {pc : Nat} {ls : Array Slot} {rest st0 : List Value} {a : Array Value}
/-- a call that answers a String constant (no world) -/
theorem cq_r {adK : Nat → Nat} {post : Nat → Prop} {ws : va_W} (C0 : CX cc mL ret own Ts D cy p s m args meth c A) (hP : va_P D vwCl ws H) (hD : va_D A ws) (hS : va_S A s.heap H locs)
    (hr : va_Run p l e R s m args below meth c H locs cells slots mc ms (F0 m pc ls st0) rest (va_Qr post (fun (u : Nat) (ra : Nat) (t : State) => ra = adK u) (va_A ([] : va_W) H.size) a) (va_A ([] : va_W) H.size))
    (kk : ∀ (u : Nat) (H1 : Heap) (locs1 : List Loc), post u → va_P D vwCl ws H1 → va_S A s.heap H1 locs1 → W p l e R s m args below meth c H1 locs1 (cells + mc) (slots + ms) Q (F0 m (pc + 3) ls (.ref (adK u) :: rest))) : W p l e R s m args below meth c H locs cells slots Q (F0 m pc ls st0) := by
  obtain ⟨-, -, -, -, -, -, -, hA, -, -⟩ := C0
  have hFc := freeNil hS hA
  refine va_callr hr hS (fun q _ h => hFc q h) hFc (fun u ra t H1 locs1 ht hvm hw hB hz1 hk1 hS1 => ?_)
  subst hB
  refine kk u H1 locs1 hw (hP.kept (fun k q hk => hk1 q.1 (va_at.lt (hP k q hk)) ?_)) hS1
  rintro (⟨j, e, h⟩ | h)
  · simp at h
  · exact absurd (va_at.lt (hP k q hk)) (Nat.not_lt.mpr h)
/-- a call that answers an int, the callee without world -/
theorem cq_i0 {post : Int32 → Unit → Prop} {ws : va_W} (C0 : CX cc mL ret own Ts D cy p s m args meth c A) (hP : va_P D vwCl ws H) (hS : va_S A s.heap H locs)
    (hr : va_Run p l e R s m args below meth c H locs cells slots mc ms (F0 m pc ls st0) rest (va_Qi post (fun (_ : Unit) (_ : State) => True) (va_A ([] : va_W) H.size) a) (va_A ([] : va_W) H.size))
    (kk : ∀ (r : Int32) (H1 : Heap) (locs1 : List Loc), post r () → va_P D vwCl ws H1 → va_S A s.heap H1 locs1 → W p l e R s m args below meth c H1 locs1 (cells + mc) (slots + ms) Q (F0 m (pc + 3) ls (.int r :: rest))) : W p l e R s m args below meth c H locs cells slots Q (F0 m pc ls st0) := by
  obtain ⟨-, -, -, -, -, -, -, hA, -, -⟩ := C0
  have hFc := freeNil hS hA
  refine va_calli hr hS (fun q _ h => hFc q h) hFc (fun r u t H1 locs1 ht hvm hw hB hz1 hk1 hS1 => ?_)
  refine kk r H1 locs1 hw (hP.kept (fun k q hk => hk1 q.1 (va_at.lt (hP k q hk)) ?_)) hS1
  rintro (⟨j, e, h⟩ | h)
  · simp at h
  · exact absurd (va_at.lt (hP k q hk)) (Nat.not_lt.mpr h)
theorem cq_v0 {post : Unit → Prop} {ws : va_W} (C0 : CX cc mL ret own Ts D cy p s m args meth c A) (hP : va_P D vwCl ws H) (hS : va_S A s.heap H locs)
    (hr : va_Run p l e R s m args below meth c H locs cells slots mc ms (F0 m pc ls st0) rest (va_Qv post (fun (_ : Unit) (_ : State) => True) (va_A ([] : va_W) H.size) a) (va_A ([] : va_W) H.size))
    (kk : ∀ (H1 : Heap) (locs1 : List Loc), post () → va_P D vwCl ws H1 → va_S A s.heap H1 locs1 → W p l e R s m args below meth c H1 locs1 (cells + mc) (slots + ms) Q (F0 m (pc + 3) ls rest)) : W p l e R s m args below meth c H locs cells slots Q (F0 m pc ls st0) := by
  obtain ⟨-, -, -, -, -, -, -, hA, -, -⟩ := C0
  have hFc := freeNil hS hA
  refine va_callv hr hS (fun q _ h => hFc q h) hFc (fun u t H1 locs1 ht hvm hw hB hz1 hk1 hS1 => ?_)
  refine kk H1 locs1 hw (hP.kept (fun k q hk => hk1 q.1 (va_at.lt (hP k q hk)) ?_)) hS1
  rintro (⟨j, e, h⟩ | h)
  · simp at h
  · exact absurd (va_at.lt (hP k q hk)) (Nat.not_lt.mpr h)
theorem rq_r {adK : Nat → Nat} {post : Nat → Prop} {nm : String} (C0 : CX cc mL (some (.object nm)) own Ts D cy p s m args meth c A) (u : Nat) (hpo : post u) (hS : va_S A s.heap H locs) (hdg : decode cc pc = .ok (.areturn, 1)) :
    W p l e R s m args below meth c H locs cells slots (MQ below (va_Qr post (fun (u : Nat) (ra : Nat) (t : State) => ra = adK u) A) args s cells slots A) (F0 m pc ls [.ref (adK u)]) := by
  obtain ⟨hx, hb, hr, -, -, -, hK, -, -, hlocks⟩ := C0
  exact W.aret hx hb hr (Or.inl ⟨nm, rfl⟩) (Or.inr ⟨_, rfl⟩) (fun t ht hW => ⟨⟨u, adK u, rfl, hpo, rfl⟩, hS.F ht⟩) hS.2.2 hdg hlocks
theorem rq_i0 {post : Int32 → Unit → Prop} {r : Int32} {ty : FieldType} (C0 : CX cc mL (some ty) own Ts D cy p s m args meth c A) (hn : narrow ty (.int r) = .int r) (hpo : post r ()) (hS : va_S A s.heap H locs) (hdg : decode cc pc = .ok (.ireturn, 1)) :
    W p l e R s m args below meth c H locs cells slots (MQ below (va_Qi post (fun (_ : Unit) (_ : State) => True) A) args s cells slots A) (F0 m pc ls [.int r]) := by
  obtain ⟨hx, hb, hr, -, -, -, hK, -, -, hlocks⟩ := C0
  exact W.zret hx hb hr hn (fun t ht hW => ⟨⟨r, (), rfl, hpo, trivial⟩, hS.F ht⟩) hS.2.2 hdg hlocks
theorem rq_v0 {post : Unit → Prop} (C0 : CX cc mL none own Ts D cy p s m args meth c A) (hpo : post ()) (hS : va_S A s.heap H locs) (hdg : decode cc pc = .ok (.return_, 1)) :
    W p l e R s m args below meth c H locs cells slots (MQ below (va_Qv post (fun (_ : Unit) (_ : State) => True) A) args s cells slots A) (F0 m pc ls []) := by
  obtain ⟨hx, hb, hr, -, -, -, hK, -, -, hlocks⟩ := C0
  exact W.vret hx hb hr (fun t ht hW => ⟨⟨(), rfl, hpo, trivial⟩, hS.F ht⟩) hS.2.2 hdg hlocks
end CALLR
abbrev QJi (post : Int32 → Unit → Prop) (A : Nat → Prop) : Array Value → State → Outcome → State → Prop := va_Qi post (fun (_ : Unit) (_ : State) => True) A
set_option maxHeartbeats 4000000 in
set_option maxRecDepth 100000 in
theorem c_J_coder (l : Launch) (D : va_G) (cy : Nat → ClassId) (adK adV : Nat → Nat) (i sz : Nat) (hi : i < 13) : Met l yJ0_coder_7d493 wsJ0_coder_7d493 ({ frames := 0, cells := 0, slots := 0, locals := 0 } : Room) (va_Pc [.ref (adK i)] (PWS adK adV D cy [] sz)) (QJi (fun r _ => r = 0) (va_A [] sz)) 0 0 (va_A [] sz) := by
  refine met_enterS (Qc := fun A => QJi (fun r _ => r = 0) A) (lv0 := [(0, .ref (adK i))]) (by decide) rfl (Nat.le_of_ble_eq_true rfl) rfl ?_
  intro p e s m below meth c A ls hSW C0 hP hD hS hl
  have C0 : CX cJ0_coder_7d493 1 (some .byte) RJ0 wsJ0_coder_7d493 D cy p s m _ meth c A := C0
  obtain ⟨hx, hb, hr, hml, hown, hts, hK, hA, hN, hlocks⟩ := id C0
  refine va_gets hx hb hSW.2.2.1 hS hown (hts (.fieldLink RJ0 38 "java/lang/String" "COMPACT_STRINGS" "Z") (by decide +kernel)) (fun _ h9 => h9) dJ0_coder_7d493_0 ?_
  refine lv_if_eq (tgt := 13) hx hb dJ0_coder_7d493_3 (by decide) (fun hc => absurd hc (by decide)) (fun _ => ?_)
  refine lv_aload_n hx hb dJ0_coder_7d493_6 rfl (lv_at hl 0 rfl) ?_
  refine vk_getf hx hb (hSW.1.1 i hi).2.1 hS hown (hts (.fieldLink RJ0 15 "java/lang/String" "coder" "B") (by decide +kernel)) (fun _ h9 => h9) dJ0_coder_7d493_7 ?_
  refine lv_goto (tgt := 14) hx hb dJ0_coder_7d493_10 (by decide) ?_
  exact rq_i0 C0 (by decide) rfl hS dJ0_coder_7d493_14
set_option maxHeartbeats 4000000 in
set_option maxRecDepth 100000 in
theorem c_J_isLatin1 (l : Launch) (D : va_G) (cy : Nat → ClassId) (adK adV : Nat → Nat) (i sz : Nat) (hi : i < 13) : Met l yJ0_isLatin1_aae02 wsJ0_isLatin1_aae02 ({ frames := 0, cells := 0, slots := 0, locals := 0 } : Room) (va_Pc [.ref (adK i)] (PWS adK adV D cy [] sz)) (QJi (fun r _ => r = 1) (va_A [] sz)) 0 0 (va_A [] sz) := by
  refine met_enterS (Qc := fun A => QJi (fun r _ => r = 1) A) (lv0 := [(0, .ref (adK i))]) (by decide) rfl (Nat.le_of_ble_eq_true rfl) rfl ?_
  intro p e s m below meth c A ls hSW C0 hP hD hS hl
  have C0 : CX cJ0_isLatin1_aae02 1 (some .boolean) RJ0 wsJ0_isLatin1_aae02 D cy p s m _ meth c A := C0
  obtain ⟨hx, hb, hr, hml, hown, hts, hK, hA, hN, hlocks⟩ := id C0
  refine va_gets hx hb hSW.2.2.1 hS hown (hts (.fieldLink RJ0 38 "java/lang/String" "COMPACT_STRINGS" "Z") (by decide +kernel)) (fun _ h9 => h9) dJ0_isLatin1_aae02_0 ?_
  refine lv_if_eq (tgt := 17) hx hb dJ0_isLatin1_aae02_3 (by decide) (fun hc => absurd hc (by decide)) (fun _ => ?_)
  refine lv_aload_n hx hb dJ0_isLatin1_aae02_6 rfl (lv_at hl 0 rfl) ?_
  refine vk_getf hx hb (hSW.1.1 i hi).2.1 hS hown (hts (.fieldLink RJ0 15 "java/lang/String" "coder" "B") (by decide +kernel)) (fun _ h9 => h9) dJ0_isLatin1_aae02_7 ?_
  refine lv_if_ne (tgt := 17) hx hb dJ0_isLatin1_aae02_10 (by decide) (fun hc => absurd rfl hc) (fun _ => ?_)
  refine lv_iconst (v := 1) hx hb dJ0_isLatin1_aae02_13 (by decide) ?_
  refine lv_goto (tgt := 18) hx hb dJ0_isLatin1_aae02_14 (by decide) ?_
  exact rq_i0 C0 (by decide) rfl hS dJ0_isLatin1_aae02_18
set_option maxHeartbeats 4000000 in
set_option maxRecDepth 100000 in
theorem c_J_length (l : Launch) (D : va_G) (cy : Nat → ClassId) (adK adV : Nat → Nat) (i sz : Nat) (hi : i < 13) : Met l yJ0_length_8abf5 wsJ0_length_8abf5 ({ frames := 1, cells := 0, slots := 0, locals := 20 } : Room) (va_Pc [.ref (adK i)] (PWS adK adV D cy [] sz)) (QJi (fun r _ => r = sL i) (va_A [] sz)) 0 0 (va_A [] sz) := by
  refine met_enterS (Qc := fun A => QJi (fun r _ => r = sL i) A) (lv0 := [(0, .ref (adK i))]) (by decide) rfl (Nat.le_of_ble_eq_true rfl) rfl ?_
  intro p e s m below meth c A ls hSW C0 hP hD hS hl
  have C0 : CX cJ0_length_8abf5 1 (some .int) RJ0 wsJ0_length_8abf5 D cy p s m _ meth c A := C0
  obtain ⟨hx, hb, hr, hml, hown, hts, hK, hA, hN, hlocks⟩ := id C0
  refine lv_aload_n hx hb dJ0_length_8abf5_0 rfl (lv_at hl 0 rfl) ?_
  refine vk_getf hx hb (hSW.1.1 i hi).2.2.1 hS hown (hts (.fieldLink RJ0 9 "java/lang/String" "value" "[B") (by decide +kernel)) (fun _ h9 => h9) dJ0_length_8abf5_1 ?_
  refine va_tlen (v := sL i) hx hb (hSW.1.1 i hi).2.2.2 hS rfl dJ0_length_8abf5_4 ?_
  refine lv_aload_n hx hb dJ0_length_8abf5_5 rfl (lv_at hl 0 rfl) ?_
  refine cq_i0 C0 hP hS (va_runV (As := []) (rest := [.int (sL i)]) ⟨hx, hb, hml, hown, hts⟩ (c_J_coder l D cy adK adV i _ hi) (cwV 0 hts gJ0_length_8abf5_J0_coder_7d493 rfl rfl rfl (by decide +kernel) ⟨Nat.le_of_ble_eq_true rfl, Nat.le_of_ble_eq_true rfl⟩) (preS_J hSW hi hS (freeNil hS hA) hK hN) rfl rfl hl.1 rfl (lv_room (Nat.le_of_ble_eq_true rfl)) dJ0_length_8abf5_6 ⟨Nat.zero_le _, Nat.zero_le _⟩) (fun r H1 locs1 hw hP hS => ?_)
  subst hw
  refine lv_ishr hx hb dJ0_length_8abf5_9 ?_
  exact rq_i0 C0 rfl (sb_shr0 _) hS dJ0_length_8abf5_10
set_option maxHeartbeats 4000000 in
set_option maxRecDepth 100000 in
theorem c_J_isEmpty (l : Launch) (D : va_G) (cy : Nat → ClassId) (adK adV : Nat → Nat) (i sz : Nat) (hi : i < 13) : Met l yJ0_isEmpty_aae02 wsJ0_isEmpty_aae02 ({ frames := 0, cells := 0, slots := 0, locals := 0 } : Room) (va_Pc [.ref (adK i)] (PWS adK adV D cy [] sz)) (QJi (fun r _ => r = sE i) (va_A [] sz)) 0 0 (va_A [] sz) := by
  refine met_enterS (Qc := fun A => QJi (fun r _ => r = sE i) A) (lv0 := [(0, .ref (adK i))]) (by decide) rfl (Nat.le_of_ble_eq_true rfl) rfl ?_
  intro p e s m below meth c A ls hSW C0 hP hD hS hl
  have C0 : CX cJ0_isEmpty_aae02 1 (some .boolean) RJ0 wsJ0_isEmpty_aae02 D cy p s m _ meth c A := C0
  obtain ⟨hx, hb, hr, hml, hown, hts, hK, hA, hN, hlocks⟩ := id C0
  refine lv_aload_n hx hb dJ0_isEmpty_aae02_0 rfl (lv_at hl 0 rfl) ?_
  refine vk_getf hx hb (hSW.1.1 i hi).2.2.1 hS hown (hts (.fieldLink RJ0 9 "java/lang/String" "value" "[B") (by decide +kernel)) (fun _ h9 => h9) dJ0_isEmpty_aae02_1 ?_
  refine va_tlen (v := sL i) hx hb (hSW.1.1 i hi).2.2.2 hS rfl dJ0_isEmpty_aae02_4 ?_
  refine lv_if_ne (tgt := 12) hx hb dJ0_isEmpty_aae02_5 (by decide) (fun hc => ?_) (fun hc => ?_)
  · refine lv_iconst (v := 0) hx hb dJ0_isEmpty_aae02_12 (by decide) ?_
    exact rq_i0 C0 (by decide) (by unfold sE; rw [if_neg hc]) hS dJ0_isEmpty_aae02_13
  · refine lv_iconst (v := 1) hx hb dJ0_isEmpty_aae02_8 (by decide) ?_
    refine lv_goto (tgt := 13) hx hb dJ0_isEmpty_aae02_9 (by decide) ?_
    exact rq_i0 C0 (by decide) (by unfold sE; rw [if_pos hc]) hS dJ0_isEmpty_aae02_13
set_option maxHeartbeats 4000000 in
set_option maxRecDepth 100000 in
theorem c_J_pci (l : Launch) (D : va_G) (cy : Nat → ClassId) (adK adV : Nat → Nat) (sz : Nat) (k n : Int32) (fv : Value) (hfv : fv = .null ∨ ∃ t : Nat, fv = .ref t) (h0 : ¬ k < 0) (h1 : k < n) : Met l yJ3_checkIndex_8e157 wsJ3_checkIndex_8e157 ({ frames := 0, cells := 0, slots := 0, locals := 0 } : Room) (va_Pc [.int k, .int n, fv] (PWS adK adV D cy [] sz)) (QJi (fun r _ => r = k) (va_A [] sz)) 0 0 (va_A [] sz) := by
  have hlv : lv_args 0 [.int k, .int n, fv] = [(0, .int k), (1, .int n), (2, fv)] := by rcases hfv with rfl | ⟨t, rfl⟩ <;> rfl
  have hlen : (lg_sl [.int k, .int n, fv]).length ≤ 3 := by rcases hfv with rfl | ⟨t, rfl⟩ <;> exact Nat.le_of_ble_eq_true rfl
  refine met_enterS (Qc := fun A => QJi (fun r _ => r = k) A) (lv0 := [(0, .int k), (1, .int n), (2, fv)]) (by decide) rfl hlen hlv ?_
  intro p e s m below meth c A ls hSW C0 hP hD hS hl
  have C0 : CX cJ3_checkIndex_8e157 3 (some .int) RJ3 wsJ3_checkIndex_8e157 D cy p s m _ meth c A := C0
  obtain ⟨hx, hb, hr, hml, hown, hts, hK, hA, hN, hlocks⟩ := id C0
  refine lv_iload_n hx hb dJ3_checkIndex_8e157_0 rfl (lv_at hl 0 rfl) ?_
  refine lv_if_lt (tgt := 9) hx hb dJ3_checkIndex_8e157_1 (by decide) (fun hc => absurd hc h0) (fun _ => ?_)
  refine lv_iload_n hx hb dJ3_checkIndex_8e157_4 rfl (lv_at hl 0 rfl) ?_
  refine lv_iload_n hx hb dJ3_checkIndex_8e157_5 rfl (lv_at hl 1 rfl) ?_
  refine lv_icmp_lt (tgt := 16) hx hb dJ3_checkIndex_8e157_6 (by decide) (fun _ => ?_) (fun hc => absurd h1 hc)
  refine lv_iload_n hx hb dJ3_checkIndex_8e157_16 rfl (lv_at hl 0 rfl) ?_
  exact rq_i0 C0 rfl rfl hS dJ3_checkIndex_8e157_17
set_option maxHeartbeats 4000000 in
set_option maxRecDepth 100000 in
theorem c_J_check (l : Launch) (D : va_G) (cy : Nat → ClassId) (adK adV : Nat → Nat) (sz : Nat) (k n : Int32) (h0 : ¬ k < 0) (h1 : k < n) : Met l yJ0_checkIndex_df160 wsJ0_checkIndex_df160 ({ frames := 1, cells := 0, slots := 0, locals := 22 } : Room) (va_Pc [.int k, .int n] (PWS adK adV D cy [] sz)) (va_Qv (fun (_ : Unit) => True) (fun (_ : Unit) (_ : State) => True) (va_A [] sz)) 0 0 (va_A [] sz) := by
  refine met_enterS (Qc := fun A => va_Qv (fun (_ : Unit) => True) (fun (_ : Unit) (_ : State) => True) A) (lv0 := [(0, .int k), (1, .int n)]) (by decide) rfl (Nat.le_of_ble_eq_true rfl) rfl ?_
  intro p e s m below meth c A ls hSW C0 hP hD hS hl
  have C0 : CX cJ0_checkIndex_df160 2 none RJ0 wsJ0_checkIndex_df160 D cy p s m _ meth c A := C0
  obtain ⟨hx, hb, hr, hml, hown, hts, hK, hA, hN, hlocks⟩ := id C0
  refine lv_iload_n hx hb dJ0_checkIndex_df160_0 rfl (lv_at hl 0 rfl) ?_
  refine lv_iload_n hx hb dJ0_checkIndex_df160_1 rfl (lv_at hl 1 rfl) ?_
  obtain ⟨fv, hfv, hZ⟩ : ∃ fv : Value, (fv = .null ∨ ∃ t : Nat, fv = .ref t) ∧ va_Z "jdk/internal/util/Preconditions" "SIOOBE_FORMATTER" "Ljava/util/function/BiFunction;" fv A s s.heap := by
    rcases hSW.2.2.2 with h | ⟨t, h⟩
    · exact ⟨_, Or.inl rfl, h⟩
    · exact ⟨_, Or.inr ⟨t, rfl⟩, h⟩
  refine va_gets hx hb hZ hS hown (hts (.fieldLink RJ0 1053 "jdk/internal/util/Preconditions" "SIOOBE_FORMATTER" "Ljava/util/function/BiFunction;") (by decide +kernel)) (fun _ h9 => h9) dJ0_checkIndex_df160_2 ?_
  refine cq_i0 C0 hP hS (va_runS (As := [.int k, .int n, fv]) (rest := []) ⟨hx, hb, hml, hown, hts⟩ (c_J_pci l D cy adK adV _ k n fv hfv h0 h1) (va_cwS 3 hts gJ0_checkIndex_df160_J3_checkIndex_8e157 rfl rfl rfl (by decide +kernel) ⟨Nat.le_of_ble_eq_true rfl, Nat.le_of_ble_eq_true rfl⟩) (preS_S hSW hS (freeNil hS hA) (fun k q h => by simp at h) hK ⟨fun i j p q h => by simp at h, fun k q h => by simp at h⟩ hN) rfl rfl hl.1 rfl (lv_room (Nat.le_of_ble_eq_true rfl)) dJ0_checkIndex_df160_5 ⟨Nat.zero_le _, Nat.zero_le _⟩) (fun r H1 locs1 hw hP hS => ?_)
  refine lv_pop hx hb dJ0_checkIndex_df160_8 rfl ?_
  exact rq_v0 C0 trivial hS dJ0_checkIndex_df160_9
set_option maxHeartbeats 4000000 in
set_option maxRecDepth 100000 in
theorem c_J_lat (l : Launch) (D : va_G) (cy : Nat → ClassId) (adK adV : Nat → Nat) (i sz : Nat) (hi : i < 13) (k : Int32) (hk : inb k (lenS.getD i 0) = true) (h0 : ¬ k < 0) (h1 : k < sL i) : Met l yJ1_charAt_3b067 wsJ1_charAt_3b067 ({ frames := 2, cells := 0, slots := 0, locals := 43 } : Room) (va_Pc [.ref (adV i), .int k] (PWS adK adV D cy [] sz)) (QJi (fun r _ => r = sC i k) (va_A [] sz)) 0 0 (va_A [] sz) := by
  refine met_enterS (Qc := fun A => QJi (fun r _ => r = sC i k) A) (lv0 := [(0, .ref (adV i)), (1, .int k)]) (by decide) rfl (Nat.le_of_ble_eq_true rfl) rfl ?_
  intro p e s m below meth c A ls hSW C0 hP hD hS hl
  have C0 : CX cJ1_charAt_3b067 2 (some .char) RJ1 wsJ1_charAt_3b067 D cy p s m _ meth c A := C0
  obtain ⟨hx, hb, hr, hml, hown, hts, hK, hA, hN, hlocks⟩ := id C0
  refine lv_iload_n hx hb dJ1_charAt_3b067_0 rfl (lv_at hl 1 rfl) ?_
  refine lv_aload_n hx hb dJ1_charAt_3b067_1 rfl (lv_at hl 0 rfl) ?_
  refine va_tlen (v := sL i) hx hb (hSW.1.1 i hi).2.2.2 hS rfl dJ1_charAt_3b067_2 ?_
  refine cq_v0 C0 hP hS (va_runS (As := [.int k, .int (sL i)]) (rest := []) ⟨hx, hb, hml, hown, hts⟩ (c_J_check l D cy adK adV _ k (sL i) h0 h1) (va_cwS 2 hts gJ1_charAt_3b067_J0_checkIndex_df160 rfl rfl rfl (by decide +kernel) ⟨Nat.le_of_ble_eq_true rfl, Nat.le_of_ble_eq_true rfl⟩) (preS_S hSW hS (freeNil hS hA) (fun k q h => by simp at h) hK ⟨fun i j p q h => by simp at h, fun k q h => by simp at h⟩ hN) rfl rfl hl.1 rfl (lv_room (Nat.le_of_ble_eq_true rfl)) dJ1_charAt_3b067_3 ⟨Nat.zero_le _, Nat.zero_le _⟩) (fun H1 locs1 hw hP hS => ?_)
  refine lv_aload_n hx hb dJ1_charAt_3b067_6 rfl (lv_at hl 0 rfl) ?_
  refine lv_iload_n hx hb dJ1_charAt_3b067_7 rfl (lv_at hl 1 rfl) ?_
  refine va_tb (v := .int ((bytS.getD i []).getD k.toNatClampNeg 0)) hx hb (hSW.1.1 i hi).2.2.2 hS (inb_in hk) rfl dJ1_charAt_3b067_8 ?_
  refine lv_sipush (v := 255) hx hb dJ1_charAt_3b067_9 (by decide) ?_
  refine lv_iand hx hb dJ1_charAt_3b067_12 ?_
  refine lv_i2c (v := sC i k) hx hb dJ1_charAt_3b067_13 rfl ?_
  exact rq_i0 C0 (pk_nc _) rfl hS dJ1_charAt_3b067_14
set_option maxHeartbeats 4000000 in
set_option maxRecDepth 100000 in
theorem c_J_charAt (l : Launch) (D : va_G) (cy : Nat → ClassId) (adK adV : Nat → Nat) (i sz : Nat) (hi : i < 13) (k : Int32) (hk : inb k (lenS.getD i 0) = true) (h0 : ¬ k < 0) (h1 : k < sL i) : Met l yJ0_charAt_5068e wsJ0_charAt_5068e ({ frames := 3, cells := 0, slots := 0, locals := 64 } : Room) (va_Pc [.ref (adK i), .int k] (PWS adK adV D cy [] sz)) (QJi (fun r _ => r = sC i k) (va_A [] sz)) 0 0 (va_A [] sz) := by
  refine met_enterS (Qc := fun A => QJi (fun r _ => r = sC i k) A) (lv0 := [(0, .ref (adK i)), (1, .int k)]) (by decide) rfl (Nat.le_of_ble_eq_true rfl) rfl ?_
  intro p e s m below meth c A ls hSW C0 hP hD hS hl
  have C0 : CX cJ0_charAt_5068e 2 (some .char) RJ0 wsJ0_charAt_5068e D cy p s m _ meth c A := C0
  obtain ⟨hx, hb, hr, hml, hown, hts, hK, hA, hN, hlocks⟩ := id C0
  refine lv_aload_n hx hb dJ0_charAt_5068e_0 rfl (lv_at hl 0 rfl) ?_
  refine cq_i0 C0 hP hS (va_runV (As := []) (rest := []) ⟨hx, hb, hml, hown, hts⟩ (c_J_isLatin1 l D cy adK adV i _ hi) (cwV 0 hts gJ0_charAt_5068e_J0_isLatin1_aae02 rfl rfl rfl (by decide +kernel) ⟨Nat.le_of_ble_eq_true rfl, Nat.le_of_ble_eq_true rfl⟩) (preS_J hSW hi hS (freeNil hS hA) hK hN) rfl rfl hl.1 rfl (lv_room (Nat.le_of_ble_eq_true rfl)) dJ0_charAt_5068e_1 ⟨Nat.zero_le _, Nat.zero_le _⟩) (fun r H1 locs1 hw hP hS => ?_)
  subst hw
  refine lv_if_eq (tgt := 16) hx hb dJ0_charAt_5068e_4 (by decide) (fun hc => absurd hc (by decide)) (fun _ => ?_)
  refine lv_aload_n hx hb dJ0_charAt_5068e_7 rfl (lv_at hl 0 rfl) ?_
  refine vk_getf hx hb (hSW.1.1 i hi).2.2.1 hS hown (hts (.fieldLink RJ0 9 "java/lang/String" "value" "[B") (by decide +kernel)) (fun _ h9 => h9) dJ0_charAt_5068e_8 ?_
  refine lv_iload_n hx hb dJ0_charAt_5068e_11 rfl (lv_at hl 1 rfl) ?_
  refine cq_i0 C0 hP hS (va_runS (As := [.ref (adV i), .int k]) (rest := []) ⟨hx, hb, hml, hown, hts⟩ (c_J_lat l D cy adK adV i _ hi k hk h0 h1) (va_cwS 2 hts gJ0_charAt_5068e_J1_charAt_3b067 rfl rfl rfl (by decide +kernel) ⟨Nat.le_of_ble_eq_true rfl, Nat.le_of_ble_eq_true rfl⟩) (preS_S hSW hS (freeNil hS hA) (fun k q h => by simp at h) hK ⟨fun i j p q h => by simp at h, fun k q h => by simp at h⟩ hN) rfl rfl hl.1 rfl (lv_room (Nat.le_of_ble_eq_true rfl)) dJ0_charAt_5068e_12 ⟨Nat.zero_le _, Nat.zero_le _⟩) (fun r H1 locs1 hw hP hS => ?_)
  subst hw
  exact rq_i0 C0 (pk_nc _) rfl hS dJ0_charAt_5068e_15
theorem sL_lt : ∀ i, i < 13 → ∀ k : Nat, k < lenS.getD i 0 → Int32.ofNat k < sL i := by decide +kernel
theorem inb_sL {i : Nat} (hi : i < 13) {k : Int32} (h : inb k (lenS.getD i 0) = true) : ¬ k < 0 ∧ k < sL i := by
  have h2 := inb_in h
  have hb : lenS.getD i 0 < 2 ^ 31 := by
    have : ∀ i, i < 13 → lenS.getD i 0 < 2 ^ 31 := by decide +kernel
    exact this i hi
  obtain ⟨j, hj, rfl⟩ := vp_in_of h2 hb
  exact ⟨nI_pos (by omega), sL_lt i hi j hj⟩
