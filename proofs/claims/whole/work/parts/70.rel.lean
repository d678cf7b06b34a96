/-! the relation of both sides -/
def R1 (fp rb ft st : Int32) : Prop := fp = ft ∧ rb = st
def R2 (ww wk : Nat → Int32) (wt : Int32) (mw mk : Nat → Int32) (mt : Int32) : Prop := ww = mw ∧ wk = mk ∧ wt = mt ∧ ∃ k : Nat, k ≤ 40 ∧ wt = nI k
def R3 (s wts : Nat → Int32) (C B : Nat → Int64) (en dr mr cr : Int32) (ms : Nat → Int32) (me : Int32) : Prop := s = ms ∧ en = me ∧ PI s wts C B en dr mr cr
def R4 (ht hw ha : Nat → Int32) (hl : Int32) (mt mw ma : Nat → Int32) (ml : Int32) : Prop := ht = mt ∧ hw = mw ∧ ha = ma ∧ hl = ml ∧ apOK ha ∧ ∃ k : Nat, k ≤ 12 ∧ hl = nI k ∧ ∀ j, j < k → wi (ht j) 1 200 ∧ wi (hw j) 0 10000
def R5 (vs vf vt : Nat → Int32) (vl : Int32) (ms lf lt : Nat → Int32) (ml : Int32) : Prop := vs = ms ∧ vl = ml ∧ abOK vf vt lf lt ∧ ∃ g : Nat, g ≤ 10 ∧ vl = nI g ∧ ∀ j, j < g → wi (vs j) 0 100000
def R6 (bO port berth first last gv : Nat → Int32) (told held : Int32) (mb : Nat → Int32) (ms : Int32) (sp sb sf sl : Nat → Int32) : Prop := bO = mb ∧ berth = sb ∧ first = sf ∧ last = sl ∧ told = ms ∧ (∀ p, p < 6 → wi (bO p) 1 3) ∧ ∃ k : Nat, k ≤ 60 ∧ told = nI k ∧ slotsOK port berth first last gv sp k ∧ held = nI (heldN gv k) ∧ ∀ s, k ≤ s → gv s = 0
def R7 (tb : Nat → Int32) (tl : Int32) (mt : Nat → Int32) (ml : Int32) : Prop := tb = mt ∧ tl = ml ∧ ∃ n : Nat, n ≤ 200 ∧ tl = nI n ∧ ∀ j, j < n → wi (tb j) 0 255
def R8 (ak aa am : Nat → Int32) (ac mc : Int32) (cs ca cb : Nat → Int32) : Prop := ∃ k : Nat, k ≤ 20 ∧ ac = nI k ∧ mc = nI k ∧ tmOK ak aa am cs ca cb k
theorem st_winds {ww wk : Nat → Int32} {wt : Int32} {mw mk : Nat → Int32} {mt : Int32} (h : R2 ww wk wt mw mk mt) (rb th st a b c d y : Int32) : ∃ X Y, f_X8_winds rb ww wk wt a b c d y = some X ∧ f_X9_winds th st mt mw mk a b c d y = some Y ∧ X.1 = Y.1 ∧ X.2.1 = Y.2.2.1 ∧ R2 X.2.2.1 X.2.2.2.1 X.2.2.2.2 Y.2.2.2.2.1 Y.2.2.2.2.2 Y.2.2.2.1 := by
  obtain ⟨rfl, rfl, rfl, k, hk, rfl⟩ := h
  obtain ⟨X, Y, e1, e2, e3, e4, e5, e6, e7, k', k1, k2⟩ := sx_winds rb th st k hk ww wk a b c d y
  exact ⟨X, Y, e1, e2, e3, e4, e5, e6, e7, k', k1, k2⟩
theorem st_weight {ww wk : Nat → Int32} {wt : Int32} {mw mk : Nat → Int32} {mt : Int32} (h : R2 ww wk wt mw mk mt) (th : Int32) (wz : Nat → Int32) (a b : Int32) : ∃ X Y, f_X8_weight ww wk wt a b = some X ∧ f_X9_weight th mt mw mk wz a b = some Y ∧ X = Y.1 := by
  obtain ⟨rfl, rfl, rfl, k, hk, rfl⟩ := h
  exact sx_weight th ww wk k hk wz a b
theorem slO_wi {s : Nat → Int32} {sl : Nat → Nat} (h : slO s sl) : ∀ w, w < 4 → wi (s w) 0 20 = true := by
  intro w hw
  rw [(h w hw).1]
  have := (h w hw).2
  exact (wi_nI (by omega) _ _).mpr ⟨by omega, by omega⟩
theorem wi_slO {s : Nat → Int32} (h : ∀ w, w < 4 → wi (s w) 0 20 = true) : slO s (fun w => (s w).toNatClampNeg) := by
  intro w hw
  obtain ⟨x, hx, e⟩ := wi_nat (b := 20) (h w hw) (by omega)
  show s w = nI (s w).toNatClampNeg ∧ (s w).toNatClampNeg ≤ 20
  rw [e, nI_clamp (by omega)]
  exact ⟨rfl, hx⟩
theorem st_sails {s wts : Nat → Int32} {C B : Nat → Int64} {en dr mr cr : Int32} {ms : Nat → Int32} {me : Int32} (h : R3 s wts C B en dr mr cr ms me) (rb th st a b : Int32) : ∃ X Y, f_X8_sails rb s dr a b = some X ∧ f_X9_sails th st ms a b = some Y ∧ X.1 = Y.1 ∧ X.2.1 = Y.2.2.1 ∧ R3 X.2.2.1 wts C B en X.2.2.2 mr cr Y.2.2.2 me := by
  obtain ⟨rfl, rfl, hp⟩ := h
  obtain ⟨sl, e, D, M, K, p1, p2, p3, p4, p5, p6, p7, p8, p9, p10⟩ := hp
  obtain ⟨X, Y, e1, e2, e3, e4, e5, e6, e7⟩ := sx_sails rb th st dr s (slO_wi p1) a b
  refine ⟨X, Y, e1, e2, e3, e4, e5, rfl, ?_⟩
  rcases e7 with ⟨q1, q2⟩ | q
  · rw [q1, q2]
    exact ⟨sl, e, D, M, K, p1, p2, p3, p4, p5, p6, p7, p8, p9, p10⟩
  · exact ⟨_, e, 0, M, K, wi_slO e6, p2, p3, q, p5, p6, by omega, p8, p9, p10.reset p8 p9⟩
theorem st_engine {s wts : Nat → Int32} {C B : Nat → Int64} {en dr mr cr : Int32} {ms : Nat → Int32} {me : Int32} (h : R3 s wts C B en dr mr cr ms me) (rb th st a : Int32) : ∃ X Y, f_X8_engine rb en dr a = some X ∧ f_X9_engine th st me a = some Y ∧ X.1 = Y.1 ∧ X.2.1 = Y.2.2.1 ∧ R3 s wts C B X.2.2.1 X.2.2.2 mr cr ms Y.2.2.2 := by
  obtain ⟨rfl, rfl, hp⟩ := h
  obtain ⟨sl, e, D, M, K, p1, p2, p3, p4, p5, p6, p7, p8, p9, p10⟩ := hp
  obtain ⟨X, Y, e1, e2, e3, e4, e5, e6, e7⟩ := sx_engine rb th st dr en (by rw [p2]; exact (wi_nI (by omega) _ _).mpr ⟨by omega, by omega⟩) a
  refine ⟨X, Y, e1, e2, e3, e4, rfl, e5, ?_⟩
  rcases e7 with ⟨q1, q2⟩ | q
  · rw [q1, q2]
    exact ⟨sl, e, D, M, K, p1, p2, p3, p4, p5, p6, p7, p8, p9, p10⟩
  · obtain ⟨x, hx, ex⟩ := wi_nat (b := 20) e6 (by omega)
    exact ⟨sl, x, 0, M, K, p1, ex, hx, q, p5, p6, by omega, p8, p9, p10.reset p8 p9⟩
theorem st_luck {ww wk : Nat → Int32} {wt : Int32} {mw mk : Nat → Int32} {mt : Int32} (h2 : R2 ww wk wt mw mk mt) {s wts : Nat → Int32} {C B : Nat → Int64} {en dr mr cr : Int32} {ms : Nat → Int32} {me : Int32} (h : R3 s wts C B en dr mr cr ms me) (th : Int32) (C9 B9 : Nat → Int64) (wz : Nat → Int32) (wo : Int32) (wc wb : Int64) (a b c y o : Int32) : ∃ X Y, f_X8_luck s wts C B en dr mr cr ww wk wt a b c y o = some X ∧ f_X9_luck th mt mw mk ms me C9 B9 wz wo wc wb a b c y o = some Y ∧ X.1 = Y.1 ∧ R3 s X.2.1 X.2.2.1 X.2.2.2.1 en X.2.2.2.2.1 X.2.2.2.2.2.1 X.2.2.2.2.2.2 ms me := by
  obtain ⟨rfl, rfl, hp⟩ := h
  obtain ⟨rfl, rfl, rfl, k, hk, rfl⟩ := h2
  obtain ⟨X, Y, e1, e2, e3, e4⟩ := sx_luck th hp ww wk k hk C9 B9 wz wo wc wb a b c y o
  exact ⟨X, Y, e1, e2, e3, rfl, rfl, e4⟩
theorem st_choice {ww wk : Nat → Int32} {wt : Int32} {mw mk : Nat → Int32} {mt : Int32} (h2 : R2 ww wk wt mw mk mt) {s wts : Nat → Int32} {C B : Nat → Int64} {en dr mr cr : Int32} {ms : Nat → Int32} {me : Int32} (h : R3 s wts C B en dr mr cr ms me) (th : Int32) (C9 B9 : Nat → Int64) (wz : Nat → Int32) (wo : Int32) (wc wb : Int64) (a b c v y : Int32) : ∃ X Y, f_X8_choice s wts C B en dr mr cr ww wk wt a b c v y = some X ∧ f_X9_choice th mt mw mk ms me C9 B9 wz wo wc wb a b c v y = some Y ∧ X.1 = Y.1 ∧ R3 s X.2.1 X.2.2.1 X.2.2.2.1 en X.2.2.2.2.1 X.2.2.2.2.2.1 X.2.2.2.2.2.2 ms me := by
  obtain ⟨rfl, rfl, hp⟩ := h
  obtain ⟨rfl, rfl, rfl, k, hk, rfl⟩ := h2
  obtain ⟨X, Y, e1, e2, e3, e4⟩ := sx_choice th hp ww wk k hk C9 B9 wz wo wc wb a b c v y
  exact ⟨X, Y, e1, e2, e3, rfl, rfl, e4⟩
theorem st_promise {ww wk : Nat → Int32} {wt : Int32} {mw mk : Nat → Int32} {mt : Int32} (h2 : R2 ww wk wt mw mk mt) {s wts : Nat → Int32} {C B : Nat → Int64} {en dr mr cr : Int32} {ms : Nat → Int32} {me : Int32} (h : R3 s wts C B en dr mr cr ms me) (th : Int32) (C9 B9 : Nat → Int64) (wz : Nat → Int32) (wo : Int32) (wc wb : Int64) (a c y o : Int32) : ∃ X Y, f_X8_promise s wts C B en dr mr cr ww wk wt a c y o = some X ∧ f_X9_promise th mt mw mk ms me C9 B9 wz wo wc wb a c y o = some Y ∧ X.1 = Y.1 ∧ R3 s X.2.1 X.2.2.1 X.2.2.2.1 en X.2.2.2.2.1 X.2.2.2.2.2.1 X.2.2.2.2.2.2 ms me := by
  obtain ⟨rfl, rfl, hp⟩ := h
  obtain ⟨rfl, rfl, rfl, k, hk, rfl⟩ := h2
  obtain ⟨X, Y, e1, e2, e3, e4⟩ := sx_promise th hp ww wk k hk C9 B9 wz wo wc wb a c y o
  exact ⟨X, Y, e1, e2, e3, rfl, rfl, e4⟩
theorem st_load {ht hw ha : Nat → Int32} {hl : Int32} {mt mw ma : Nat → Int32} {ml : Int32} (h : R4 ht hw ha hl mt mw ma ml) (rb th st a b : Int32) : ∃ X Y, f_X8_load rb ht hw hl a b = some X ∧ f_X9_load th st ml mt mw a b = some Y ∧ X.1 = Y.1 ∧ X.2.1 = Y.2.2.1 ∧ R4 X.2.2.1 X.2.2.2.1 ha X.2.2.2.2 Y.2.2.2.2.1 Y.2.2.2.2.2 ma Y.2.2.2.1 := by
  obtain ⟨rfl, rfl, rfl, rfl, q, k, hk, rfl, hb⟩ := h
  obtain ⟨X, Y, e1, e2, e3, e4, e5, e6, e7, k', k1, k2, k3, k4⟩ := sx_load rb th st k hk ht hw hb a b
  exact ⟨X, Y, e1, e2, e3, e4, e5, e6, rfl, e7, q, k', k2, k3, k4⟩
theorem st_apart {ht hw ha : Nat → Int32} {hl : Int32} {mt mw ma : Nat → Int32} {ml : Int32} (h : R4 ht hw ha hl mt mw ma ml) (rb th st a b z : Int32) : ∃ X Y, f_X8_apart rb ha hl a b z = some X ∧ f_X9_apart th st ml ma a b z = some Y ∧ X.1 = Y.1 ∧ X.2.1 = Y.2.2.1 ∧ R4 ht hw X.2.2 hl mt mw Y.2.2.2 ml := by
  obtain ⟨rfl, rfl, rfl, rfl, q, k, hk, rfl, hb⟩ := h
  obtain ⟨X, Y, e1, e2, e3, e4, e5, e6⟩ := sx_apart rb th st ha k hk q a b z
  exact ⟨X, Y, e1, e2, e3, e4, rfl, rfl, e5, rfl, e6, k, hk, rfl, hb⟩
theorem st_stow {ht hw ha : Nat → Int32} {hl : Int32} {mt mw ma : Nat → Int32} {ml : Int32} (h : R4 ht hw ha hl mt mw ma ml) (r0 r1 r2 r3 th a z : Int32) : ∃ X Y, f_X8_stow ht hw ha hl r0 r1 r2 r3 a z = some X ∧ f_X9_stow th ml mt mw ma a z = some Y ∧ X.1 = Y.1 := by
  obtain ⟨rfl, rfl, rfl, rfl, q, k, hk, rfl, hb⟩ := h
  exact sx_stow th ht hw ha k hk hb q r0 r1 r2 r3 a z
theorem st_berths {bO port berth first last gv : Nat → Int32} {told held : Int32} {mb : Nat → Int32} {ms : Int32} {sp sb sf sl : Nat → Int32} (h : R6 bO port berth first last gv told held mb ms sp sb sf sl) (rb th st a b : Int32) : ∃ X Y, f_X8_berths rb bO port berth gv told a b = some X ∧ f_X9_berths th st mb ms sp sb a b = some Y ∧ X.1 = Y.1 ∧ X.2.1 = Y.2.2.1 ∧ R6 X.2.2 port berth first last gv told held Y.2.2.2 ms sp sb sf sl := by
  obtain ⟨rfl, rfl, rfl, rfl, rfl, hb, k, hk, rfl, hs, rfl, hz⟩ := h
  obtain ⟨X, Y, e1, e2, e3, e4, e5, e6⟩ := sx_berths rb th st bO port berth first last gv sp k hk hs hb a b
  exact ⟨X, Y, e1, e2, e3, e4, e5, rfl, rfl, rfl, rfl, e6, k, hk, rfl, hs, rfl, hz⟩
theorem st_slot {bO port berth first last gv : Nat → Int32} {told held : Int32} {mb : Nat → Int32} {ms : Int32} {sp sb sf sl : Nat → Int32} (h : R6 bO port berth first last gv told held mb ms sp sb sf sl) (rb th st a b c : Int32) : ∃ X Y, f_X8_slot rb bO port berth first last gv told held a b c = some X ∧ f_X9_slot th st mb ms sp sb sf sl a b c = some Y ∧ X.1 = Y.1 ∧ X.2.1 = Y.2.2.1 ∧ R6 bO X.2.2.1 X.2.2.2.1 X.2.2.2.2.1 X.2.2.2.2.2.1 gv X.2.2.2.2.2.2.1 X.2.2.2.2.2.2.2 mb Y.2.2.2.1 Y.2.2.2.2.1 Y.2.2.2.2.2.1 Y.2.2.2.2.2.2.1 Y.2.2.2.2.2.2.2 := by
  obtain ⟨rfl, rfl, rfl, rfl, rfl, hb, k, hk, rfl, hs, rfl, hz⟩ := h
  obtain ⟨X, Y, e1, e2, e3, e4, k', k1, k2, k3, k4, k5, k6, k7, k8, k9⟩ := sx_slot rb th st bO port berth first last gv sp k hk hs hb hz a b c
  exact ⟨X, Y, e1, e2, e3, e4, rfl, k4, k5, k6, by rw [k2, k3], hb, k', k1, k2, k7, k8, k9⟩
theorem st_of {bO port berth first last gv : Nat → Int32} {told held : Int32} {mb : Nat → Int32} {ms : Int32} {sp sb sf sl : Nat → Int32} (h : R6 bO port berth first last gv told held mb ms sp sb sf sl) (th a b : Int32) : ∃ X Y, f_X8_of port berth first last gv told a b = some X ∧ f_X9_of th ms sp sb sf sl a b = some Y ∧ X = Y.1 := by
  obtain ⟨rfl, rfl, rfl, rfl, rfl, hb, k, hk, rfl, hs, rfl, hz⟩ := h
  exact sx_of th port berth first last gv sp k hk hs a b
theorem st_free {bO port berth first last gv : Nat → Int32} {told held : Int32} {mb : Nat → Int32} {ms : Int32} {sp sb sf sl : Nat → Int32} (h : R6 bO port berth first last gv told held mb ms sp sb sf sl) (rb th st a : Int32) : ∃ X Y, f_X8_free rb gv told held a = some X ∧ f_X9_free th st ms sp a = some Y ∧ X.1 = Y.1 ∧ X.2.1 = Y.2.2.1 ∧ R6 bO port berth first last X.2.2.1 told X.2.2.2 mb ms Y.2.2.2 sb sf sl := by
  obtain ⟨rfl, rfl, rfl, rfl, rfl, hb, k, hk, rfl, hs, rfl, hz⟩ := h
  obtain ⟨X, Y, e1, e2, e3, e4, e5, e6, e7⟩ := sx_free rb th st port berth first last gv sp k hk hs a
  exact ⟨X, Y, e1, e2, e3, e4, rfl, rfl, rfl, rfl, rfl, hb, k, hk, rfl, e5, e6, fun s hs' => by rw [e7 s hs']; exact hz s hs'⟩
theorem st_feed {tb : Nat → Int32} {tl : Int32} {mt : Nat → Int32} {ml : Int32} (h : R7 tb tl mt ml) (th a b c d e : Int32) : ∃ X Y, f_X8_feed tb tl a b c d e = some X ∧ f_X9_feed th mt ml a b c d e = some Y ∧ X.1 = Y.1 ∧ R7 X.2.1 X.2.2 Y.2.2.1 Y.2.2.2 := by
  obtain ⟨rfl, rfl, n, hn, rfl, hb⟩ := h
  obtain ⟨X, Y, e1, e2, e3, e4, e5, n', n1, n2, n3⟩ := sx_feed th tb n hn hb a b c d e
  exact ⟨X, Y, e1, e2, e3, e4, e5, n', n1, n2, n3⟩
theorem st_end {tb : Nat → Int32} {tl : Int32} {mt : Nat → Int32} {ml : Int32} (h : R7 tb tl mt ml) (th a : Int32) : ∃ X Y, f_X8_end tl a = some X ∧ f_X9_end th ml a = some Y ∧ X.1 = Y.1 ∧ R7 tb X.2 mt Y.2.2 := by
  obtain ⟨rfl, rfl, n, hn, rfl, hb⟩ := h
  obtain ⟨X, Y, e1, e2, e3, e4, n', n1, n2⟩ := sx_end th n hn a
  exact ⟨X, Y, e1, e2, e3, rfl, e4, n', by omega, n2, fun j hj => hb j (by omega)⟩
theorem st_contract {tb : Nat → Int32} {tl : Int32} {mt : Nat → Int32} {ml : Int32} (h : R7 tb tl mt ml) {ak aa am : Nat → Int32} {ac mc : Int32} {cs ca cb : Nat → Int32} (h8 : R8 ak aa am ac mc cs ca cb) (fp rb rs re : Int32) (dk da dm : Nat → Int32) (dc th st nM : Int32) (nC : Nat → Int32) (fr to so : Int32) (wo : Int64) (ft bd : Int32) :
    ∃ X Y, f_X8_contract fp rb rs re tb tl ak aa am ac dk da dm dc = some X ∧ f_X9_contract th st mc cs ca cb nM nC mt ml fr to so wo ft bd = some Y ∧ X.1 = Y.1 ∧ R1 X.2.1 X.2.2.1 Y.2.2.2.2.2.2.2.2.2.2.2.2.2.2.1 Y.2.2.1 ∧ R7 tb X.2.2.2.2.2.1 mt Y.2.2.2.2.2.2.2.2.2.1 ∧ R8 X.2.2.2.2.2.2.1 X.2.2.2.2.2.2.2.1 X.2.2.2.2.2.2.2.2.1 X.2.2.2.2.2.2.2.2.2.1 Y.2.2.2.1 Y.2.2.2.2.1 Y.2.2.2.2.2.1 Y.2.2.2.2.2.2.1 := by
  obtain ⟨rfl, rfl, n, hn, rfl, hb⟩ := h
  obtain ⟨k, hk, rfl, rfl, htm⟩ := h8
  obtain ⟨r, fp', rb', ts, te, ak', aa', am', ac', dk', da', dm', dc', th', cl', cs', ca', cb', nM', nC', fr', to', so', wo', bd', e1, e2, k', k1, k2, k3, k4⟩ := sx_contract fp rb th st rs re tb n hn hb ak aa am dk da dm dc cs ca cb k hk htm nM nC fr to so wo ft bd
  exact ⟨_, _, e1, e2, rfl, ⟨rfl, rfl⟩, ⟨rfl, rfl, 0, by omega, rfl, fun j hj => by omega⟩, ⟨k', k1, k2, k3, k4⟩⟩
theorem st_fault {fp rb ft st : Int32} (h : R1 fp rb ft st) (th : Int32) : ∃ X Y, f_X8_fault fp = some X ∧ f_X9_fault th ft = some Y ∧ X = Y.1 := by
  obtain ⟨rfl, rfl⟩ := h
  exact ⟨_, _, rfl, rfl, rfl⟩
theorem st_status {fp rb ft st : Int32} (h : R1 fp rb ft st) (th : Int32) : ∃ X Y, f_X8_status rb = some X ∧ f_X9_status th st = some Y ∧ X = Y.1 := by
  obtain ⟨rfl, rfl⟩ := h
  exact ⟨_, _, rfl, rfl, rfl⟩
theorem st_due {ak aa am : Nat → Int32} {ac mc : Int32} {cs ca cb : Nat → Int32} (h8 : R8 ak aa am ac mc cs ca cb) (th a b c : Int32) : ∃ X Y, f_X8_due ak aa am ac a b c = some X ∧ f_X9_due th mc cs ca cb a b c = some Y ∧ X = Y.1 := by
  obtain ⟨k, hk, rfl, rfl, htm⟩ := h8
  exact sx_due th ak aa am cs ca cb k hk htm a b c
theorem st_leg {vs vf vt : Nat → Int32} {vl : Int32} {ms lf lt : Nat → Int32} {ml : Int32} (h : R5 vs vf vt vl ms lf lt ml) (rb th st a : Int32) : ∃ X Y, f_X8_leg rb vs vl a = some X ∧ f_X9_leg th st ml ms a = some Y ∧ X.1 = Y.1 ∧ X.2.1 = Y.2.2.1 ∧ R5 X.2.2.1 vf vt X.2.2.2 Y.2.2.2.2 lf lt Y.2.2.2.1 := by
  obtain ⟨rfl, rfl, q, g, hg, rfl, hb⟩ := h
  obtain ⟨X, Y, e1, e2, e3, e4, e5, e6, k', k1, k2, k3, k4⟩ := sx_leg rb th st g hg vs hb a
  exact ⟨X, Y, e1, e2, e3, e4, e5, e6, q, k', k2, k3, k4⟩
theorem st_aboard {ht hw ha : Nat → Int32} {hl : Int32} {mt mw ma : Nat → Int32} {mll : Int32} (h4 : R4 ht hw ha hl mt mw ma mll) {vs vf vt : Nat → Int32} {vl : Int32} {ms lf lt : Nat → Int32} {ml : Int32} (h : R5 vs vf vt vl ms lf lt ml) (rb th st a b c : Int32) : ∃ X Y, f_X8_aboard rb hl vf vt vl a b c = some X ∧ f_X9_aboard th st mll lf lt ml a b c = some Y ∧ X.1 = Y.1 ∧ X.2.1 = Y.2.2.1 ∧ R5 vs X.2.2.1 X.2.2.2 vl ms Y.2.2.2.1 Y.2.2.2.2 ml := by
  obtain ⟨rfl, rfl, rfl, rfl, q4, k, hk, rfl, hb4⟩ := h4
  obtain ⟨rfl, rfl, q, g, hg, rfl, hb⟩ := h
  obtain ⟨X, Y, e1, e2, e3, e4, e5⟩ := sx_aboard rb th st k g hk hg vf vt lf lt q a b c
  exact ⟨X, Y, e1, e2, e3, e4, rfl, rfl, e5, g, hg, rfl, hb⟩
theorem st_part {ht hw ha : Nat → Int32} {hl : Int32} {mt mw ma : Nat → Int32} {mll : Int32} (h4 : R4 ht hw ha hl mt mw ma mll) {vs vf vt : Nat → Int32} {vl : Int32} {ms lf lt : Nat → Int32} {ml : Int32} (h : R5 vs vf vt vl ms lf lt ml) (th a b : Int32) : ∃ X Y, f_X8_part ht hl vs vf vt vl a b = some X ∧ f_X9_part th mll mt lf lt ml ms a b = some Y ∧ X = Y.1 := by
  obtain ⟨rfl, rfl, rfl, rfl, q4, k, hk, rfl, hb4⟩ := h4
  obtain ⟨rfl, rfl, q, g, hg, rfl, hb⟩ := h
  exact sx_part th ht hw vf vt lf lt vs k g hk hg hb4 q hb a b
theorem st_smoke {ht hw ha : Nat → Int32} {hl : Int32} {mt mw ma : Nat → Int32} {mll : Int32} (h4 : R4 ht hw ha hl mt mw ma mll) {vs vf vt : Nat → Int32} {vl : Int32} {ms lf lt : Nat → Int32} {ml : Int32} (h : R5 vs vf vt vl ms lf lt ml) (th a : Int32) : ∃ X Y, f_X8_smoke ht hl vs vf vt vl a = some X ∧ f_X9_smoke th mll mt lf lt ml ms a = some Y ∧ X = Y.1 := by
  obtain ⟨rfl, rfl, rfl, rfl, q4, k, hk, rfl, hb4⟩ := h4
  obtain ⟨rfl, rfl, q, g, hg, rfl, hb⟩ := h
  exact sx_smoke th ht hw vf vt lf lt vs k g hk hg hb4 q hb a
theorem st_count {ww wk : Nat → Int32} {wt : Int32} {mw mk : Nat → Int32} {mwt : Int32} (h2 : R2 ww wk wt mw mk mwt) {ht hw ha : Nat → Int32} {hl : Int32} {mt mwo ma : Nat → Int32} {mll : Int32} (h4 : R4 ht hw ha hl mt mwo ma mll) {vs vf vt : Nat → Int32} {vl : Int32} {ms lf lt : Nat → Int32} {ml : Int32} (h5 : R5 vs vf vt vl ms lf lt ml) {bO port berth first last gv : Nat → Int32} {told held : Int32} {mb : Nat → Int32} {mst : Int32} {sp sb sf sl : Nat → Int32} (h6 : R6 bO port berth first last gv told held mb mst sp sb sf sl) {tb : Nat → Int32} {tl : Int32} {mtp : Nat → Int32} {mtl : Int32} (h7 : R7 tb tl mtp mtl) {ak aa am : Nat → Int32} {ac mc : Int32} {cs ca cb : Nat → Int32} (h8 : R8 ak aa am ac mc cs ca cb) (th a : Int32) : ∃ X Y, f_X8_count told held hl tl ac vl wt a = some X ∧ f_X9_count th mwt mll mst sp mc mtl ml a = some Y ∧ X = Y.1 := by
  have c1 := h2.2.2.1
  have c2 := h4.2.2.2.1
  have c3 := h5.2.1
  have c4 := h7.2.1
  obtain ⟨rfl, rfl, rfl, rfl, rfl, hb, k, hk, rfl, hs, rfl, hz⟩ := h6
  obtain ⟨k8, hk8, b1, b2, htm⟩ := h8
  obtain ⟨X, Y, e1, e2, e3⟩ := sx_count th port berth first last gv sp k hk hs hl tl ac vl wt a
  refine ⟨X, Y, e1, ?_, e3⟩
  rw [← c1, ← c2, ← c3, ← c4, b2, ← b1]
  exact e2
def Rel (σ : SX) (τ : SM) : Prop := R1 (σ.1) (σ.2.1) (τ.2.2.2.2.2.2.2.2.2.2.2.2.2.2.2.2.2.2.2.2.2.2.2.2.2.2.2.2.2.2.2.2.2.2.2.2.2.1) (τ.2.1) ∧ R2 (σ.2.2.2.2.2.2.2.2.2.2.2.2.2.2.2.2.2.2.2.2.2.2.2.2.2.2.2.2.2.2.2.2.2.2.2.2.2.2.2.2.2.2.1) (σ.2.2.2.2.2.2.2.2.2.2.2.2.2.2.2.2.2.2.2.2.2.2.2.2.2.2.2.2.2.2.2.2.2.2.2.2.2.2.2.2.2.2.2.1) (σ.2.2.2.2.2.2.2.2.2.2.2.2.2.2.2.2.2.2.2.2.2.2.2.2.2.2.2.2.2.2.2.2.2.2.2.2.2.2.2.2.2.2.2.2) (τ.2.2.2.1) (τ.2.2.2.2.1) (τ.2.2.1) ∧ R3 (σ.2.2.2.2.2.2.2.2.2.2.2.2.2.2.2.2.2.2.1) (σ.2.2.2.2.2.2.2.2.2.2.2.2.2.2.2.2.2.2.2.1) (σ.2.2.2.2.2.2.2.2.2.2.2.2.2.2.2.2.2.2.2.2.1) (σ.2.2.2.2.2.2.2.2.2.2.2.2.2.2.2.2.2.2.2.2.2.1) (σ.2.2.2.2.2.2.2.2.2.2.2.2.2.2.2.2.2.2.2.2.2.2.1) (σ.2.2.2.2.2.2.2.2.2.2.2.2.2.2.2.2.2.2.2.2.2.2.2.1) (σ.2.2.2.2.2.2.2.2.2.2.2.2.2.2.2.2.2.2.2.2.2.2.2.2.1) (σ.2.2.2.2.2.2.2.2.2.2.2.2.2.2.2.2.2.2.2.2.2.2.2.2.2.1) (τ.2.2.2.2.2.1) (τ.2.2.2.2.2.2.1) ∧ R4 (σ.2.2.2.2.2.2.2.2.2.2.1) (σ.2.2.2.2.2.2.2.2.2.2.2.1) (σ.2.2.2.2.2.2.2.2.2.2.2.2.1) (σ.2.2.2.2.2.2.2.2.2.2.2.2.2.1) (τ.2.2.2.2.2.2.2.2.2.2.2.2.2.2.1) (τ.2.2.2.2.2.2.2.2.2.2.2.2.2.2.2.1) (τ.2.2.2.2.2.2.2.2.2.2.2.2.2.2.2.2.1) (τ.2.2.2.2.2.2.2.2.2.2.2.2.2.1) ∧ R5 (σ.2.2.2.2.2.2.2.2.2.2.2.2.2.2.2.2.2.2.2.2.2.2.2.2.2.2.2.2.2.2.2.2.2.2.2.2.2.2.1) (σ.2.2.2.2.2.2.2.2.2.2.2.2.2.2.2.2.2.2.2.2.2.2.2.2.2.2.2.2.2.2.2.2.2.2.2.2.2.2.2.1) (σ.2.2.2.2.2.2.2.2.2.2.2.2.2.2.2.2.2.2.2.2.2.2.2.2.2.2.2.2.2.2.2.2.2.2.2.2.2.2.2.2.1) (σ.2.2.2.2.2.2.2.2.2.2.2.2.2.2.2.2.2.2.2.2.2.2.2.2.2.2.2.2.2.2.2.2.2.2.2.2.2.2.2.2.2.1) (τ.2.2.2.2.2.2.2.2.2.2.2.2.2.2.2.2.2.2.2.2.2.2.2.2.2.2.2.2.2.2.2.2.2.2.2.2.2.2.2.2) (τ.2.2.2.2.2.2.2.2.2.2.2.2.2.2.2.2.2.1) (τ.2.2.2.2.2.2.2.2.2.2.2.2.2.2.2.2.2.2.1) (τ.2.2.2.2.2.2.2.2.2.2.2.2.2.2.2.2.2.2.2.2.2.2.2.2.2.2.2.2.2.2.2.2.2.2.2.2.2.2.2.1) ∧ R6 (σ.2.2.1) (σ.2.2.2.1) (σ.2.2.2.2.1) (σ.2.2.2.2.2.1) (σ.2.2.2.2.2.2.1) (σ.2.2.2.2.2.2.2.1) (σ.2.2.2.2.2.2.2.2.1) (σ.2.2.2.2.2.2.2.2.2.1) (τ.2.2.2.2.2.2.2.2.2.2.2.2.2.2.2.2.2.2.2.1) (τ.2.2.2.2.2.2.2.2.2.2.2.2.2.2.2.2.2.2.2.2.1) (τ.2.2.2.2.2.2.2.2.2.2.2.2.2.2.2.2.2.2.2.2.2.1) (τ.2.2.2.2.2.2.2.2.2.2.2.2.2.2.2.2.2.2.2.2.2.2.1) (τ.2.2.2.2.2.2.2.2.2.2.2.2.2.2.2.2.2.2.2.2.2.2.2.1) (τ.2.2.2.2.2.2.2.2.2.2.2.2.2.2.2.2.2.2.2.2.2.2.2.2.1) ∧ R7 (σ.2.2.2.2.2.2.2.2.2.2.2.2.2.2.2.2.2.2.2.2.2.2.2.2.2.2.2.2.1) (σ.2.2.2.2.2.2.2.2.2.2.2.2.2.2.2.2.2.2.2.2.2.2.2.2.2.2.2.2.2.1) (τ.2.2.2.2.2.2.2.2.2.2.2.2.2.2.2.2.2.2.2.2.2.2.2.2.2.2.2.2.2.2.2.1) (τ.2.2.2.2.2.2.2.2.2.2.2.2.2.2.2.2.2.2.2.2.2.2.2.2.2.2.2.2.2.2.2.2.1) ∧ R8 (σ.2.2.2.2.2.2.2.2.2.2.2.2.2.2.2.2.2.2.2.2.2.2.2.2.2.2.2.2.2.2.1) (σ.2.2.2.2.2.2.2.2.2.2.2.2.2.2.2.2.2.2.2.2.2.2.2.2.2.2.2.2.2.2.2.1) (σ.2.2.2.2.2.2.2.2.2.2.2.2.2.2.2.2.2.2.2.2.2.2.2.2.2.2.2.2.2.2.2.2.1) (σ.2.2.2.2.2.2.2.2.2.2.2.2.2.2.2.2.2.2.2.2.2.2.2.2.2.2.2.2.2.2.2.2.2.1) (τ.2.2.2.2.2.2.2.2.2.2.2.2.2.2.2.2.2.2.2.2.2.2.2.2.2.1) (τ.2.2.2.2.2.2.2.2.2.2.2.2.2.2.2.2.2.2.2.2.2.2.2.2.2.2.1) (τ.2.2.2.2.2.2.2.2.2.2.2.2.2.2.2.2.2.2.2.2.2.2.2.2.2.2.2.1) (τ.2.2.2.2.2.2.2.2.2.2.2.2.2.2.2.2.2.2.2.2.2.2.2.2.2.2.2.2.1)
theorem step_winds : Step_winds Rel := by
  intro SC_faultPlace SC_refusedBy Hb_berthsOf Hb_port Hb_berth Hb_first Hb_last Hb_isGivenUp Hb_told Hb_held Ho_tons Ho_worth Ho_apartBits Ho_loads Ho_room Ho_bestBits Ho_bestTons Ho_bestWorth Pa_sailMiles Pa_weights Pa_chance Pa_burnt Pa_engineMiles Pa_daysReckoned Pa_milesReckoned Pa_coalReckoned Re_tokenStart Re_tokenEnd Ta_bytes Ta_length Ag_kind Ag_amount Ag_mark Ag_clauses Dr_kind Dr_amount Dr_mark Dr_clauses Vo_legSmoke Vo_firstLeg Vo_lastLeg Vo_legs We_weights We_knownFrom We_told Mo_thrown Mo_status Mo_windsTold Mo_weights Mo_windKnown Mo_sails Mo_engine Mo_chance Mo_burnt Mo_weighs Mo_wayOf Mo_wayChance Mo_wayBurnt Mo_loads Mo_lTons Mo_lWorth Mo_lApart Mo_lFrom Mo_lTo Mo_berths Mo_slots Mo_sPort Mo_sBerth Mo_sFirst Mo_sLast Mo_clauses Mo_cSort Mo_cA Mo_cB Mo_nMany Mo_nClause Mo_tape Mo_taped Mo_from Mo_to Mo_sort Mo_worth Mo_fault Mo_bad Mo_legs Mo_smokes h a1 a2 a3 a4 a5
  obtain ⟨h1, h2, h3, h4, h5, h6, h7, h8⟩ := h
  have h2 : R2 We_weights We_knownFrom We_told Mo_weights Mo_windKnown Mo_windsTold := h2
  obtain ⟨X, Y, e1, e2, e3, e4, r⟩ := st_winds h2 SC_refusedBy Mo_thrown Mo_status a1 a2 a3 a4 a5
  exact ⟨X, Y, e1, e2, e3, ⟨h1.1, e4⟩, r, h3, h4, h5, h6, h7, h8⟩
theorem step_weight : Step_weight Rel := by
  intro SC_faultPlace SC_refusedBy Hb_berthsOf Hb_port Hb_berth Hb_first Hb_last Hb_isGivenUp Hb_told Hb_held Ho_tons Ho_worth Ho_apartBits Ho_loads Ho_room Ho_bestBits Ho_bestTons Ho_bestWorth Pa_sailMiles Pa_weights Pa_chance Pa_burnt Pa_engineMiles Pa_daysReckoned Pa_milesReckoned Pa_coalReckoned Re_tokenStart Re_tokenEnd Ta_bytes Ta_length Ag_kind Ag_amount Ag_mark Ag_clauses Dr_kind Dr_amount Dr_mark Dr_clauses Vo_legSmoke Vo_firstLeg Vo_lastLeg Vo_legs We_weights We_knownFrom We_told Mo_thrown Mo_status Mo_windsTold Mo_weights Mo_windKnown Mo_sails Mo_engine Mo_chance Mo_burnt Mo_weighs Mo_wayOf Mo_wayChance Mo_wayBurnt Mo_loads Mo_lTons Mo_lWorth Mo_lApart Mo_lFrom Mo_lTo Mo_berths Mo_slots Mo_sPort Mo_sBerth Mo_sFirst Mo_sLast Mo_clauses Mo_cSort Mo_cA Mo_cB Mo_nMany Mo_nClause Mo_tape Mo_taped Mo_from Mo_to Mo_sort Mo_worth Mo_fault Mo_bad Mo_legs Mo_smokes h a1 a2
  obtain ⟨h1, h2, h3, h4, h5, h6, h7, h8⟩ := h
  have h2 : R2 We_weights We_knownFrom We_told Mo_weights Mo_windKnown Mo_windsTold := h2
  obtain ⟨X, Y, e1, e2, e3⟩ := st_weight h2 Mo_thrown Mo_weighs a1 a2
  exact ⟨X, Y, e1, e2, e3, h1, h2, h3, h4, h5, h6, h7, h8⟩
theorem step_sails : Step_sails Rel := by
  intro SC_faultPlace SC_refusedBy Hb_berthsOf Hb_port Hb_berth Hb_first Hb_last Hb_isGivenUp Hb_told Hb_held Ho_tons Ho_worth Ho_apartBits Ho_loads Ho_room Ho_bestBits Ho_bestTons Ho_bestWorth Pa_sailMiles Pa_weights Pa_chance Pa_burnt Pa_engineMiles Pa_daysReckoned Pa_milesReckoned Pa_coalReckoned Re_tokenStart Re_tokenEnd Ta_bytes Ta_length Ag_kind Ag_amount Ag_mark Ag_clauses Dr_kind Dr_amount Dr_mark Dr_clauses Vo_legSmoke Vo_firstLeg Vo_lastLeg Vo_legs We_weights We_knownFrom We_told Mo_thrown Mo_status Mo_windsTold Mo_weights Mo_windKnown Mo_sails Mo_engine Mo_chance Mo_burnt Mo_weighs Mo_wayOf Mo_wayChance Mo_wayBurnt Mo_loads Mo_lTons Mo_lWorth Mo_lApart Mo_lFrom Mo_lTo Mo_berths Mo_slots Mo_sPort Mo_sBerth Mo_sFirst Mo_sLast Mo_clauses Mo_cSort Mo_cA Mo_cB Mo_nMany Mo_nClause Mo_tape Mo_taped Mo_from Mo_to Mo_sort Mo_worth Mo_fault Mo_bad Mo_legs Mo_smokes h a1 a2
  obtain ⟨h1, h2, h3, h4, h5, h6, h7, h8⟩ := h
  have h3 : R3 Pa_sailMiles Pa_weights Pa_chance Pa_burnt Pa_engineMiles Pa_daysReckoned Pa_milesReckoned Pa_coalReckoned Mo_sails Mo_engine := h3
  obtain ⟨X, Y, e1, e2, e3, e4, r⟩ := st_sails h3 SC_refusedBy Mo_thrown Mo_status a1 a2
  exact ⟨X, Y, e1, e2, e3, ⟨h1.1, e4⟩, h2, r, h4, h5, h6, h7, h8⟩
theorem step_engine : Step_engine Rel := by
  intro SC_faultPlace SC_refusedBy Hb_berthsOf Hb_port Hb_berth Hb_first Hb_last Hb_isGivenUp Hb_told Hb_held Ho_tons Ho_worth Ho_apartBits Ho_loads Ho_room Ho_bestBits Ho_bestTons Ho_bestWorth Pa_sailMiles Pa_weights Pa_chance Pa_burnt Pa_engineMiles Pa_daysReckoned Pa_milesReckoned Pa_coalReckoned Re_tokenStart Re_tokenEnd Ta_bytes Ta_length Ag_kind Ag_amount Ag_mark Ag_clauses Dr_kind Dr_amount Dr_mark Dr_clauses Vo_legSmoke Vo_firstLeg Vo_lastLeg Vo_legs We_weights We_knownFrom We_told Mo_thrown Mo_status Mo_windsTold Mo_weights Mo_windKnown Mo_sails Mo_engine Mo_chance Mo_burnt Mo_weighs Mo_wayOf Mo_wayChance Mo_wayBurnt Mo_loads Mo_lTons Mo_lWorth Mo_lApart Mo_lFrom Mo_lTo Mo_berths Mo_slots Mo_sPort Mo_sBerth Mo_sFirst Mo_sLast Mo_clauses Mo_cSort Mo_cA Mo_cB Mo_nMany Mo_nClause Mo_tape Mo_taped Mo_from Mo_to Mo_sort Mo_worth Mo_fault Mo_bad Mo_legs Mo_smokes h a1
  obtain ⟨h1, h2, h3, h4, h5, h6, h7, h8⟩ := h
  have h3 : R3 Pa_sailMiles Pa_weights Pa_chance Pa_burnt Pa_engineMiles Pa_daysReckoned Pa_milesReckoned Pa_coalReckoned Mo_sails Mo_engine := h3
  obtain ⟨X, Y, e1, e2, e3, e4, r⟩ := st_engine h3 SC_refusedBy Mo_thrown Mo_status a1
  exact ⟨X, Y, e1, e2, e3, ⟨h1.1, e4⟩, h2, r, h4, h5, h6, h7, h8⟩
theorem step_luck : Step_luck Rel := by
  intro SC_faultPlace SC_refusedBy Hb_berthsOf Hb_port Hb_berth Hb_first Hb_last Hb_isGivenUp Hb_told Hb_held Ho_tons Ho_worth Ho_apartBits Ho_loads Ho_room Ho_bestBits Ho_bestTons Ho_bestWorth Pa_sailMiles Pa_weights Pa_chance Pa_burnt Pa_engineMiles Pa_daysReckoned Pa_milesReckoned Pa_coalReckoned Re_tokenStart Re_tokenEnd Ta_bytes Ta_length Ag_kind Ag_amount Ag_mark Ag_clauses Dr_kind Dr_amount Dr_mark Dr_clauses Vo_legSmoke Vo_firstLeg Vo_lastLeg Vo_legs We_weights We_knownFrom We_told Mo_thrown Mo_status Mo_windsTold Mo_weights Mo_windKnown Mo_sails Mo_engine Mo_chance Mo_burnt Mo_weighs Mo_wayOf Mo_wayChance Mo_wayBurnt Mo_loads Mo_lTons Mo_lWorth Mo_lApart Mo_lFrom Mo_lTo Mo_berths Mo_slots Mo_sPort Mo_sBerth Mo_sFirst Mo_sLast Mo_clauses Mo_cSort Mo_cA Mo_cB Mo_nMany Mo_nClause Mo_tape Mo_taped Mo_from Mo_to Mo_sort Mo_worth Mo_fault Mo_bad Mo_legs Mo_smokes h a1 a2 a3 a4 a5
  obtain ⟨h1, h2, h3, h4, h5, h6, h7, h8⟩ := h
  have h2 : R2 We_weights We_knownFrom We_told Mo_weights Mo_windKnown Mo_windsTold := h2
  have h3 : R3 Pa_sailMiles Pa_weights Pa_chance Pa_burnt Pa_engineMiles Pa_daysReckoned Pa_milesReckoned Pa_coalReckoned Mo_sails Mo_engine := h3
  obtain ⟨X, Y, e1, e2, e3, r⟩ := st_luck h2 h3 Mo_thrown Mo_chance Mo_burnt Mo_weighs Mo_wayOf Mo_wayChance Mo_wayBurnt a1 a2 a3 a4 a5
  exact ⟨X, Y, e1, e2, e3, h1, h2, r, h4, h5, h6, h7, h8⟩
theorem step_choice : Step_choice Rel := by
  intro SC_faultPlace SC_refusedBy Hb_berthsOf Hb_port Hb_berth Hb_first Hb_last Hb_isGivenUp Hb_told Hb_held Ho_tons Ho_worth Ho_apartBits Ho_loads Ho_room Ho_bestBits Ho_bestTons Ho_bestWorth Pa_sailMiles Pa_weights Pa_chance Pa_burnt Pa_engineMiles Pa_daysReckoned Pa_milesReckoned Pa_coalReckoned Re_tokenStart Re_tokenEnd Ta_bytes Ta_length Ag_kind Ag_amount Ag_mark Ag_clauses Dr_kind Dr_amount Dr_mark Dr_clauses Vo_legSmoke Vo_firstLeg Vo_lastLeg Vo_legs We_weights We_knownFrom We_told Mo_thrown Mo_status Mo_windsTold Mo_weights Mo_windKnown Mo_sails Mo_engine Mo_chance Mo_burnt Mo_weighs Mo_wayOf Mo_wayChance Mo_wayBurnt Mo_loads Mo_lTons Mo_lWorth Mo_lApart Mo_lFrom Mo_lTo Mo_berths Mo_slots Mo_sPort Mo_sBerth Mo_sFirst Mo_sLast Mo_clauses Mo_cSort Mo_cA Mo_cB Mo_nMany Mo_nClause Mo_tape Mo_taped Mo_from Mo_to Mo_sort Mo_worth Mo_fault Mo_bad Mo_legs Mo_smokes h a1 a2 a3 a4 a5
  obtain ⟨h1, h2, h3, h4, h5, h6, h7, h8⟩ := h
  have h2 : R2 We_weights We_knownFrom We_told Mo_weights Mo_windKnown Mo_windsTold := h2
  have h3 : R3 Pa_sailMiles Pa_weights Pa_chance Pa_burnt Pa_engineMiles Pa_daysReckoned Pa_milesReckoned Pa_coalReckoned Mo_sails Mo_engine := h3
  obtain ⟨X, Y, e1, e2, e3, r⟩ := st_choice h2 h3 Mo_thrown Mo_chance Mo_burnt Mo_weighs Mo_wayOf Mo_wayChance Mo_wayBurnt a1 a2 a3 a4 a5
  exact ⟨X, Y, e1, e2, e3, h1, h2, r, h4, h5, h6, h7, h8⟩
theorem step_promise : Step_promise Rel := by
  intro SC_faultPlace SC_refusedBy Hb_berthsOf Hb_port Hb_berth Hb_first Hb_last Hb_isGivenUp Hb_told Hb_held Ho_tons Ho_worth Ho_apartBits Ho_loads Ho_room Ho_bestBits Ho_bestTons Ho_bestWorth Pa_sailMiles Pa_weights Pa_chance Pa_burnt Pa_engineMiles Pa_daysReckoned Pa_milesReckoned Pa_coalReckoned Re_tokenStart Re_tokenEnd Ta_bytes Ta_length Ag_kind Ag_amount Ag_mark Ag_clauses Dr_kind Dr_amount Dr_mark Dr_clauses Vo_legSmoke Vo_firstLeg Vo_lastLeg Vo_legs We_weights We_knownFrom We_told Mo_thrown Mo_status Mo_windsTold Mo_weights Mo_windKnown Mo_sails Mo_engine Mo_chance Mo_burnt Mo_weighs Mo_wayOf Mo_wayChance Mo_wayBurnt Mo_loads Mo_lTons Mo_lWorth Mo_lApart Mo_lFrom Mo_lTo Mo_berths Mo_slots Mo_sPort Mo_sBerth Mo_sFirst Mo_sLast Mo_clauses Mo_cSort Mo_cA Mo_cB Mo_nMany Mo_nClause Mo_tape Mo_taped Mo_from Mo_to Mo_sort Mo_worth Mo_fault Mo_bad Mo_legs Mo_smokes h a1 a2 a3 a4
  obtain ⟨h1, h2, h3, h4, h5, h6, h7, h8⟩ := h
  have h2 : R2 We_weights We_knownFrom We_told Mo_weights Mo_windKnown Mo_windsTold := h2
  have h3 : R3 Pa_sailMiles Pa_weights Pa_chance Pa_burnt Pa_engineMiles Pa_daysReckoned Pa_milesReckoned Pa_coalReckoned Mo_sails Mo_engine := h3
  obtain ⟨X, Y, e1, e2, e3, r⟩ := st_promise h2 h3 Mo_thrown Mo_chance Mo_burnt Mo_weighs Mo_wayOf Mo_wayChance Mo_wayBurnt a1 a2 a3 a4
  exact ⟨X, Y, e1, e2, e3, h1, h2, r, h4, h5, h6, h7, h8⟩
theorem step_load : Step_load Rel := by
  intro SC_faultPlace SC_refusedBy Hb_berthsOf Hb_port Hb_berth Hb_first Hb_last Hb_isGivenUp Hb_told Hb_held Ho_tons Ho_worth Ho_apartBits Ho_loads Ho_room Ho_bestBits Ho_bestTons Ho_bestWorth Pa_sailMiles Pa_weights Pa_chance Pa_burnt Pa_engineMiles Pa_daysReckoned Pa_milesReckoned Pa_coalReckoned Re_tokenStart Re_tokenEnd Ta_bytes Ta_length Ag_kind Ag_amount Ag_mark Ag_clauses Dr_kind Dr_amount Dr_mark Dr_clauses Vo_legSmoke Vo_firstLeg Vo_lastLeg Vo_legs We_weights We_knownFrom We_told Mo_thrown Mo_status Mo_windsTold Mo_weights Mo_windKnown Mo_sails Mo_engine Mo_chance Mo_burnt Mo_weighs Mo_wayOf Mo_wayChance Mo_wayBurnt Mo_loads Mo_lTons Mo_lWorth Mo_lApart Mo_lFrom Mo_lTo Mo_berths Mo_slots Mo_sPort Mo_sBerth Mo_sFirst Mo_sLast Mo_clauses Mo_cSort Mo_cA Mo_cB Mo_nMany Mo_nClause Mo_tape Mo_taped Mo_from Mo_to Mo_sort Mo_worth Mo_fault Mo_bad Mo_legs Mo_smokes h a1 a2
  obtain ⟨h1, h2, h3, h4, h5, h6, h7, h8⟩ := h
  have h4 : R4 Ho_tons Ho_worth Ho_apartBits Ho_loads Mo_lTons Mo_lWorth Mo_lApart Mo_loads := h4
  obtain ⟨X, Y, e1, e2, e3, e4, r⟩ := st_load h4 SC_refusedBy Mo_thrown Mo_status a1 a2
  exact ⟨X, Y, e1, e2, e3, ⟨h1.1, e4⟩, h2, h3, r, h5, h6, h7, h8⟩
theorem step_apart : Step_apart Rel := by
  intro SC_faultPlace SC_refusedBy Hb_berthsOf Hb_port Hb_berth Hb_first Hb_last Hb_isGivenUp Hb_told Hb_held Ho_tons Ho_worth Ho_apartBits Ho_loads Ho_room Ho_bestBits Ho_bestTons Ho_bestWorth Pa_sailMiles Pa_weights Pa_chance Pa_burnt Pa_engineMiles Pa_daysReckoned Pa_milesReckoned Pa_coalReckoned Re_tokenStart Re_tokenEnd Ta_bytes Ta_length Ag_kind Ag_amount Ag_mark Ag_clauses Dr_kind Dr_amount Dr_mark Dr_clauses Vo_legSmoke Vo_firstLeg Vo_lastLeg Vo_legs We_weights We_knownFrom We_told Mo_thrown Mo_status Mo_windsTold Mo_weights Mo_windKnown Mo_sails Mo_engine Mo_chance Mo_burnt Mo_weighs Mo_wayOf Mo_wayChance Mo_wayBurnt Mo_loads Mo_lTons Mo_lWorth Mo_lApart Mo_lFrom Mo_lTo Mo_berths Mo_slots Mo_sPort Mo_sBerth Mo_sFirst Mo_sLast Mo_clauses Mo_cSort Mo_cA Mo_cB Mo_nMany Mo_nClause Mo_tape Mo_taped Mo_from Mo_to Mo_sort Mo_worth Mo_fault Mo_bad Mo_legs Mo_smokes h a1 a2 a3 _
  obtain ⟨h1, h2, h3, h4, h5, h6, h7, h8⟩ := h
  have h4 : R4 Ho_tons Ho_worth Ho_apartBits Ho_loads Mo_lTons Mo_lWorth Mo_lApart Mo_loads := h4
  obtain ⟨X, Y, e1, e2, e3, e4, r⟩ := st_apart h4 SC_refusedBy Mo_thrown Mo_status a1 a2 a3
  exact ⟨X, Y, e1, e2, e3, ⟨h1.1, e4⟩, h2, h3, r, h5, h6, h7, h8⟩
theorem step_stow : Step_stow Rel := by
  intro SC_faultPlace SC_refusedBy Hb_berthsOf Hb_port Hb_berth Hb_first Hb_last Hb_isGivenUp Hb_told Hb_held Ho_tons Ho_worth Ho_apartBits Ho_loads Ho_room Ho_bestBits Ho_bestTons Ho_bestWorth Pa_sailMiles Pa_weights Pa_chance Pa_burnt Pa_engineMiles Pa_daysReckoned Pa_milesReckoned Pa_coalReckoned Re_tokenStart Re_tokenEnd Ta_bytes Ta_length Ag_kind Ag_amount Ag_mark Ag_clauses Dr_kind Dr_amount Dr_mark Dr_clauses Vo_legSmoke Vo_firstLeg Vo_lastLeg Vo_legs We_weights We_knownFrom We_told Mo_thrown Mo_status Mo_windsTold Mo_weights Mo_windKnown Mo_sails Mo_engine Mo_chance Mo_burnt Mo_weighs Mo_wayOf Mo_wayChance Mo_wayBurnt Mo_loads Mo_lTons Mo_lWorth Mo_lApart Mo_lFrom Mo_lTo Mo_berths Mo_slots Mo_sPort Mo_sBerth Mo_sFirst Mo_sLast Mo_clauses Mo_cSort Mo_cA Mo_cB Mo_nMany Mo_nClause Mo_tape Mo_taped Mo_from Mo_to Mo_sort Mo_worth Mo_fault Mo_bad Mo_legs Mo_smokes h a1 a2
  obtain ⟨h1, h2, h3, h4, h5, h6, h7, h8⟩ := h
  have h4 : R4 Ho_tons Ho_worth Ho_apartBits Ho_loads Mo_lTons Mo_lWorth Mo_lApart Mo_loads := h4
  obtain ⟨X, Y, e1, e2, e3⟩ := st_stow h4 Ho_room Ho_bestBits Ho_bestTons Ho_bestWorth Mo_thrown a1 a2
  exact ⟨X, Y, e1, e2, e3, h1, h2, h3, h4, h5, h6, h7, h8⟩
theorem step_berths : Step_berths Rel := by
  intro SC_faultPlace SC_refusedBy Hb_berthsOf Hb_port Hb_berth Hb_first Hb_last Hb_isGivenUp Hb_told Hb_held Ho_tons Ho_worth Ho_apartBits Ho_loads Ho_room Ho_bestBits Ho_bestTons Ho_bestWorth Pa_sailMiles Pa_weights Pa_chance Pa_burnt Pa_engineMiles Pa_daysReckoned Pa_milesReckoned Pa_coalReckoned Re_tokenStart Re_tokenEnd Ta_bytes Ta_length Ag_kind Ag_amount Ag_mark Ag_clauses Dr_kind Dr_amount Dr_mark Dr_clauses Vo_legSmoke Vo_firstLeg Vo_lastLeg Vo_legs We_weights We_knownFrom We_told Mo_thrown Mo_status Mo_windsTold Mo_weights Mo_windKnown Mo_sails Mo_engine Mo_chance Mo_burnt Mo_weighs Mo_wayOf Mo_wayChance Mo_wayBurnt Mo_loads Mo_lTons Mo_lWorth Mo_lApart Mo_lFrom Mo_lTo Mo_berths Mo_slots Mo_sPort Mo_sBerth Mo_sFirst Mo_sLast Mo_clauses Mo_cSort Mo_cA Mo_cB Mo_nMany Mo_nClause Mo_tape Mo_taped Mo_from Mo_to Mo_sort Mo_worth Mo_fault Mo_bad Mo_legs Mo_smokes h a1 a2
  obtain ⟨h1, h2, h3, h4, h5, h6, h7, h8⟩ := h
  have h6 : R6 Hb_berthsOf Hb_port Hb_berth Hb_first Hb_last Hb_isGivenUp Hb_told Hb_held Mo_berths Mo_slots Mo_sPort Mo_sBerth Mo_sFirst Mo_sLast := h6
  obtain ⟨X, Y, e1, e2, e3, e4, r⟩ := st_berths h6 SC_refusedBy Mo_thrown Mo_status a1 a2
  exact ⟨X, Y, e1, e2, e3, ⟨h1.1, e4⟩, h2, h3, h4, h5, r, h7, h8⟩
theorem step_slot : Step_slot Rel := by
  intro SC_faultPlace SC_refusedBy Hb_berthsOf Hb_port Hb_berth Hb_first Hb_last Hb_isGivenUp Hb_told Hb_held Ho_tons Ho_worth Ho_apartBits Ho_loads Ho_room Ho_bestBits Ho_bestTons Ho_bestWorth Pa_sailMiles Pa_weights Pa_chance Pa_burnt Pa_engineMiles Pa_daysReckoned Pa_milesReckoned Pa_coalReckoned Re_tokenStart Re_tokenEnd Ta_bytes Ta_length Ag_kind Ag_amount Ag_mark Ag_clauses Dr_kind Dr_amount Dr_mark Dr_clauses Vo_legSmoke Vo_firstLeg Vo_lastLeg Vo_legs We_weights We_knownFrom We_told Mo_thrown Mo_status Mo_windsTold Mo_weights Mo_windKnown Mo_sails Mo_engine Mo_chance Mo_burnt Mo_weighs Mo_wayOf Mo_wayChance Mo_wayBurnt Mo_loads Mo_lTons Mo_lWorth Mo_lApart Mo_lFrom Mo_lTo Mo_berths Mo_slots Mo_sPort Mo_sBerth Mo_sFirst Mo_sLast Mo_clauses Mo_cSort Mo_cA Mo_cB Mo_nMany Mo_nClause Mo_tape Mo_taped Mo_from Mo_to Mo_sort Mo_worth Mo_fault Mo_bad Mo_legs Mo_smokes h a1 a2 a3
  obtain ⟨h1, h2, h3, h4, h5, h6, h7, h8⟩ := h
  have h6 : R6 Hb_berthsOf Hb_port Hb_berth Hb_first Hb_last Hb_isGivenUp Hb_told Hb_held Mo_berths Mo_slots Mo_sPort Mo_sBerth Mo_sFirst Mo_sLast := h6
  obtain ⟨X, Y, e1, e2, e3, e4, r⟩ := st_slot h6 SC_refusedBy Mo_thrown Mo_status a1 a2 a3
  exact ⟨X, Y, e1, e2, e3, ⟨h1.1, e4⟩, h2, h3, h4, h5, r, h7, h8⟩
theorem step_of : Step_of Rel := by
  intro SC_faultPlace SC_refusedBy Hb_berthsOf Hb_port Hb_berth Hb_first Hb_last Hb_isGivenUp Hb_told Hb_held Ho_tons Ho_worth Ho_apartBits Ho_loads Ho_room Ho_bestBits Ho_bestTons Ho_bestWorth Pa_sailMiles Pa_weights Pa_chance Pa_burnt Pa_engineMiles Pa_daysReckoned Pa_milesReckoned Pa_coalReckoned Re_tokenStart Re_tokenEnd Ta_bytes Ta_length Ag_kind Ag_amount Ag_mark Ag_clauses Dr_kind Dr_amount Dr_mark Dr_clauses Vo_legSmoke Vo_firstLeg Vo_lastLeg Vo_legs We_weights We_knownFrom We_told Mo_thrown Mo_status Mo_windsTold Mo_weights Mo_windKnown Mo_sails Mo_engine Mo_chance Mo_burnt Mo_weighs Mo_wayOf Mo_wayChance Mo_wayBurnt Mo_loads Mo_lTons Mo_lWorth Mo_lApart Mo_lFrom Mo_lTo Mo_berths Mo_slots Mo_sPort Mo_sBerth Mo_sFirst Mo_sLast Mo_clauses Mo_cSort Mo_cA Mo_cB Mo_nMany Mo_nClause Mo_tape Mo_taped Mo_from Mo_to Mo_sort Mo_worth Mo_fault Mo_bad Mo_legs Mo_smokes h a1 a2
  obtain ⟨h1, h2, h3, h4, h5, h6, h7, h8⟩ := h
  have h6 : R6 Hb_berthsOf Hb_port Hb_berth Hb_first Hb_last Hb_isGivenUp Hb_told Hb_held Mo_berths Mo_slots Mo_sPort Mo_sBerth Mo_sFirst Mo_sLast := h6
  obtain ⟨X, Y, e1, e2, e3⟩ := st_of h6 Mo_thrown a1 a2
  exact ⟨X, Y, e1, e2, e3, h1, h2, h3, h4, h5, h6, h7, h8⟩
theorem step_free : Step_free Rel := by
  intro SC_faultPlace SC_refusedBy Hb_berthsOf Hb_port Hb_berth Hb_first Hb_last Hb_isGivenUp Hb_told Hb_held Ho_tons Ho_worth Ho_apartBits Ho_loads Ho_room Ho_bestBits Ho_bestTons Ho_bestWorth Pa_sailMiles Pa_weights Pa_chance Pa_burnt Pa_engineMiles Pa_daysReckoned Pa_milesReckoned Pa_coalReckoned Re_tokenStart Re_tokenEnd Ta_bytes Ta_length Ag_kind Ag_amount Ag_mark Ag_clauses Dr_kind Dr_amount Dr_mark Dr_clauses Vo_legSmoke Vo_firstLeg Vo_lastLeg Vo_legs We_weights We_knownFrom We_told Mo_thrown Mo_status Mo_windsTold Mo_weights Mo_windKnown Mo_sails Mo_engine Mo_chance Mo_burnt Mo_weighs Mo_wayOf Mo_wayChance Mo_wayBurnt Mo_loads Mo_lTons Mo_lWorth Mo_lApart Mo_lFrom Mo_lTo Mo_berths Mo_slots Mo_sPort Mo_sBerth Mo_sFirst Mo_sLast Mo_clauses Mo_cSort Mo_cA Mo_cB Mo_nMany Mo_nClause Mo_tape Mo_taped Mo_from Mo_to Mo_sort Mo_worth Mo_fault Mo_bad Mo_legs Mo_smokes h a1
  obtain ⟨h1, h2, h3, h4, h5, h6, h7, h8⟩ := h
  have h6 : R6 Hb_berthsOf Hb_port Hb_berth Hb_first Hb_last Hb_isGivenUp Hb_told Hb_held Mo_berths Mo_slots Mo_sPort Mo_sBerth Mo_sFirst Mo_sLast := h6
  obtain ⟨X, Y, e1, e2, e3, e4, r⟩ := st_free h6 SC_refusedBy Mo_thrown Mo_status a1
  exact ⟨X, Y, e1, e2, e3, ⟨h1.1, e4⟩, h2, h3, h4, h5, r, h7, h8⟩
theorem step_feed : Step_feed Rel := by
  intro SC_faultPlace SC_refusedBy Hb_berthsOf Hb_port Hb_berth Hb_first Hb_last Hb_isGivenUp Hb_told Hb_held Ho_tons Ho_worth Ho_apartBits Ho_loads Ho_room Ho_bestBits Ho_bestTons Ho_bestWorth Pa_sailMiles Pa_weights Pa_chance Pa_burnt Pa_engineMiles Pa_daysReckoned Pa_milesReckoned Pa_coalReckoned Re_tokenStart Re_tokenEnd Ta_bytes Ta_length Ag_kind Ag_amount Ag_mark Ag_clauses Dr_kind Dr_amount Dr_mark Dr_clauses Vo_legSmoke Vo_firstLeg Vo_lastLeg Vo_legs We_weights We_knownFrom We_told Mo_thrown Mo_status Mo_windsTold Mo_weights Mo_windKnown Mo_sails Mo_engine Mo_chance Mo_burnt Mo_weighs Mo_wayOf Mo_wayChance Mo_wayBurnt Mo_loads Mo_lTons Mo_lWorth Mo_lApart Mo_lFrom Mo_lTo Mo_berths Mo_slots Mo_sPort Mo_sBerth Mo_sFirst Mo_sLast Mo_clauses Mo_cSort Mo_cA Mo_cB Mo_nMany Mo_nClause Mo_tape Mo_taped Mo_from Mo_to Mo_sort Mo_worth Mo_fault Mo_bad Mo_legs Mo_smokes h a1 a2 a3 a4 a5
  obtain ⟨h1, h2, h3, h4, h5, h6, h7, h8⟩ := h
  have h7 : R7 Ta_bytes Ta_length Mo_tape Mo_taped := h7
  obtain ⟨X, Y, e1, e2, e3, r⟩ := st_feed h7 Mo_thrown a1 a2 a3 a4 a5
  exact ⟨X, Y, e1, e2, e3, h1, h2, h3, h4, h5, h6, r, h8⟩
theorem step_end : Step_end Rel := by
  intro SC_faultPlace SC_refusedBy Hb_berthsOf Hb_port Hb_berth Hb_first Hb_last Hb_isGivenUp Hb_told Hb_held Ho_tons Ho_worth Ho_apartBits Ho_loads Ho_room Ho_bestBits Ho_bestTons Ho_bestWorth Pa_sailMiles Pa_weights Pa_chance Pa_burnt Pa_engineMiles Pa_daysReckoned Pa_milesReckoned Pa_coalReckoned Re_tokenStart Re_tokenEnd Ta_bytes Ta_length Ag_kind Ag_amount Ag_mark Ag_clauses Dr_kind Dr_amount Dr_mark Dr_clauses Vo_legSmoke Vo_firstLeg Vo_lastLeg Vo_legs We_weights We_knownFrom We_told Mo_thrown Mo_status Mo_windsTold Mo_weights Mo_windKnown Mo_sails Mo_engine Mo_chance Mo_burnt Mo_weighs Mo_wayOf Mo_wayChance Mo_wayBurnt Mo_loads Mo_lTons Mo_lWorth Mo_lApart Mo_lFrom Mo_lTo Mo_berths Mo_slots Mo_sPort Mo_sBerth Mo_sFirst Mo_sLast Mo_clauses Mo_cSort Mo_cA Mo_cB Mo_nMany Mo_nClause Mo_tape Mo_taped Mo_from Mo_to Mo_sort Mo_worth Mo_fault Mo_bad Mo_legs Mo_smokes h a1
  obtain ⟨h1, h2, h3, h4, h5, h6, h7, h8⟩ := h
  have h7 : R7 Ta_bytes Ta_length Mo_tape Mo_taped := h7
  obtain ⟨X, Y, e1, e2, e3, r⟩ := st_end h7 Mo_thrown a1
  exact ⟨X, Y, e1, e2, e3, h1, h2, h3, h4, h5, h6, r, h8⟩
theorem step_contract : Step_contract Rel := by
  intro SC_faultPlace SC_refusedBy Hb_berthsOf Hb_port Hb_berth Hb_first Hb_last Hb_isGivenUp Hb_told Hb_held Ho_tons Ho_worth Ho_apartBits Ho_loads Ho_room Ho_bestBits Ho_bestTons Ho_bestWorth Pa_sailMiles Pa_weights Pa_chance Pa_burnt Pa_engineMiles Pa_daysReckoned Pa_milesReckoned Pa_coalReckoned Re_tokenStart Re_tokenEnd Ta_bytes Ta_length Ag_kind Ag_amount Ag_mark Ag_clauses Dr_kind Dr_amount Dr_mark Dr_clauses Vo_legSmoke Vo_firstLeg Vo_lastLeg Vo_legs We_weights We_knownFrom We_told Mo_thrown Mo_status Mo_windsTold Mo_weights Mo_windKnown Mo_sails Mo_engine Mo_chance Mo_burnt Mo_weighs Mo_wayOf Mo_wayChance Mo_wayBurnt Mo_loads Mo_lTons Mo_lWorth Mo_lApart Mo_lFrom Mo_lTo Mo_berths Mo_slots Mo_sPort Mo_sBerth Mo_sFirst Mo_sLast Mo_clauses Mo_cSort Mo_cA Mo_cB Mo_nMany Mo_nClause Mo_tape Mo_taped Mo_from Mo_to Mo_sort Mo_worth Mo_fault Mo_bad Mo_legs Mo_smokes h 
  obtain ⟨h1, h2, h3, h4, h5, h6, h7, h8⟩ := h
  have h7 : R7 Ta_bytes Ta_length Mo_tape Mo_taped := h7
  have h8 : R8 Ag_kind Ag_amount Ag_mark Ag_clauses Mo_clauses Mo_cSort Mo_cA Mo_cB := h8
  obtain ⟨X, Y, e1, e2, e3, r1, r7, r8⟩ := st_contract h7 h8 SC_faultPlace SC_refusedBy Re_tokenStart Re_tokenEnd Dr_kind Dr_amount Dr_mark Dr_clauses Mo_thrown Mo_status Mo_nMany Mo_nClause Mo_from Mo_to Mo_sort Mo_worth Mo_fault Mo_bad
  exact ⟨X, Y, e1, e2, e3, r1, h2, h3, h4, h5, h6, r7, r8⟩
theorem step_fault : Step_fault Rel := by
  intro SC_faultPlace SC_refusedBy Hb_berthsOf Hb_port Hb_berth Hb_first Hb_last Hb_isGivenUp Hb_told Hb_held Ho_tons Ho_worth Ho_apartBits Ho_loads Ho_room Ho_bestBits Ho_bestTons Ho_bestWorth Pa_sailMiles Pa_weights Pa_chance Pa_burnt Pa_engineMiles Pa_daysReckoned Pa_milesReckoned Pa_coalReckoned Re_tokenStart Re_tokenEnd Ta_bytes Ta_length Ag_kind Ag_amount Ag_mark Ag_clauses Dr_kind Dr_amount Dr_mark Dr_clauses Vo_legSmoke Vo_firstLeg Vo_lastLeg Vo_legs We_weights We_knownFrom We_told Mo_thrown Mo_status Mo_windsTold Mo_weights Mo_windKnown Mo_sails Mo_engine Mo_chance Mo_burnt Mo_weighs Mo_wayOf Mo_wayChance Mo_wayBurnt Mo_loads Mo_lTons Mo_lWorth Mo_lApart Mo_lFrom Mo_lTo Mo_berths Mo_slots Mo_sPort Mo_sBerth Mo_sFirst Mo_sLast Mo_clauses Mo_cSort Mo_cA Mo_cB Mo_nMany Mo_nClause Mo_tape Mo_taped Mo_from Mo_to Mo_sort Mo_worth Mo_fault Mo_bad Mo_legs Mo_smokes h 
  obtain ⟨h1, h2, h3, h4, h5, h6, h7, h8⟩ := h
  have h1 : R1 SC_faultPlace SC_refusedBy Mo_fault Mo_status := h1
  obtain ⟨X, Y, e1, e2, e3⟩ := st_fault h1 Mo_thrown
  exact ⟨X, Y, e1, e2, e3, h1, h2, h3, h4, h5, h6, h7, h8⟩
theorem step_due : Step_due Rel := by
  intro SC_faultPlace SC_refusedBy Hb_berthsOf Hb_port Hb_berth Hb_first Hb_last Hb_isGivenUp Hb_told Hb_held Ho_tons Ho_worth Ho_apartBits Ho_loads Ho_room Ho_bestBits Ho_bestTons Ho_bestWorth Pa_sailMiles Pa_weights Pa_chance Pa_burnt Pa_engineMiles Pa_daysReckoned Pa_milesReckoned Pa_coalReckoned Re_tokenStart Re_tokenEnd Ta_bytes Ta_length Ag_kind Ag_amount Ag_mark Ag_clauses Dr_kind Dr_amount Dr_mark Dr_clauses Vo_legSmoke Vo_firstLeg Vo_lastLeg Vo_legs We_weights We_knownFrom We_told Mo_thrown Mo_status Mo_windsTold Mo_weights Mo_windKnown Mo_sails Mo_engine Mo_chance Mo_burnt Mo_weighs Mo_wayOf Mo_wayChance Mo_wayBurnt Mo_loads Mo_lTons Mo_lWorth Mo_lApart Mo_lFrom Mo_lTo Mo_berths Mo_slots Mo_sPort Mo_sBerth Mo_sFirst Mo_sLast Mo_clauses Mo_cSort Mo_cA Mo_cB Mo_nMany Mo_nClause Mo_tape Mo_taped Mo_from Mo_to Mo_sort Mo_worth Mo_fault Mo_bad Mo_legs Mo_smokes h a1 a2 a3
  obtain ⟨h1, h2, h3, h4, h5, h6, h7, h8⟩ := h
  have h8 : R8 Ag_kind Ag_amount Ag_mark Ag_clauses Mo_clauses Mo_cSort Mo_cA Mo_cB := h8
  obtain ⟨X, Y, e1, e2, e3⟩ := st_due h8 Mo_thrown a1 a2 a3
  exact ⟨X, Y, e1, e2, e3, h1, h2, h3, h4, h5, h6, h7, h8⟩
theorem step_leg : Step_leg Rel := by
  intro SC_faultPlace SC_refusedBy Hb_berthsOf Hb_port Hb_berth Hb_first Hb_last Hb_isGivenUp Hb_told Hb_held Ho_tons Ho_worth Ho_apartBits Ho_loads Ho_room Ho_bestBits Ho_bestTons Ho_bestWorth Pa_sailMiles Pa_weights Pa_chance Pa_burnt Pa_engineMiles Pa_daysReckoned Pa_milesReckoned Pa_coalReckoned Re_tokenStart Re_tokenEnd Ta_bytes Ta_length Ag_kind Ag_amount Ag_mark Ag_clauses Dr_kind Dr_amount Dr_mark Dr_clauses Vo_legSmoke Vo_firstLeg Vo_lastLeg Vo_legs We_weights We_knownFrom We_told Mo_thrown Mo_status Mo_windsTold Mo_weights Mo_windKnown Mo_sails Mo_engine Mo_chance Mo_burnt Mo_weighs Mo_wayOf Mo_wayChance Mo_wayBurnt Mo_loads Mo_lTons Mo_lWorth Mo_lApart Mo_lFrom Mo_lTo Mo_berths Mo_slots Mo_sPort Mo_sBerth Mo_sFirst Mo_sLast Mo_clauses Mo_cSort Mo_cA Mo_cB Mo_nMany Mo_nClause Mo_tape Mo_taped Mo_from Mo_to Mo_sort Mo_worth Mo_fault Mo_bad Mo_legs Mo_smokes h a1
  obtain ⟨h1, h2, h3, h4, h5, h6, h7, h8⟩ := h
  have h5 : R5 Vo_legSmoke Vo_firstLeg Vo_lastLeg Vo_legs Mo_smokes Mo_lFrom Mo_lTo Mo_legs := h5
  obtain ⟨X, Y, e1, e2, e3, e4, r⟩ := st_leg h5 SC_refusedBy Mo_thrown Mo_status a1
  exact ⟨X, Y, e1, e2, e3, ⟨h1.1, e4⟩, h2, h3, h4, r, h6, h7, h8⟩
theorem step_aboard : Step_aboard Rel := by
  intro SC_faultPlace SC_refusedBy Hb_berthsOf Hb_port Hb_berth Hb_first Hb_last Hb_isGivenUp Hb_told Hb_held Ho_tons Ho_worth Ho_apartBits Ho_loads Ho_room Ho_bestBits Ho_bestTons Ho_bestWorth Pa_sailMiles Pa_weights Pa_chance Pa_burnt Pa_engineMiles Pa_daysReckoned Pa_milesReckoned Pa_coalReckoned Re_tokenStart Re_tokenEnd Ta_bytes Ta_length Ag_kind Ag_amount Ag_mark Ag_clauses Dr_kind Dr_amount Dr_mark Dr_clauses Vo_legSmoke Vo_firstLeg Vo_lastLeg Vo_legs We_weights We_knownFrom We_told Mo_thrown Mo_status Mo_windsTold Mo_weights Mo_windKnown Mo_sails Mo_engine Mo_chance Mo_burnt Mo_weighs Mo_wayOf Mo_wayChance Mo_wayBurnt Mo_loads Mo_lTons Mo_lWorth Mo_lApart Mo_lFrom Mo_lTo Mo_berths Mo_slots Mo_sPort Mo_sBerth Mo_sFirst Mo_sLast Mo_clauses Mo_cSort Mo_cA Mo_cB Mo_nMany Mo_nClause Mo_tape Mo_taped Mo_from Mo_to Mo_sort Mo_worth Mo_fault Mo_bad Mo_legs Mo_smokes h a1 a2 a3
  obtain ⟨h1, h2, h3, h4, h5, h6, h7, h8⟩ := h
  have h4 : R4 Ho_tons Ho_worth Ho_apartBits Ho_loads Mo_lTons Mo_lWorth Mo_lApart Mo_loads := h4
  have h5 : R5 Vo_legSmoke Vo_firstLeg Vo_lastLeg Vo_legs Mo_smokes Mo_lFrom Mo_lTo Mo_legs := h5
  obtain ⟨X, Y, e1, e2, e3, e4, r⟩ := st_aboard h4 h5 SC_refusedBy Mo_thrown Mo_status a1 a2 a3
  exact ⟨X, Y, e1, e2, e3, ⟨h1.1, e4⟩, h2, h3, h4, r, h6, h7, h8⟩
theorem step_part : Step_part Rel := by
  intro SC_faultPlace SC_refusedBy Hb_berthsOf Hb_port Hb_berth Hb_first Hb_last Hb_isGivenUp Hb_told Hb_held Ho_tons Ho_worth Ho_apartBits Ho_loads Ho_room Ho_bestBits Ho_bestTons Ho_bestWorth Pa_sailMiles Pa_weights Pa_chance Pa_burnt Pa_engineMiles Pa_daysReckoned Pa_milesReckoned Pa_coalReckoned Re_tokenStart Re_tokenEnd Ta_bytes Ta_length Ag_kind Ag_amount Ag_mark Ag_clauses Dr_kind Dr_amount Dr_mark Dr_clauses Vo_legSmoke Vo_firstLeg Vo_lastLeg Vo_legs We_weights We_knownFrom We_told Mo_thrown Mo_status Mo_windsTold Mo_weights Mo_windKnown Mo_sails Mo_engine Mo_chance Mo_burnt Mo_weighs Mo_wayOf Mo_wayChance Mo_wayBurnt Mo_loads Mo_lTons Mo_lWorth Mo_lApart Mo_lFrom Mo_lTo Mo_berths Mo_slots Mo_sPort Mo_sBerth Mo_sFirst Mo_sLast Mo_clauses Mo_cSort Mo_cA Mo_cB Mo_nMany Mo_nClause Mo_tape Mo_taped Mo_from Mo_to Mo_sort Mo_worth Mo_fault Mo_bad Mo_legs Mo_smokes h a1 a2
  obtain ⟨h1, h2, h3, h4, h5, h6, h7, h8⟩ := h
  have h4 : R4 Ho_tons Ho_worth Ho_apartBits Ho_loads Mo_lTons Mo_lWorth Mo_lApart Mo_loads := h4
  have h5 : R5 Vo_legSmoke Vo_firstLeg Vo_lastLeg Vo_legs Mo_smokes Mo_lFrom Mo_lTo Mo_legs := h5
  obtain ⟨X, Y, e1, e2, e3⟩ := st_part h4 h5 Mo_thrown a1 a2
  exact ⟨X, Y, e1, e2, e3, h1, h2, h3, h4, h5, h6, h7, h8⟩
theorem step_smoke : Step_smoke Rel := by
  intro SC_faultPlace SC_refusedBy Hb_berthsOf Hb_port Hb_berth Hb_first Hb_last Hb_isGivenUp Hb_told Hb_held Ho_tons Ho_worth Ho_apartBits Ho_loads Ho_room Ho_bestBits Ho_bestTons Ho_bestWorth Pa_sailMiles Pa_weights Pa_chance Pa_burnt Pa_engineMiles Pa_daysReckoned Pa_milesReckoned Pa_coalReckoned Re_tokenStart Re_tokenEnd Ta_bytes Ta_length Ag_kind Ag_amount Ag_mark Ag_clauses Dr_kind Dr_amount Dr_mark Dr_clauses Vo_legSmoke Vo_firstLeg Vo_lastLeg Vo_legs We_weights We_knownFrom We_told Mo_thrown Mo_status Mo_windsTold Mo_weights Mo_windKnown Mo_sails Mo_engine Mo_chance Mo_burnt Mo_weighs Mo_wayOf Mo_wayChance Mo_wayBurnt Mo_loads Mo_lTons Mo_lWorth Mo_lApart Mo_lFrom Mo_lTo Mo_berths Mo_slots Mo_sPort Mo_sBerth Mo_sFirst Mo_sLast Mo_clauses Mo_cSort Mo_cA Mo_cB Mo_nMany Mo_nClause Mo_tape Mo_taped Mo_from Mo_to Mo_sort Mo_worth Mo_fault Mo_bad Mo_legs Mo_smokes h a1
  obtain ⟨h1, h2, h3, h4, h5, h6, h7, h8⟩ := h
  have h4 : R4 Ho_tons Ho_worth Ho_apartBits Ho_loads Mo_lTons Mo_lWorth Mo_lApart Mo_loads := h4
  have h5 : R5 Vo_legSmoke Vo_firstLeg Vo_lastLeg Vo_legs Mo_smokes Mo_lFrom Mo_lTo Mo_legs := h5
  obtain ⟨X, Y, e1, e2, e3⟩ := st_smoke h4 h5 Mo_thrown a1
  exact ⟨X, Y, e1, e2, e3, h1, h2, h3, h4, h5, h6, h7, h8⟩
theorem step_count : Step_count Rel := by
  intro SC_faultPlace SC_refusedBy Hb_berthsOf Hb_port Hb_berth Hb_first Hb_last Hb_isGivenUp Hb_told Hb_held Ho_tons Ho_worth Ho_apartBits Ho_loads Ho_room Ho_bestBits Ho_bestTons Ho_bestWorth Pa_sailMiles Pa_weights Pa_chance Pa_burnt Pa_engineMiles Pa_daysReckoned Pa_milesReckoned Pa_coalReckoned Re_tokenStart Re_tokenEnd Ta_bytes Ta_length Ag_kind Ag_amount Ag_mark Ag_clauses Dr_kind Dr_amount Dr_mark Dr_clauses Vo_legSmoke Vo_firstLeg Vo_lastLeg Vo_legs We_weights We_knownFrom We_told Mo_thrown Mo_status Mo_windsTold Mo_weights Mo_windKnown Mo_sails Mo_engine Mo_chance Mo_burnt Mo_weighs Mo_wayOf Mo_wayChance Mo_wayBurnt Mo_loads Mo_lTons Mo_lWorth Mo_lApart Mo_lFrom Mo_lTo Mo_berths Mo_slots Mo_sPort Mo_sBerth Mo_sFirst Mo_sLast Mo_clauses Mo_cSort Mo_cA Mo_cB Mo_nMany Mo_nClause Mo_tape Mo_taped Mo_from Mo_to Mo_sort Mo_worth Mo_fault Mo_bad Mo_legs Mo_smokes h a1
  obtain ⟨h1, h2, h3, h4, h5, h6, h7, h8⟩ := h
  have h2 : R2 We_weights We_knownFrom We_told Mo_weights Mo_windKnown Mo_windsTold := h2
  have h4 : R4 Ho_tons Ho_worth Ho_apartBits Ho_loads Mo_lTons Mo_lWorth Mo_lApart Mo_loads := h4
  have h5 : R5 Vo_legSmoke Vo_firstLeg Vo_lastLeg Vo_legs Mo_smokes Mo_lFrom Mo_lTo Mo_legs := h5
  have h6 : R6 Hb_berthsOf Hb_port Hb_berth Hb_first Hb_last Hb_isGivenUp Hb_told Hb_held Mo_berths Mo_slots Mo_sPort Mo_sBerth Mo_sFirst Mo_sLast := h6
  have h7 : R7 Ta_bytes Ta_length Mo_tape Mo_taped := h7
  have h8 : R8 Ag_kind Ag_amount Ag_mark Ag_clauses Mo_clauses Mo_cSort Mo_cA Mo_cB := h8
  obtain ⟨X, Y, e1, e2, e3⟩ := st_count h2 h4 h5 h6 h7 h8 Mo_thrown a1
  exact ⟨X, Y, e1, e2, e3, h1, h2, h3, h4, h5, h6, h7, h8⟩
theorem step_status : Step_status Rel := by
  intro SC_faultPlace SC_refusedBy Hb_berthsOf Hb_port Hb_berth Hb_first Hb_last Hb_isGivenUp Hb_told Hb_held Ho_tons Ho_worth Ho_apartBits Ho_loads Ho_room Ho_bestBits Ho_bestTons Ho_bestWorth Pa_sailMiles Pa_weights Pa_chance Pa_burnt Pa_engineMiles Pa_daysReckoned Pa_milesReckoned Pa_coalReckoned Re_tokenStart Re_tokenEnd Ta_bytes Ta_length Ag_kind Ag_amount Ag_mark Ag_clauses Dr_kind Dr_amount Dr_mark Dr_clauses Vo_legSmoke Vo_firstLeg Vo_lastLeg Vo_legs We_weights We_knownFrom We_told Mo_thrown Mo_status Mo_windsTold Mo_weights Mo_windKnown Mo_sails Mo_engine Mo_chance Mo_burnt Mo_weighs Mo_wayOf Mo_wayChance Mo_wayBurnt Mo_loads Mo_lTons Mo_lWorth Mo_lApart Mo_lFrom Mo_lTo Mo_berths Mo_slots Mo_sPort Mo_sBerth Mo_sFirst Mo_sLast Mo_clauses Mo_cSort Mo_cA Mo_cB Mo_nMany Mo_nClause Mo_tape Mo_taped Mo_from Mo_to Mo_sort Mo_worth Mo_fault Mo_bad Mo_legs Mo_smokes h 
  obtain ⟨h1, h2, h3, h4, h5, h6, h7, h8⟩ := h
  have h1 : R1 SC_faultPlace SC_refusedBy Mo_fault Mo_status := h1
  obtain ⟨X, Y, e1, e2, e3⟩ := st_status h1 Mo_thrown
  exact ⟨X, Y, e1, e2, e3, h1, h2, h3, h4, h5, h6, h7, h8⟩
theorem all_steps : AllSteps Rel := ⟨step_winds, step_weight, step_sails, step_engine, step_luck, step_choice, step_promise, step_load, step_apart, step_stow, step_berths, step_slot, step_of, step_free, step_feed, step_end, step_contract, step_fault, step_due, step_leg, step_aboard, step_part, step_smoke, step_count, step_status⟩
