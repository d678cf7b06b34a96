def AllSteps (Rel : SX → SM → Prop) : Prop := Step_winds Rel ∧ Step_weight Rel ∧ Step_sails Rel ∧ Step_engine Rel ∧ Step_luck Rel ∧ Step_choice Rel ∧ Step_promise Rel ∧ Step_load Rel ∧ Step_apart Rel ∧ Step_stow Rel ∧ Step_berths Rel ∧ Step_slot Rel ∧ Step_of Rel ∧ Step_free Rel ∧ Step_feed Rel ∧ Step_end Rel ∧ Step_contract Rel ∧ Step_fault Rel ∧ Step_due Rel ∧ Step_leg Rel ∧ Step_aboard Rel ∧ Step_part Rel ∧ Step_smoke Rel ∧ Step_count Rel ∧ Step_status Rel
def Init (Rel : SX → SM → Prop) : Prop := ∃ (X : SX) (Y : SM), f_X8_init = some X ∧ f_X9_init = some Y ∧ Rel X Y
theorem ix_in {i k L : Nat} (h : i + k < L) (hL : L ≤ 3072) : vp_in (nI i + nI k) L := by rw [nI_add]; exact vp_in_nI h (by omega)
theorem lw_more {i L : Nat} (hi : i ≤ L) (hL : L ≤ 3072) (h : ¬ nI L - (6 : Int32) < nI i) : i + 6 ≤ L := by
  have e : (nI L - nI 6).toInt = (L : Int) - 6 := pk_sub_toInt (by omega) (by omega)
  have e2 : (nI i).toInt = (i : Int) := nI_toInt (by omega)
  have h2 : ¬ (nI L - nI 6).toInt < (nI i).toInt := fun q => h (Int32.lt_iff_toInt_lt.mpr q)
  omega
set_option maxHeartbeats 4000000 in
set_option maxRecDepth 100000 in
theorem law_loop {p : Program} {l : Launch} {e : Env} {s : State} {m : MethodId} {below : List Frame} {meth : Method} {c : Code} {D : va_G} {cy : Nat → ClassId} {adK adV : Nat → Nat} {b L : Nat} {xs : Nat → Int32} (hL : L ≤ 3072) (C0 : CX cL_law 4 ret RL wsL_law D cy p s m #[Value.ref b] meth c (LA s)) (hSW : SW adK adV (LA s) s s.heap) (hX : va_X b L xs s s.heap) (hbl : b < s.heap.size) {Rel : SX → SM → Prop} (hst : AllSteps Rel) : ∀ (n i : Nat), i ≤ L → L + 1 ≤ i + n → ∀ (σ : SX) (τ : SM), Rel σ τ → ∀ (qSC qHb qHo qPa qRe qTa qAg qDr qVo qWe qMo : Nat → Nat) (H : Heap) (locs : List Loc) (ls : Array Slot), va_P D vwCl (LW cy qSC qHb qHo qPa qRe qTa qAg qDr qVo qWe qMo σ τ) H → va_D (LA s) (LW cy qSC qHb qHo qPa qRe qTa qAg qDr qVo qWe qMo σ τ) → va_S (LA s) s.heap H locs → lv_has ls 4 [(0, .ref b), (1, .ref (qSC 0)), (2, .ref (qMo 0)), (3, .int (nI i))] → W p l e room_1 s m #[Value.ref b] below meth c H locs 58 83641 (lw_Z below #[Value.ref b] s) (F0 m 18 ls []) := by
  obtain ⟨hx, hb, hr, hml, hown, hts, hK, hA, hN, hlocks⟩ := id C0
  have hbA : ¬ LA s b := Nat.not_le.mpr hbl
  intro n
  induction n with
  | zero => intro i h1 h2; exact absurd h2 (by omega)
  | succ n ih =>
    intro i hi hn σ τ hR qSC qHb qHo qPa qRe qTa qAg qDr qVo qWe qMo H locs ls hP hD hS hl
    refine lv_iload_n hx hb dL_law_18 rfl (lv_at hl 3 rfl) ?_
    refine lv_aload_n hx hb dL_law_19 rfl (lv_at hl 0 rfl) ?_
    refine va_slen hx hb hX hbl hbA hS dL_law_20 ?_
    refine lv_bipush (v := 6) hx hb dL_law_21 (by decide) ?_
    refine lv_isub hx hb dL_law_23 ?_
    refine lv_icmp_gt (tgt := 1057) hx hb dL_law_24 (by decide) (fun _ => ?_) (fun hc => ?_)
    · refine lv_iconst (v := 1) hx hb dL_law_1057 (by decide) ?_
      refine va_forget (fun q hq => hS.2.2 q hq) ?_
      refine W.widen (k := 600000) (n := 7302249) (Nat.le_of_ble_eq_true rfl) (Nat.le_of_ble_eq_true rfl) ?_
      exact lw_ret hx hb hr hlocks dL_law_1058
    have h6 : i + 6 ≤ L := lw_more hi hL hc
    have kk : ∀ (σ : SX) (τ : SM) (qSC qHb qHo qPa qRe qTa qAg qDr qVo qWe qMo : Nat → Nat) (H : Heap) (locs : List Loc) (ls : Array Slot), Rel σ τ → va_P D vwCl (LW cy qSC qHb qHo qPa qRe qTa qAg qDr qVo qWe qMo σ τ) H → va_D (LA s) (LW cy qSC qHb qHo qPa qRe qTa qAg qDr qVo qWe qMo σ τ) → va_S (LA s) s.heap H locs → lv_has ls 4 [(0, .ref b), (1, .ref (qSC 0)), (2, .ref (qMo 0)), (3, .int (nI i))] → W p l e room_1 s m #[Value.ref b] below meth c H locs 58 83641 (lw_Z below #[Value.ref b] s) (F0 m 1051 ls []) := by
      intro σ τ qSC qHb qHo qPa qRe qTa qAg qDr qVo qWe qMo H locs ls hR hP hD hS hl
      refine lv_iinc (v := nI (i + 6)) (lv' := [(3, .int (nI (i + 6))), (0, .ref b), (1, .ref (qSC 0)), (2, .ref (qMo 0))]) hx hb dL_law_1051 hl (k := 3) rfl (nI_add i 6) (by decide) rfl (fun ls hl => ?_)
      refine lv_goto (tgt := 18) hx hb dL_law_1054 (by decide) ?_
      exact ih (i + 6) h6 (by omega) σ τ hR qSC qHb qHo qPa qRe qTa qAg qDr qVo qWe qMo H locs ls hP hD hS (lv_sub hl [1, 2, 3, 0] rfl)
    refine lv_aload_n hx hb dL_law_27 rfl (lv_at hl 0 rfl) ?_
    refine lv_iload_n hx hb dL_law_28 rfl (lv_at hl 3 rfl) ?_
    refine va_sld hx hb hX hbl hbA hS (vp_in_nI (by omega) (by omega)) dL_law_29 ?_
    refine lv_bipush (v := 31) hx hb dL_law_30 (by decide) ?_
    refine lv_iand hx hb dL_law_32 ?_
    refine lv_topi (fun e0 ee0 => ?_)
    by_cases hc0 : e0 = (0 : Int32)
    · refine lv_tableIn (off := 115) (tgt := 148) hx hb dL_law_33 (by rw [hc0]; decide) (by rw [hc0]; decide) (by rw [hc0]; decide) (by decide) ?_
      exact law_winds C0 hSW hX hbl hst.1 (ix_in (i := i) (k := 1) (by omega) hL) (ix_in (i := i) (k := 2) (by omega) hL) (ix_in (i := i) (k := 3) (by omega) hL) (ix_in (i := i) (k := 4) (by omega) hL) (ix_in (i := i) (k := 5) (by omega) hL) kk σ τ hR qSC qHb qHo qPa qRe qTa qAg qDr qVo qWe qMo H locs ls hP hD hS hl
    by_cases hc1 : e0 = (1 : Int32)
    · refine lv_tableIn (off := 178) (tgt := 211) hx hb dL_law_33 (by rw [hc1]; decide) (by rw [hc1]; decide) (by rw [hc1]; decide) (by decide) ?_
      exact law_weight C0 hSW hX hbl hst.2.1 (ix_in (i := i) (k := 1) (by omega) hL) (ix_in (i := i) (k := 2) (by omega) hL) (ix_in (i := i) (k := 3) (by omega) hL) (ix_in (i := i) (k := 4) (by omega) hL) (ix_in (i := i) (k := 5) (by omega) hL) kk σ τ hR qSC qHb qHo qPa qRe qTa qAg qDr qVo qWe qMo H locs ls hP hD hS hl
    by_cases hc2 : e0 = (2 : Int32)
    · refine lv_tableIn (off := 211) (tgt := 244) hx hb dL_law_33 (by rw [hc2]; decide) (by rw [hc2]; decide) (by rw [hc2]; decide) (by decide) ?_
      exact law_sails C0 hSW hX hbl hst.2.2.1 (ix_in (i := i) (k := 1) (by omega) hL) (ix_in (i := i) (k := 2) (by omega) hL) (ix_in (i := i) (k := 3) (by omega) hL) (ix_in (i := i) (k := 4) (by omega) hL) (ix_in (i := i) (k := 5) (by omega) hL) kk σ τ hR qSC qHb qHo qPa qRe qTa qAg qDr qVo qWe qMo H locs ls hP hD hS hl
    by_cases hc3 : e0 = (3 : Int32)
    · refine lv_tableIn (off := 244) (tgt := 277) hx hb dL_law_33 (by rw [hc3]; decide) (by rw [hc3]; decide) (by rw [hc3]; decide) (by decide) ?_
      exact law_engine C0 hSW hX hbl hst.2.2.2.1 (ix_in (i := i) (k := 1) (by omega) hL) (ix_in (i := i) (k := 2) (by omega) hL) (ix_in (i := i) (k := 3) (by omega) hL) (ix_in (i := i) (k := 4) (by omega) hL) (ix_in (i := i) (k := 5) (by omega) hL) kk σ τ hR qSC qHb qHo qPa qRe qTa qAg qDr qVo qWe qMo H locs ls hP hD hS hl
    by_cases hc4 : e0 = (4 : Int32)
    · refine lv_tableIn (off := 267) (tgt := 300) hx hb dL_law_33 (by rw [hc4]; decide) (by rw [hc4]; decide) (by rw [hc4]; decide) (by decide) ?_
      exact law_luck C0 hSW hX hbl hst.2.2.2.2.1 (ix_in (i := i) (k := 1) (by omega) hL) (ix_in (i := i) (k := 2) (by omega) hL) (ix_in (i := i) (k := 3) (by omega) hL) (ix_in (i := i) (k := 4) (by omega) hL) (ix_in (i := i) (k := 5) (by omega) hL) kk σ τ hR qSC qHb qHo qPa qRe qTa qAg qDr qVo qWe qMo H locs ls hP hD hS hl
    by_cases hc5 : e0 = (5 : Int32)
    · refine lv_tableIn (off := 331) (tgt := 364) hx hb dL_law_33 (by rw [hc5]; decide) (by rw [hc5]; decide) (by rw [hc5]; decide) (by decide) ?_
      exact law_choice C0 hSW hX hbl hst.2.2.2.2.2.1 (ix_in (i := i) (k := 1) (by omega) hL) (ix_in (i := i) (k := 2) (by omega) hL) (ix_in (i := i) (k := 3) (by omega) hL) (ix_in (i := i) (k := 4) (by omega) hL) (ix_in (i := i) (k := 5) (by omega) hL) kk σ τ hR qSC qHb qHo qPa qRe qTa qAg qDr qVo qWe qMo H locs ls hP hD hS hl
    by_cases hc6 : e0 = (6 : Int32)
    · refine lv_tableIn (off := 394) (tgt := 427) hx hb dL_law_33 (by rw [hc6]; decide) (by rw [hc6]; decide) (by rw [hc6]; decide) (by decide) ?_
      exact law_promise C0 hSW hX hbl hst.2.2.2.2.2.2.1 (ix_in (i := i) (k := 1) (by omega) hL) (ix_in (i := i) (k := 2) (by omega) hL) (ix_in (i := i) (k := 3) (by omega) hL) (ix_in (i := i) (k := 4) (by omega) hL) (ix_in (i := i) (k := 5) (by omega) hL) kk σ τ hR qSC qHb qHo qPa qRe qTa qAg qDr qVo qWe qMo H locs ls hP hD hS hl
    by_cases hc7 : e0 = (7 : Int32)
    · refine lv_tableIn (off := 447) (tgt := 480) hx hb dL_law_33 (by rw [hc7]; decide) (by rw [hc7]; decide) (by rw [hc7]; decide) (by decide) ?_
      exact law_load C0 hSW hX hbl hst.2.2.2.2.2.2.2.1 (ix_in (i := i) (k := 1) (by omega) hL) (ix_in (i := i) (k := 2) (by omega) hL) (ix_in (i := i) (k := 3) (by omega) hL) (ix_in (i := i) (k := 4) (by omega) hL) (ix_in (i := i) (k := 5) (by omega) hL) kk σ τ hR qSC qHb qHo qPa qRe qTa qAg qDr qVo qWe qMo H locs ls hP hD hS hl
    by_cases hc8 : e0 = (8 : Int32)
    · refine lv_tableIn (off := 480) (tgt := 513) hx hb dL_law_33 (by rw [hc8]; decide) (by rw [hc8]; decide) (by rw [hc8]; decide) (by decide) ?_
      exact law_apart C0 hSW hX hbl hst.2.2.2.2.2.2.2.2.1 (ix_in (i := i) (k := 1) (by omega) hL) (ix_in (i := i) (k := 2) (by omega) hL) (ix_in (i := i) (k := 3) (by omega) hL) (ix_in (i := i) (k := 4) (by omega) hL) (ix_in (i := i) (k := 5) (by omega) hL) kk σ τ hR qSC qHb qHo qPa qRe qTa qAg qDr qVo qWe qMo H locs ls hP hD hS hl
    by_cases hc9 : e0 = (9 : Int32)
    · refine lv_tableIn (off := 539) (tgt := 572) hx hb dL_law_33 (by rw [hc9]; decide) (by rw [hc9]; decide) (by rw [hc9]; decide) (by decide) ?_
      exact law_stow C0 hSW hX hbl hst.2.2.2.2.2.2.2.2.2.1 (ix_in (i := i) (k := 1) (by omega) hL) (ix_in (i := i) (k := 2) (by omega) hL) (ix_in (i := i) (k := 3) (by omega) hL) (ix_in (i := i) (k := 4) (by omega) hL) (ix_in (i := i) (k := 5) (by omega) hL) kk σ τ hR qSC qHb qHo qPa qRe qTa qAg qDr qVo qWe qMo H locs ls hP hD hS hl
    by_cases hc10 : e0 = (10 : Int32)
    · refine lv_tableIn (off := 572) (tgt := 605) hx hb dL_law_33 (by rw [hc10]; decide) (by rw [hc10]; decide) (by rw [hc10]; decide) (by decide) ?_
      exact law_berths C0 hSW hX hbl hst.2.2.2.2.2.2.2.2.2.2.1 (ix_in (i := i) (k := 1) (by omega) hL) (ix_in (i := i) (k := 2) (by omega) hL) (ix_in (i := i) (k := 3) (by omega) hL) (ix_in (i := i) (k := 4) (by omega) hL) (ix_in (i := i) (k := 5) (by omega) hL) kk σ τ hR qSC qHb qHo qPa qRe qTa qAg qDr qVo qWe qMo H locs ls hP hD hS hl
    by_cases hc11 : e0 = (11 : Int32)
    · refine lv_tableIn (off := 605) (tgt := 638) hx hb dL_law_33 (by rw [hc11]; decide) (by rw [hc11]; decide) (by rw [hc11]; decide) (by decide) ?_
      exact law_slot C0 hSW hX hbl hst.2.2.2.2.2.2.2.2.2.2.2.1 (ix_in (i := i) (k := 1) (by omega) hL) (ix_in (i := i) (k := 2) (by omega) hL) (ix_in (i := i) (k := 3) (by omega) hL) (ix_in (i := i) (k := 4) (by omega) hL) (ix_in (i := i) (k := 5) (by omega) hL) kk σ τ hR qSC qHb qHo qPa qRe qTa qAg qDr qVo qWe qMo H locs ls hP hD hS hl
    by_cases hc12 : e0 = (12 : Int32)
    · refine lv_tableIn (off := 648) (tgt := 681) hx hb dL_law_33 (by rw [hc12]; decide) (by rw [hc12]; decide) (by rw [hc12]; decide) (by decide) ?_
      exact law_of C0 hSW hX hbl hst.2.2.2.2.2.2.2.2.2.2.2.2.1 (ix_in (i := i) (k := 1) (by omega) hL) (ix_in (i := i) (k := 2) (by omega) hL) (ix_in (i := i) (k := 3) (by omega) hL) (ix_in (i := i) (k := 4) (by omega) hL) (ix_in (i := i) (k := 5) (by omega) hL) kk σ τ hR qSC qHb qHo qPa qRe qTa qAg qDr qVo qWe qMo H locs ls hP hD hS hl
    by_cases hc13 : e0 = (13 : Int32)
    · refine lv_tableIn (off := 681) (tgt := 714) hx hb dL_law_33 (by rw [hc13]; decide) (by rw [hc13]; decide) (by rw [hc13]; decide) (by decide) ?_
      exact law_free C0 hSW hX hbl hst.2.2.2.2.2.2.2.2.2.2.2.2.2.1 (ix_in (i := i) (k := 1) (by omega) hL) (ix_in (i := i) (k := 2) (by omega) hL) (ix_in (i := i) (k := 3) (by omega) hL) (ix_in (i := i) (k := 4) (by omega) hL) (ix_in (i := i) (k := 5) (by omega) hL) kk σ τ hR qSC qHb qHo qPa qRe qTa qAg qDr qVo qWe qMo H locs ls hP hD hS hl
    by_cases hc14 : e0 = (14 : Int32)
    · refine lv_tableIn (off := 704) (tgt := 737) hx hb dL_law_33 (by rw [hc14]; decide) (by rw [hc14]; decide) (by rw [hc14]; decide) (by decide) ?_
      exact law_feed C0 hSW hX hbl hst.2.2.2.2.2.2.2.2.2.2.2.2.2.2.1 (ix_in (i := i) (k := 1) (by omega) hL) (ix_in (i := i) (k := 2) (by omega) hL) (ix_in (i := i) (k := 3) (by omega) hL) (ix_in (i := i) (k := 4) (by omega) hL) (ix_in (i := i) (k := 5) (by omega) hL) kk σ τ hR qSC qHb qHo qPa qRe qTa qAg qDr qVo qWe qMo H locs ls hP hD hS hl
    by_cases hc15 : e0 = (15 : Int32)
    · refine lv_tableIn (off := 767) (tgt := 800) hx hb dL_law_33 (by rw [hc15]; decide) (by rw [hc15]; decide) (by rw [hc15]; decide) (by decide) ?_
      exact law_end C0 hSW hX hbl hst.2.2.2.2.2.2.2.2.2.2.2.2.2.2.2.1 (ix_in (i := i) (k := 1) (by omega) hL) (ix_in (i := i) (k := 2) (by omega) hL) (ix_in (i := i) (k := 3) (by omega) hL) (ix_in (i := i) (k := 4) (by omega) hL) (ix_in (i := i) (k := 5) (by omega) hL) kk σ τ hR qSC qHb qHo qPa qRe qTa qAg qDr qVo qWe qMo H locs ls hP hD hS hl
    by_cases hc16 : e0 = (16 : Int32)
    · refine lv_tableIn (off := 790) (tgt := 823) hx hb dL_law_33 (by rw [hc16]; decide) (by rw [hc16]; decide) (by rw [hc16]; decide) (by decide) ?_
      exact law_contract C0 hSW hX hbl hst.2.2.2.2.2.2.2.2.2.2.2.2.2.2.2.2.1 (ix_in (i := i) (k := 1) (by omega) hL) (ix_in (i := i) (k := 2) (by omega) hL) (ix_in (i := i) (k := 3) (by omega) hL) (ix_in (i := i) (k := 4) (by omega) hL) (ix_in (i := i) (k := 5) (by omega) hL) kk σ τ hR qSC qHb qHo qPa qRe qTa qAg qDr qVo qWe qMo H locs ls hP hD hS hl
    by_cases hc17 : e0 = (17 : Int32)
    · refine lv_tableIn (off := 803) (tgt := 836) hx hb dL_law_33 (by rw [hc17]; decide) (by rw [hc17]; decide) (by rw [hc17]; decide) (by decide) ?_
      exact law_fault C0 hSW hX hbl hst.2.2.2.2.2.2.2.2.2.2.2.2.2.2.2.2.2.1 (ix_in (i := i) (k := 1) (by omega) hL) (ix_in (i := i) (k := 2) (by omega) hL) (ix_in (i := i) (k := 3) (by omega) hL) (ix_in (i := i) (k := 4) (by omega) hL) (ix_in (i := i) (k := 5) (by omega) hL) kk σ τ hR qSC qHb qHo qPa qRe qTa qAg qDr qVo qWe qMo H locs ls hP hD hS hl
    by_cases hc18 : e0 = (18 : Int32)
    · refine lv_tableIn (off := 816) (tgt := 849) hx hb dL_law_33 (by rw [hc18]; decide) (by rw [hc18]; decide) (by rw [hc18]; decide) (by decide) ?_
      exact law_due C0 hSW hX hbl hst.2.2.2.2.2.2.2.2.2.2.2.2.2.2.2.2.2.2.1 (ix_in (i := i) (k := 1) (by omega) hL) (ix_in (i := i) (k := 2) (by omega) hL) (ix_in (i := i) (k := 3) (by omega) hL) (ix_in (i := i) (k := 4) (by omega) hL) (ix_in (i := i) (k := 5) (by omega) hL) kk σ τ hR qSC qHb qHo qPa qRe qTa qAg qDr qVo qWe qMo H locs ls hP hD hS hl
    by_cases hc19 : e0 = (19 : Int32)
    · refine lv_tableIn (off := 860) (tgt := 893) hx hb dL_law_33 (by rw [hc19]; decide) (by rw [hc19]; decide) (by rw [hc19]; decide) (by decide) ?_
      exact law_leg C0 hSW hX hbl hst.2.2.2.2.2.2.2.2.2.2.2.2.2.2.2.2.2.2.2.1 (ix_in (i := i) (k := 1) (by omega) hL) (ix_in (i := i) (k := 2) (by omega) hL) (ix_in (i := i) (k := 3) (by omega) hL) (ix_in (i := i) (k := 4) (by omega) hL) (ix_in (i := i) (k := 5) (by omega) hL) kk σ τ hR qSC qHb qHo qPa qRe qTa qAg qDr qVo qWe qMo H locs ls hP hD hS hl
    by_cases hc20 : e0 = (20 : Int32)
    · refine lv_tableIn (off := 883) (tgt := 916) hx hb dL_law_33 (by rw [hc20]; decide) (by rw [hc20]; decide) (by rw [hc20]; decide) (by decide) ?_
      exact law_aboard C0 hSW hX hbl hst.2.2.2.2.2.2.2.2.2.2.2.2.2.2.2.2.2.2.2.2.1 (ix_in (i := i) (k := 1) (by omega) hL) (ix_in (i := i) (k := 2) (by omega) hL) (ix_in (i := i) (k := 3) (by omega) hL) (ix_in (i := i) (k := 4) (by omega) hL) (ix_in (i := i) (k := 5) (by omega) hL) kk σ τ hR qSC qHb qHo qPa qRe qTa qAg qDr qVo qWe qMo H locs ls hP hD hS hl
    by_cases hc21 : e0 = (21 : Int32)
    · refine lv_tableIn (off := 926) (tgt := 959) hx hb dL_law_33 (by rw [hc21]; decide) (by rw [hc21]; decide) (by rw [hc21]; decide) (by decide) ?_
      exact law_part C0 hSW hX hbl hst.2.2.2.2.2.2.2.2.2.2.2.2.2.2.2.2.2.2.2.2.2.1 (ix_in (i := i) (k := 1) (by omega) hL) (ix_in (i := i) (k := 2) (by omega) hL) (ix_in (i := i) (k := 3) (by omega) hL) (ix_in (i := i) (k := 4) (by omega) hL) (ix_in (i := i) (k := 5) (by omega) hL) kk σ τ hR qSC qHb qHo qPa qRe qTa qAg qDr qVo qWe qMo H locs ls hP hD hS hl
    by_cases hc22 : e0 = (22 : Int32)
    · refine lv_tableIn (off := 959) (tgt := 992) hx hb dL_law_33 (by rw [hc22]; decide) (by rw [hc22]; decide) (by rw [hc22]; decide) (by decide) ?_
      exact law_smoke C0 hSW hX hbl hst.2.2.2.2.2.2.2.2.2.2.2.2.2.2.2.2.2.2.2.2.2.2.1 (ix_in (i := i) (k := 1) (by omega) hL) (ix_in (i := i) (k := 2) (by omega) hL) (ix_in (i := i) (k := 3) (by omega) hL) (ix_in (i := i) (k := 4) (by omega) hL) (ix_in (i := i) (k := 5) (by omega) hL) kk σ τ hR qSC qHb qHo qPa qRe qTa qAg qDr qVo qWe qMo H locs ls hP hD hS hl
    by_cases hc23 : e0 = (23 : Int32)
    · refine lv_tableIn (off := 982) (tgt := 1015) hx hb dL_law_33 (by rw [hc23]; decide) (by rw [hc23]; decide) (by rw [hc23]; decide) (by decide) ?_
      exact law_count C0 hSW hX hbl hst.2.2.2.2.2.2.2.2.2.2.2.2.2.2.2.2.2.2.2.2.2.2.2.1 (ix_in (i := i) (k := 1) (by omega) hL) (ix_in (i := i) (k := 2) (by omega) hL) (ix_in (i := i) (k := 3) (by omega) hL) (ix_in (i := i) (k := 4) (by omega) hL) (ix_in (i := i) (k := 5) (by omega) hL) kk σ τ hR qSC qHb qHo qPa qRe qTa qAg qDr qVo qWe qMo H locs ls hP hD hS hl
    by_cases hc24 : e0 = (24 : Int32)
    · refine lv_tableIn (off := 1005) (tgt := 1038) hx hb dL_law_33 (by rw [hc24]; decide) (by rw [hc24]; decide) (by rw [hc24]; decide) (by decide) ?_
      exact law_status C0 hSW hX hbl hst.2.2.2.2.2.2.2.2.2.2.2.2.2.2.2.2.2.2.2.2.2.2.2.2 (ix_in (i := i) (k := 1) (by omega) hL) (ix_in (i := i) (k := 2) (by omega) hL) (ix_in (i := i) (k := 3) (by omega) hL) (ix_in (i := i) (k := 4) (by omega) hL) (ix_in (i := i) (k := 5) (by omega) hL) kk σ τ hR qSC qHb qHo qPa qRe qTa qAg qDr qVo qWe qMo H locs ls hP hD hS hl
    refine lv_tableOut (tgt := 1051) hx hb dL_law_33 (by have n0 := lv_neT hc0 (a := 0) (by decide); have n1 := lv_neT hc1 (a := 1) (by decide); have n2 := lv_neT hc2 (a := 2) (by decide); have n3 := lv_neT hc3 (a := 3) (by decide); have n4 := lv_neT hc4 (a := 4) (by decide); have n5 := lv_neT hc5 (a := 5) (by decide); have n6 := lv_neT hc6 (a := 6) (by decide); have n7 := lv_neT hc7 (a := 7) (by decide); have n8 := lv_neT hc8 (a := 8) (by decide); have n9 := lv_neT hc9 (a := 9) (by decide); have n10 := lv_neT hc10 (a := 10) (by decide); have n11 := lv_neT hc11 (a := 11) (by decide); have n12 := lv_neT hc12 (a := 12) (by decide); have n13 := lv_neT hc13 (a := 13) (by decide); have n14 := lv_neT hc14 (a := 14) (by decide); have n15 := lv_neT hc15 (a := 15) (by decide); have n16 := lv_neT hc16 (a := 16) (by decide); have n17 := lv_neT hc17 (a := 17) (by decide); have n18 := lv_neT hc18 (a := 18) (by decide); have n19 := lv_neT hc19 (a := 19) (by decide); have n20 := lv_neT hc20 (a := 20) (by decide); have n21 := lv_neT hc21 (a := 21) (by decide); have n22 := lv_neT hc22 (a := 22) (by decide); have n23 := lv_neT hc23 (a := 23) (by decide); have n24 := lv_neT hc24 (a := 24) (by decide); omega) (by decide) ?_
    exact kk σ τ qSC qHb qHo qPa qRe qTa qAg qDr qVo qWe qMo H locs ls hR hP hD hS hl

