/-! the class's table: a place, a day, the days -/
def slO (s : Nat → Int32) (sl : Nat → Nat) : Prop := ∀ w, w < 4 → s w = nI (sl w) ∧ sl w ≤ 20
theorem p_afterSails {s : Nat → Int32} {sl : Nat → Nat} (hs : slO s sl) (d m c w : Nat) (hm : m ≤ 120) (hw : w < 4) : f_X2_afterSails s (nI (d + 1)) (nI m) (nI c) (nI w) = some (nI (d * 1573 + (m - sl w) * 13 + c)) := by
  unfold f_X2_afterSails
  obtain ⟨h1, h2⟩ := hs w hw
  have ed : nI (d + 1) - (1 : Int32) = nI d := nI_pred d
  simp only [inb_t (show w < 4 by omega) (show 4 < 2 ^ 31 by omega), nI_clamp (show w < 2 ^ 31 by omega), h1, if_true, ed, sub_pos (show m < 2 ^ 30 by omega) (show sl w < 2 ^ 30 by omega), p_at, Option.bind_some]
theorem p_after1 (en d m c : Nat) (hm : m ≤ 120) (he : en ≤ 20) (hc : 0 < c) : f_X2_afterCalm (nI en) 1 (nI (d + 1)) (nI m) (nI c) = some (nI (d * 1573 + (m - en) * 13 + (c - 1))) := by
  unfold f_X2_afterCalm
  have ed : nI (d + 1) - (1 : Int32) = nI d := nI_pred d
  have ec : nI c - (1 : Int32) = nI (c - 1) := pk_sub (b := 1) (by omega)
  simp only [if_true, ed, ec, sub_pos (show m < 2 ^ 30 by omega) (show en < 2 ^ 30 by omega), p_at, Option.bind_some]
theorem p_after2 (en d m c : Nat) : f_X2_afterCalm (nI en) 2 (nI (d + 1)) (nI m) (nI c) = some (nI (d * 1573 + m * 13 + c)) := by
  unfold f_X2_afterCalm
  have ed : nI (d + 1) - (1 : Int32) = nI d := nI_pred d
  have z : ((2 : Int32) = 1) = False := by decide
  simp only [z, if_false, ed, p_at, Option.bind_some]
theorem p_fuel1 {d : Nat} (hd : d ≤ 12) : f_X2_fuel 1 (nI (d + 1)) = some (p16 d) := by
  unfold f_X2_fuel
  have ed : nI (d + 1) - (1 : Int32) = nI d := nI_pred d
  simp only [if_true, ed, p_parts hd, Option.bind_some]
theorem p_fuel2 (d : Int32) : f_X2_fuel 2 d = some 0 := by
  unfold f_X2_fuel
  have z : ((2 : Int32) = 1) = False := by decide
  simp only [z, if_false]
/-- the calm choice's place and fuel -/
theorem p_calmAt {sl : Nat → Nat} {en : Nat} {wt : Nat → Int64} {C B : Nat → Int64} {d M K m c : Nat} (h : dayOK sl en wt C B d M K) (hd : d ≤ 11) (hM : M ≤ 120) (hK : K ≤ 12) (hm : m ≤ M) (hc : c ≤ K) (he : en ≤ 20) :
    ∃ (ch : Int32) (cp : Nat) (cf : Int64), f_X2_calmChoice C B (nI en) (nI (d + 1)) (nI m) (nI c) = some ch ∧ f_X2_afterCalm (nI en) ch (nI (d + 1)) (nI m) (nI c) = some (nI cp) ∧ f_X2_fuel ch (nI (d + 1)) = some cf ∧ cp < 20449 ∧ (ch, C cp, B cp + cf) = calm ((dpV sl en wt d (m - en) (c - 1)).1, (dpV sl en wt d (m - en) (c - 1)).2 + p16 d) (dpV sl en wt d m c) (decide (0 < c)) := by
  have hcalm := p_calm h hd hM hK hm hc he
  by_cases q : decide (0 < c) = true ∧ ¬ btr (dpV sl en wt d m c) ((dpV sl en wt d (m - en) (c - 1)).1, (dpV sl en wt d (m - en) (c - 1)).2 + p16 d) = true
  · have e : calm ((dpV sl en wt d (m - en) (c - 1)).1, (dpV sl en wt d (m - en) (c - 1)).2 + p16 d) (dpV sl en wt d m c) (decide (0 < c)) = (1, ((dpV sl en wt d (m - en) (c - 1)).1, (dpV sl en wt d (m - en) (c - 1)).2 + p16 d)) := by unfold calm; rw [if_pos q]
    rw [e] at hcalm ⊢
    have hc0 : 0 < c := of_decide_eq_true q.1
    refine ⟨1, _, _, hcalm, p_after1 en d m c (by omega) he hc0, p_fuel1 (by omega), by omega, ?_⟩
    rw [h.ch (m := m - en) (c := c - 1) (by omega) (by omega), h.bu (m := m - en) (c := c - 1) (by omega) (by omega)]
  · have e : calm ((dpV sl en wt d (m - en) (c - 1)).1, (dpV sl en wt d (m - en) (c - 1)).2 + p16 d) (dpV sl en wt d m c) (decide (0 < c)) = (2, dpV sl en wt d m c) := by unfold calm; rw [if_neg q]
    rw [e] at hcalm ⊢
    refine ⟨2, _, _, hcalm, p_after2 en d m c, p_fuel2 _, by omega, ?_⟩
    rw [h.ch hm hc, h.bu hm hc, Int64.add_zero]
theorem rp_step {s wts : Nat → Int32} {sl : Nat → Nat} {en : Nat} {wt : Nat → Int64} {C B : Nat → Int64} {d M K m c cp : Nat} {ch : Int32} {cf : Int64} (h : dayOK sl en wt C B d M K) (hs : slO s sl) (hwt : ∀ w, w < 4 → wt w = (wts w).toInt64) (hd : d ≤ 11) (hM : M ≤ 120) (hK : K ≤ 12) (hm : m ≤ M) (hc : c ≤ K) (hcp : cp < 20449)
    (hcl : (ch, C cp, B cp + cf) = calm ((dpV sl en wt d (m - en) (c - 1)).1, (dpV sl en wt d (m - en) (c - 1)).2 + p16 d) (dpV sl en wt d m c) (decide (0 < c))) (x8 x10 : Int64) (j n : Nat) (hj : j < 4) :
    g_X2_reckonPlace_37 s wts (nI en) (n + 1) C B (nI (d + 1)) (nI m) (nI c) (nI cp) cf x8 x10 (nI j) = g_X2_reckonPlace_37 s wts (nI en) n C B (nI (d + 1)) (nI m) (nI c) (nI cp) cf (x8 + wt j * (dpO sl en wt d m c j).2.1) (x10 + wt j * (dpO sl en wt d m c j).2.2) (nI (j + 1)) := by
  rw [gs_X2_reckonPlace_37]
  unfold f_X2_reckonPlace_37 f_X2_reckonPlace_158
  have e : ¬ (4 : Int32) ≤ nI j := nI_ge (a := j) (b := 4) (by omega) (by omega)
  have hsp : d * 1573 + (m - sl j) * 13 + c < 20449 := by omega
  have e3 : nI j + 1 = nI (j + 1) := nI_1 j
  rw [if_neg e, p_afterSails hs d m c j (by omega) hj]
  simp only [Option.bind_some]
  rw [p_better C B cp _ hcp hsp]
  have A1 := h.ch (m := m - sl j) (c := c) (by omega) hc
  have A2 := h.bu (m := m - sl j) (c := c) (by omega) hc
  have hp := pick_calm (dpV sl en wt d (m - sl j) c) ((dpV sl en wt d (m - en) (c - 1)).1, (dpV sl en wt d (m - en) (c - 1)).2 + p16 d) (dpV sl en wt d m c) (decide (0 < c))
  rw [← hcl] at hp
  have hO : dpO sl en wt d m c j = pick (dpV sl en wt d (m - sl j) c) ((dpV sl en wt d (m - en) (c - 1)).1, (dpV sl en wt d (m - en) (c - 1)).2 + p16 d) (dpV sl en wt d m c) (decide (0 < c)) := rfl
  rw [← hO] at hp
  simp only [Option.bind_some, if01, inb_t (show j < 4 by omega) (show 4 < 2 ^ 31 by omega), nI_clamp (show j < 2 ^ 31 by omega), inb_t hsp (show 20449 < 2 ^ 31 by omega), inb_t hcp (show 20449 < 2 ^ 31 by omega), nI_clamp (show d * 1573 + (m - sl j) * 13 + c < 2 ^ 31 by omega), nI_clamp (show cp < 2 ^ 31 by omega), if_true, e3, A1, A2, Int64.add_zero, ← hwt j hj]
  by_cases hb : btr (C cp, B cp + cf) ((dpV sl en wt d (m - sl j) c).1, (dpV sl en wt d (m - sl j) c).2) = true
  · have hb' : btr (C cp, B cp + cf) (dpV sl en wt d (m - sl j) c) = true := hb
    simp only [hb', if_true] at hp
    simp only [hb, not_true_eq_false, if_false, ← hp]
  · have hb' : ¬ btr (C cp, B cp + cf) (dpV sl en wt d (m - sl j) c) = true := hb
    simp only [hb', if_false] at hp
    simp only [hb, not_false_eq_true, if_true, ← hp, Bool.false_eq_true, if_false]
theorem p_place {s wts : Nat → Int32} {sl : Nat → Nat} {en : Nat} {wt : Nat → Int64} {C B : Nat → Int64} {d M K m c : Nat} (h : dayOK sl en wt C B d M K) (hs : slO s sl) (hwt : ∀ w, w < 4 → wt w = (wts w).toInt64) (hd : d ≤ 11) (hM : M ≤ 120) (hK : K ≤ 12) (hm1 : 0 < m) (hm : m ≤ M) (hc : c ≤ K) (he : en ≤ 20) :
    f_X2_reckonPlace s wts C B (nI en) (nI (d + 1)) (nI m) (nI c) = some (vp_updL C ((d + 1) * 1573 + m * 13 + c) (dpV sl en wt (d + 1) m c).1, vp_updL B ((d + 1) * 1573 + m * 13 + c) (dpV sl en wt (d + 1) m c).2) := by
  obtain ⟨ch, cp, cf, h1, h2, h3, h4, h5⟩ := p_calmAt h hd hM hK hm hc he
  unfold f_X2_reckonPlace
  rw [h1]
  simp only [Option.bind_some]
  rw [h2]
  simp only [Option.bind_some]
  rw [h3]
  simp only [Option.bind_some]
  have st := fun x8 x10 j n hj => rp_step (x8 := x8) (x10 := x10) (j := j) (n := n) h hs hwt hd hM hK hm hc h4 h5 hj
  have z : (0 : Int32) = nI 0 := rfl
  have f5 : FU = 999995 + 1 + 1 + 1 + 1 + 1 := rfl
  rw [z, f5, st _ _ 0 _ (by omega), st _ _ 1 _ (by omega), st _ _ 2 _ (by omega), st _ _ 3 _ (by omega), gs_X2_reckonPlace_37]
  unfold f_X2_reckonPlace_37
  have e : (4 : Int32) ≤ nI (3 + 1) := by decide
  have hpl : (d + 1) * 1573 + m * 13 + c < 20449 := by omega
  rw [if_pos e, p_at]
  simp only [Option.bind_some, inb_t hpl (show 20449 < 2 ^ 31 by omega), nI_clamp (show (d + 1) * 1573 + m * 13 + c < 2 ^ 31 by omega), if_true]
  rw [dpV_s sl en wt d c hm1]
  rfl
