/-! choice, promise -/
theorem p_best {s : Nat → Int32} {sl : Nat → Nat} {en : Nat} {wt : Nat → Int64} {C B : Nat → Int64} {d M K m c w : Nat} (h : dayOK sl en wt C B d M K) (hs : slO s sl) (hd : d ≤ 11) (hM : M ≤ 120) (hK : K ≤ 12) (hm : m ≤ M) (hc : c ≤ K) (he : en ≤ 20) (hw : w < 4) :
    f_X2_bestChoice s C B (nI en) (nI (d + 1)) (nI m) (nI c) (nI w) = some (dpO sl en wt d m c w).1 := by
  obtain ⟨ch, cp, cf, h1, h2, h3, h4, h5⟩ := p_calmAt h hd hM hK hm hc he
  unfold f_X2_bestChoice
  have hsp : d * 1573 + (m - sl w) * 13 + c < 20449 := by omega
  rw [h1]
  simp only [Option.bind_some]
  rw [h2]
  simp only [Option.bind_some]
  rw [h3, p_afterSails hs d m c w (by omega) hw]
  simp only [Option.bind_some]
  rw [p_better C B cp _ h4 hsp, h.ch (m := m - sl w) (c := c) (by omega) hc, h.bu (m := m - sl w) (c := c) (by omega) hc, Int64.add_zero]
  simp only [Option.bind_some, if01]
  have hp := pick_calm (dpV sl en wt d (m - sl w) c) ((dpV sl en wt d (m - en) (c - 1)).1, (dpV sl en wt d (m - en) (c - 1)).2 + p16 d) (dpV sl en wt d m c) (decide (0 < c))
  rw [← h5] at hp
  have hO : dpO sl en wt d m c w = pick (dpV sl en wt d (m - sl w) c) ((dpV sl en wt d (m - en) (c - 1)).1, (dpV sl en wt d (m - en) (c - 1)).2 + p16 d) (dpV sl en wt d m c) (decide (0 < c)) := rfl
  rw [hO, ← hp]
  by_cases hb : btr (C cp, B cp + cf) (dpV sl en wt d (m - sl w) c) = true
  · have hb' : btr (C cp, B cp + cf) ((dpV sl en wt d (m - sl w) c).1, (dpV sl en wt d (m - sl w) c).2) = true := hb
    simp only [hb, hb', if_true, not_true_eq_false, if_false]
  · have hb' : ¬ btr (C cp, B cp + cf) ((dpV sl en wt d (m - sl w) c).1, (dpV sl en wt d (m - sl w) c).2) = true := hb
    simp only [hb, hb', if_false, not_false_eq_true, if_true, Bool.false_eq_true]
theorem dpO_0 (sl : Nat → Nat) (en : Nat) (wt : Nat → Int64) {d : Nat} (hd : d ≤ 12) (c w : Nat) : (dpO sl en wt d 0 c w).1 = 0 := by
  have h : ∀ d, d ≤ 12 → btr (p16 d, 0 + p16 d) (p16 d, 0) = false ∧ btr (p16 d, 0) (p16 d, 0) = false := by decide +kernel
  unfold dpO
  rw [Nat.zero_sub, Nat.zero_sub, dpV_0, dpV_0]
  unfold pick
  simp only [(h d hd).1, (h d hd).2, Bool.false_eq_true, and_false, if_false]
theorem l56 {s w kf : Nat → Int32} {sl : Nat → Nat} {en : Nat} {wt : Nat → Int64} {C B : Nat → Int64} {d K M c m v : Nat} (kk : Int32) (h : day9 sl en wt C B d K M) (hs : slO s sl) (hd : d ≤ 11) (hK : K ≤ 12) (hM : M ≤ 120) (hc : c ≤ K) (hm : m ≤ M) (he : en ≤ 20) (hv : v < 4) (th : Int32) (wz : Nat → Int32) (wo : Int32) (wc wb : Int64) :
    ∀ (r j n : Nat), j + r = d → r < n → g_X9_choice_56 kk w kf s (nI en) n th C B wz wo wc wb (nI m) (nI (d + 1)) (nI c) (nI v) (p16 j) (nI (j + 1)) = some ((dpO sl en wt d m c v).1, th, C, B, wz, (dpO sl en wt d m c v).1, (dpO sl en wt d m c v).2.1, (dpO sl en wt d m c v).2.2) := by
  intro r
  induction r with
  | zero =>
    intro j n hj hn
    obtain ⟨k, rfl, hk⟩ := succ_of hn
    rw [gs_X9_choice_56]
    unfold f_X9_choice_56
    have e : nI (d + 1) ≤ nI (j + 1) := nI_le (by omega) (by omega)
    have e2 : j = d := by omega
    subst e2
    rw [if_pos e, p_choose h hs hd hK hM hc hm he hv]
    simp only [Option.bind_some]
  | succ r ih =>
    intro j n hj hn
    obtain ⟨k, rfl, hk⟩ := succ_of hn
    rw [gs_X9_choice_56]
    unfold f_X9_choice_56
    have e : ¬ nI (d + 1) ≤ nI (j + 1) := nI_ge (by omega) (by omega)
    rw [if_neg e, p16_mul j (by omega), nI_1]
    exact ih (j + 1) k (by omega) (by omega)
theorem sx_choice (th : Int32) {s wts : Nat → Int32} {C B : Nat → Int64} {en dr mr cr : Int32} (h : PI s wts C B en dr mr cr) (w kf : Nat → Int32) (k : Nat) (hk : k ≤ 40) (C9 B9 : Nat → Int64) (wz : Nat → Int32) (wo : Int32) (wc wb : Int64) (a b c v y : Int32) :
    ∃ X Y, f_X8_choice s wts C B en dr mr cr w kf (nI k) a b c v y = some X ∧ f_X9_choice th (nI k) w kf s en C9 B9 wz wo wc wb a b c v y = some Y ∧ X.1 = Y.1 ∧ PI s X.2.1 X.2.2.1 X.2.2.2.1 en X.2.2.2.2.1 X.2.2.2.2.2.1 X.2.2.2.2.2.2 := by
  unfold f_X8_choice f_X9_choice
  simp only [p_passage, p_voyage, p_iw, p_in32, p_wind, Option.bind_some, if01b, if01, t32_0, t32_12, t32_1, t64_0, t64_1, t64_3]
  rcases Bool.eq_false_or_eq_true (wi a 0 120) with h1 | h1
  · rcases Bool.eq_false_or_eq_true (wi c 0 12) with h2 | h2
    · rcases Bool.eq_false_or_eq_true (wi y 0 1000) with h3 | h3
      · rcases Bool.eq_false_or_eq_true (wi b 0 12) with h4 | h4
        · obtain ⟨dd, hdd, rfl⟩ := wi_nat (b := 12) h4 (by omega)
          by_cases hd0 : dd = 0
          · subst hd0
            have q : wi (nI 0) 1 12 = false := by decide
            have q2 : nI 0 = (0 : Int32) := rfl
            simp only [h1, h2, h3, h4, q, Bool.and_self, not_true_eq_false, reduceCtorEq, if_false, if_true, q2]
            exact ⟨_, _, rfl, rfl, rfl, h⟩
          · obtain ⟨d, rfl⟩ : ∃ d, dd = d + 1 := ⟨dd - 1, by omega⟩
            have q : wi (nI (d + 1)) 1 12 = true := (wi_nI (by omega) 1 12).mpr (by omega)
            have q2 : ¬ nI (d + 1) = (0 : Int32) := nI_ne0 (by omega) (by omega)
            rcases Bool.eq_false_or_eq_true (wi v 0 3) with h5 | h5
            · simp only [h1, h2, h3, h4, h5, q, q2, Bool.and_self, not_true_eq_false, reduceCtorEq, if_false]
              obtain ⟨m, hm, rfl⟩ := wi_nat (b := 120) h1 (by omega)
              obtain ⟨cc, hc, rfl⟩ := wi_nat (b := 12) h2 (by omega)
              obtain ⟨x, hx, rfl⟩ := wi_nat (b := 3) h5 (by omega)
              obtain ⟨wts', dr', q1, q2, q3⟩ := p_know h w kf y k hk
              rw [q1]
              simp only [Option.bind_some]
              obtain ⟨sl, e, D, M, K, a1, a2, a3, a4, a5, a6, a7, a8, a9, a10⟩ := q2
              subst a2 a4 a5 a6
              have ed : nI (d + 1) - (1 : Int32) = nI d := nI_pred d
              obtain ⟨C1, B1, D1, M1, K1, r1, r2, r3, r4, r5, r6, r7, r8⟩ := p_reckon a10 a1 (fun _ _ => rfl) a7 a8 a9 a3 m d cc hm (by omega) hc
              rw [ed, r1]
              simp only [Option.bind_some]
              rw [p_best (r8.2.2 d r7) a1 (by omega) r3 r4 r5 r6 a3 (show x < 4 by omega)]
              simp only [Option.bind_some]
              by_cases hm0 : m = 0
              · subst hm0
                have z : nI 0 = (0 : Int32) := rfl
                rw [if_pos z]
                refine ⟨_, _, rfl, rfl, ?_, sl, e, D1, M1, K1, a1, rfl, a3, rfl, rfl, rfl, r2, r3, r4, r8⟩
                exact dpO_0 _ _ _ (by omega) _ _
              · have z : ¬ nI m = (0 : Int32) := nI_ne0 (by omega) (by omega)
                rw [if_neg z]
                obtain ⟨C2, B2, wz2, wo2, wc2, wb2, f1, f2⟩ := p_find (w := w) (kf := kf) a1 a3 hk y hdd hc hm C9 B9 wz wo wc wb
                rw [f1]
                simp only [Option.bind_some]
                have hday : day9 sl e (wtL w kf y k) C2 B2 d cc m := fun c' m' g1 g2 => f2 d c' m' (by omega) g1 g2 (by omega)
                have L := l56 (w := w) (kf := kf) (nI k) hday a1 (by omega) hc hm (Nat.le_refl _) (Nat.le_refl _) a3 (show x < 4 by omega) 0 wz2 wo2 wc2 wb2 d 0 FU (by omega) (FU_gt (by omega))
                have o1 : (1 : Int64) = p16 0 := rfl
                have o2 : (1 : Int32) = nI (0 + 1) := rfl
                rw [o1, o2, L]
                refine ⟨_, _, rfl, rfl, ?_, sl, e, D1, M1, K1, a1, rfl, a3, rfl, rfl, rfl, r2, r3, r4, r8⟩
                have hv := fun d m cc => dpV_cong (sl := sl) (en := e) (fun _ _ => rfl) (wt := fun v => (wts' v).toInt64) (wt' := wtL w kf y k) (fun v hv => by unfold wtL; rw [q3 v hv]) d m cc
                show (dpO _ _ _ _ _ _ _).1 = (dpO _ _ _ _ _ _ _).1
                unfold dpO
                rw [hv, hv, hv]
            · simp only [h1, h2, h3, h4, h5, q, q2, Bool.and_self, Bool.and_true, Bool.and_false, not_true_eq_false, not_false_eq_true, reduceCtorEq, if_false, if_true]
              exact ⟨_, _, rfl, rfl, rfl, h⟩
        · have q : wi b 1 12 = false := by
            rcases Bool.eq_false_or_eq_true (wi b 1 12) with q | q
            · have : wi b 0 12 = true := wi_iff.mpr ⟨by have := wi_1 q; omega, wi_2 q⟩
              rw [this] at h4
              cases h4
            · exact q
          simp only [h1, h2, h3, h4, q, Bool.and_self, Bool.and_true, Bool.and_false, Bool.false_and, Bool.true_and, not_true_eq_false, not_false_eq_true, reduceCtorEq, if_false, if_true]
          exact ⟨_, _, rfl, rfl, rfl, h⟩
      · simp only [h1, h2, h3, Bool.and_self, Bool.and_true, Bool.and_false, Bool.false_and, Bool.true_and, not_true_eq_false, not_false_eq_true, reduceCtorEq, if_false, if_true]
        exact ⟨_, _, rfl, rfl, rfl, h⟩
    · simp only [h1, h2, Bool.and_self, Bool.and_true, Bool.and_false, Bool.false_and, Bool.true_and, not_true_eq_false, not_false_eq_true, reduceCtorEq, if_false, if_true]
      exact ⟨_, _, rfl, rfl, rfl, h⟩
  · simp only [h1, Bool.and_self, Bool.and_true, Bool.and_false, Bool.false_and, Bool.true_and, not_true_eq_false, not_false_eq_true, reduceCtorEq, if_false, if_true]
    exact ⟨_, _, rfl, rfl, rfl, h⟩
theorem l_promise {s wts w kf : Nat → Int32} {sl : Nat → Nat} {e : Nat} {wt : Nat → Int64} {C9 B9 : Nat → Int64} {c m : Nat} (kk : Int32) (hs : slO s sl) (he : e ≤ 20) (hc : c ≤ 12) (hm : m ≤ 120) (hwt : ∀ v, v < 4 → wt v = (wts v).toInt64) (hF : fillI sl e wt C9 B9 c m 13 0 0) (th : Int32) (wz : Nat → Int32) (wo : Int32) (wc wb : Int64) (x : Int32) :
    ∀ (r d n1 n2 D M K : Nat) (C B : Nat → Int64), d + r = 13 → r < n1 → r < n2 → D ≤ 12 → M ≤ 120 → K ≤ 12 → tabI sl e (fun v => (wts v).toInt64) C B D M K →
      ∃ X Y, g_X2_fewestDays_3 s wts (nI e) n1 C B (nI D) (nI M) (nI K) (nI m) (nI c) x (nI d) = some X ∧ g_X9_promise_45 kk w kf s (nI e) n2 th C9 B9 wz wo wc wb (nI m) (nI c) x (p16 d) (nI d) = some Y ∧ X.1 = Y.1 ∧ ∃ D' M' K', X.2.2.2.1 = nI D' ∧ X.2.2.2.2.1 = nI M' ∧ X.2.2.2.2.2 = nI K' ∧ D' ≤ 12 ∧ M' ≤ 120 ∧ K' ≤ 12 ∧ tabI sl e (fun v => (wts v).toInt64) X.2.1 X.2.2.1 D' M' K' := by
  intro r
  induction r with
  | zero =>
    intro d n1 n2 D M K C B hr h1 h2 hD hM hK hT
    obtain ⟨k1, rfl, hk1⟩ := succ_of h1
    obtain ⟨k2, rfl, hk2⟩ := succ_of h2
    rw [gs_X2_fewestDays_3, gs_X9_promise_45]
    unfold f_X2_fewestDays_3 f_X9_promise_45
    have e1 : (12 : Int32) < nI d := nI_lt (a := 12) (b := d) (by omega) (by omega)
    rw [if_pos e1, if_pos e1]
    exact ⟨_, _, rfl, rfl, rfl, D, M, K, rfl, rfl, rfl, hD, hM, hK, hT⟩
  | succ r ih =>
    intro d n1 n2 D M K C B hr h1 h2 hD hM hK hT
    obtain ⟨k1, rfl, hk1⟩ := succ_of h1
    obtain ⟨k2, rfl, hk2⟩ := succ_of h2
    rw [gs_X2_fewestDays_3, gs_X9_promise_45]
    unfold f_X2_fewestDays_3 f_X9_promise_45
    have e1 : ¬ (12 : Int32) < nI d := nI_nlt (a := 12) (b := d) (by omega) (by omega)
    obtain ⟨C1, B1, D1, M1, K1, r1, r2, r3, r4, r5, r6, r7, r8⟩ := p_reckon hT hs (fun _ _ => rfl) hD hM hK he m d c hm (by omega) hc
    rw [if_neg e1, if_neg e1, r1, p_at9 (by omega) hc hm]
    simp only [Option.bind_some]
    rw [tab_ch r8 r7 r2 r5 r3 r6 r4, p_parts (by omega)]
    have g1 := hF d c m (by omega) (Nat.le_refl _) (Nat.le_refl _) (by omega)
    have g2 : C9 ((13 * d + c) * 121 + m) = (dpV sl e (fun v => (wts v).toInt64) d m c).1 := by
      rw [← dpV_cong (sl := sl) (fun _ _ => rfl) (wt := wt) hwt d m c, ← g1]
    simp only [Option.bind_some, inb_t (show (13 * d + c) * 121 + m < 20449 by omega) (show 20449 < 2 ^ 31 by omega), nI_clamp (show (13 * d + c) * 121 + m < 2 ^ 31 by omega), if_true, g2]
    by_cases hq : (dpV sl e (fun v => (wts v).toInt64) d m c).1 * 16 < x.toInt64 * p16 d
    · rw [if_pos hq, if_pos hq, p16_mul d (by omega), nI_1]
      exact ih (d + 1) k1 k2 D1 M1 K1 C1 B1 (by omega) (by omega) (by omega) r2 r3 r4 r8
    · rw [if_neg hq, if_neg hq]
      exact ⟨_, _, rfl, rfl, rfl, D1, M1, K1, rfl, rfl, rfl, r2, r3, r4, r8⟩
theorem sx_promise (th : Int32) {s wts : Nat → Int32} {C B : Nat → Int64} {en dr mr cr : Int32} (h : PI s wts C B en dr mr cr) (w kf : Nat → Int32) (k : Nat) (hk : k ≤ 40) (C9 B9 : Nat → Int64) (wz : Nat → Int32) (wo : Int32) (wc wb : Int64) (a c y o : Int32) :
    ∃ X Y, f_X8_promise s wts C B en dr mr cr w kf (nI k) a c y o = some X ∧ f_X9_promise th (nI k) w kf s en C9 B9 wz wo wc wb a c y o = some Y ∧ X.1 = Y.1 ∧ PI s X.2.1 X.2.2.1 X.2.2.2.1 en X.2.2.2.2.1 X.2.2.2.2.2.1 X.2.2.2.2.2.2 := by
  unfold f_X8_promise f_X9_promise
  have w0 : wi (0 : Int32) 0 12 = true := by decide
  simp only [p_passage, p_voyage, p_iw, p_in32, Option.bind_some, if01b, if01, t32_0, t32_16, t32_1, t64_0, t64_1, t64_16, w0]
  rcases Bool.eq_false_or_eq_true (wi a 0 120) with h1 | h1
  · rcases Bool.eq_false_or_eq_true (wi c 0 12) with h2 | h2
    · rcases Bool.eq_false_or_eq_true (wi y 0 1000) with h3 | h3
      · rcases Bool.eq_false_or_eq_true (wi o 1 16) with h5 | h5
        · simp only [h1, h2, h3, h5, Bool.and_self, not_true_eq_false, reduceCtorEq, if_false]
          obtain ⟨m, hm, rfl⟩ := wi_nat (b := 120) h1 (by omega)
          obtain ⟨cc, hc, rfl⟩ := wi_nat (b := 12) h2 (by omega)
          obtain ⟨wts', dr', q1, q2, q3⟩ := p_know h w kf y k hk
          rw [q1]
          simp only [Option.bind_some]
          obtain ⟨sl, e, D, M, K, a1, a2, a3, a4, a5, a6, a7, a8, a9, a10⟩ := q2
          subst a2 a4 a5 a6
          obtain ⟨C2, B2, wz2, wo2, wc2, wb2, f1, f2⟩ := p_find (w := w) (kf := kf) a1 a3 hk y (d := 12) (by omega) hc hm C9 B9 wz wo wc wb
          have t12 : (12 : Int32) = nI 12 := rfl
          rw [t12, f1]
          simp only [Option.bind_some]
          unfold f_X2_fewestDays
          have o1 : (1 : Int64) = p16 0 := rfl
          have z : (0 : Int32) = nI 0 := rfl
          obtain ⟨X, Y, g1, g2, g3, D1, M1, K1, g4, g5, g6, g7, g8, g9, g10⟩ := l_promise (w := w) (kf := kf) (nI k) a1 a3 hc hm (wt := wtL w kf y k) (wts := wts') (fun v hv => by unfold wtL; rw [q3 v hv]) f2 0 wz2 wo2 wc2 wb2 o 13 0 FU FU D M K C B (by omega) (FU_gt (by omega)) (FU_gt (by omega)) a7 a8 a9 a10
          rw [o1]
          have g1' : g_X2_fewestDays_3 s wts' (nI e) FU C B (nI D) (nI M) (nI K) (nI m) (nI cc) o 0 = some X := g1
          have g2' : g_X9_promise_45 (nI k) w kf s (nI e) FU 0 C2 B2 wz2 wo2 wc2 wb2 (nI m) (nI cc) o (p16 0) 0 = some Y := g2
          rw [g1', g2']
          simp only [Option.bind_some]
          exact ⟨_, _, rfl, rfl, g3, sl, e, D1, M1, K1, a1, rfl, a3, g4, g5, g6, g7, g8, g9, g10⟩
        · simp only [h1, h2, h3, h5, Bool.and_self, Bool.and_true, Bool.and_false, not_true_eq_false, not_false_eq_true, reduceCtorEq, if_false, if_true]
          exact ⟨_, _, rfl, rfl, rfl, h⟩
      · simp only [h1, h2, h3, Bool.and_self, Bool.and_true, Bool.and_false, Bool.false_and, Bool.true_and, not_true_eq_false, not_false_eq_true, reduceCtorEq, if_false, if_true]
        exact ⟨_, _, rfl, rfl, rfl, h⟩
    · simp only [h1, h2, Bool.and_self, Bool.and_true, Bool.and_false, Bool.false_and, Bool.true_and, not_true_eq_false, not_false_eq_true, reduceCtorEq, if_false, if_true]
      exact ⟨_, _, rfl, rfl, rfl, h⟩
  · simp only [h1, Bool.and_self, Bool.and_true, Bool.and_false, Bool.false_and, Bool.true_and, not_true_eq_false, not_false_eq_true, reduceCtorEq, if_false, if_true]
    exact ⟨_, _, rfl, rfl, rfl, h⟩
