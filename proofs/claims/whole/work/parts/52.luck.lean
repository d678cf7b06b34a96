/-! luck, choice, promise -/
theorem sum4_cong {f g : Nat → Int64} (h : ∀ v, v < 4 → f v = g v) : sum4 f = sum4 g := by
  unfold sum4
  rw [h 0 (by omega), h 1 (by omega), h 2 (by omega), h 3 (by omega)]
theorem dpV_cong {sl sl' : Nat → Nat} {en : Nat} {wt wt' : Nat → Int64} (h1 : ∀ v, v < 4 → sl v = sl' v) (h2 : ∀ v, v < 4 → wt v = wt' v) : ∀ d m c, dpV sl en wt d m c = dpV sl' en wt' d m c := by
  intro d
  induction d with
  | zero => intro m c; rfl
  | succ d ih =>
    intro m c
    by_cases hm : m = 0
    · subst hm; rw [dpV_0, dpV_0]
    · rw [dpV_s _ _ _ _ _ (by omega), dpV_s _ _ _ _ _ (by omega)]
      have hO : ∀ v, v < 4 → dpO sl en wt d m c v = dpO sl' en wt' d m c v := fun v hv => by unfold dpO; rw [ih, ih, ih, h1 v hv]
      rw [sum4_cong (f := fun w => wt w * (dpO sl en wt d m c w).2.1) (g := fun w => wt' w * (dpO sl' en wt' d m c w).2.1) (fun v hv => by simp only [hO v hv, h2 v hv]), sum4_cong (f := fun w => wt w * (dpO sl en wt d m c w).2.2) (g := fun w => wt' w * (dpO sl' en wt' d m c w).2.2) (fun v hv => by simp only [hO v hv, h2 v hv])]
theorem tabI.cong {sl : Nat → Nat} {en : Nat} {wt wt' : Nat → Int64} {C B : Nat → Int64} {D M K : Nat} (h2 : ∀ v, v < 4 → wt v = wt' v) (h : tabI sl en wt C B D M K) : tabI sl en wt' C B D M K :=
  ⟨h.1, h.2.1, fun d hd m c hm hc => by rw [← dpV_cong (fun _ _ => rfl) h2]; exact h.2.2 d hd m c hm hc⟩
def PI (s wts : Nat → Int32) (C B : Nat → Int64) (en dr mr cr : Int32) : Prop :=
  ∃ (sl : Nat → Nat) (e D M K : Nat), slO s sl ∧ en = nI e ∧ e ≤ 20 ∧ dr = nI D ∧ mr = nI M ∧ cr = nI K ∧ D ≤ 12 ∧ M ≤ 120 ∧ K ≤ 12 ∧ tabI sl e (fun v => (wts v).toInt64) C B D M K
theorem l_know (w kf : Nat → Int32) (y : Int32) (k : Nat) (hk : k ≤ 40) : ∀ (r j n : Nat) (wts : Nat → Int32) (dr : Int32), j + r = 4 → r < n → (∀ v, v < j → wts v = wtOf w kf y k v) → ∃ wts' dr', g_X2_know_2 w kf (nI k) n wts dr y (nI j) = some (wts', dr') ∧ (∀ v, v < 4 → wts' v = wtOf w kf y k v) ∧ (((∀ v, wts' v = wts v) ∧ dr' = dr) ∨ dr' = 0) := by
  intro r
  induction r with
  | zero =>
    intro j n wts dr hj hn hw
    obtain ⟨m, rfl, hm⟩ := succ_of hn
    rw [gs_X2_know_2]
    unfold f_X2_know_2
    have e : (4 : Int32) ≤ nI j := nI_le (a := 4) (b := j) (by omega) (by omega)
    rw [if_pos e]
    exact ⟨wts, dr, rfl, fun v hv => hw v (by omega), Or.inl ⟨fun _ => rfl, rfl⟩⟩
  | succ r ih =>
    intro j n wts dr hj hn hw
    obtain ⟨m, rfl, hm⟩ := succ_of hn
    rw [gs_X2_know_2]
    unfold f_X2_know_2 f_X2_know_39
    have e : ¬ (4 : Int32) ≤ nI j := nI_ge (a := j) (b := 4) (by omega) (by omega)
    have e3 : nI j + 1 = nI (j + 1) := nI_1 j
    rw [if_neg e, p_weightOf w kf y k j hk (by omega)]
    simp only [Option.bind_some, inb_t (show j < 4 by omega) (show 4 < 2 ^ 31 by omega), nI_clamp (show j < 2 ^ 31 by omega), if_true, e3]
    by_cases h : wtOf w kf y k j = wts j
    · rw [if_pos h]
      exact ih (j + 1) m wts dr (by omega) (by omega) (fun v hv => by
        by_cases hvj : v = j
        · subst hvj; exact h.symm
        · exact hw v (by omega))
    · rw [if_neg h]
      obtain ⟨wts', dr', q1, q2, q3⟩ := ih (j + 1) m (upd wts j (wtOf w kf y k j)) 0 (by omega) (by omega) (fun v hv => by
        by_cases hvj : v = j
        · subst hvj; simp only [upd, if_true]
        · simp only [upd, hvj, if_false]; exact hw v (by omega))
      refine ⟨wts', dr', q1, q2, Or.inr ?_⟩
      rcases q3 with q | q
      · exact q.2
      · exact q
theorem p_know {s wts : Nat → Int32} {C B : Nat → Int64} {en dr mr cr : Int32} (h : PI s wts C B en dr mr cr) (w kf : Nat → Int32) (y : Int32) (k : Nat) (hk : k ≤ 40) :
    ∃ wts' dr', f_X2_know wts dr w kf (nI k) y = some (wts', dr') ∧ PI s wts' C B en dr' mr cr ∧ ∀ v, v < 4 → wts' v = wtOf w kf y k v := by
  unfold f_X2_know
  obtain ⟨wts', dr', q1, q2, q3⟩ := l_know w kf y k hk 4 0 FU wts dr (by omega) (FU_gt (by omega)) (fun v hv => by omega)
  refine ⟨wts', dr', q1, ?_, q2⟩
  obtain ⟨sl, e, D, M, K, a1, a2, a3, a4, a5, a6, a7, a8, a9, a10⟩ := h
  rcases q3 with ⟨h1, h2⟩ | h2
  · exact ⟨sl, e, D, M, K, a1, a2, a3, by rw [h2, a4], a5, a6, a7, a8, a9, a10.cong (fun v _ => by rw [h1 v])⟩
  · exact ⟨sl, e, 0, M, K, a1, a2, a3, h2, a5, a6, by omega, a8, a9, a10.reset a8 a9⟩
theorem p_passage (m c y : Int32) : f_X8_isPassage m c y = some (if (wi m 0 120 && (wi c 0 12 && wi y 0 1000)) = true then 1 else 0) := by
  unfold f_X8_isPassage
  simp only [p_iw, p_known, Option.bind_some, if01b, t32_0, t32_120, t32_12]
  cases wi m 0 120 <;> cases wi c 0 12 <;> cases wi y 0 1000 <;> rfl
theorem p_voyage (m d c y : Int32) : f_X9_areVoyage m d c y = some (if (wi m 0 120 && (wi d 0 12 && (wi c 0 12 && wi y 0 1000))) = true then 1 else 0) := by
  unfold f_X9_areVoyage
  simp only [p_in32, p_known9, Option.bind_some, if01b, t64_0, t64_120, t64_12]
  cases wi m 0 120 <;> cases wi d 0 12 <;> cases wi c 0 12 <;> cases wi y 0 1000 <;> rfl
/-- the table answers as the days' values do -/
theorem tab_ch {sl : Nat → Nat} {en : Nat} {wt : Nat → Int64} {C B : Nat → Int64} {D M K d m c : Nat} (h : tabI sl en wt C B D M K) (hd : d ≤ D) (hD : D ≤ 12) (hm : m ≤ M) (hM : M ≤ 120) (hc : c ≤ K) (hK : K ≤ 12) : f_X2_chanceOf C (nI m) (nI d) (nI c) = some (dpV sl en wt d m c).1 := by
  unfold f_X2_chanceOf
  rw [p_at]
  simp only [Option.bind_some, inb_t (show d * 1573 + m * 13 + c < 20449 by omega) (show 20449 < 2 ^ 31 by omega), nI_clamp (show d * 1573 + m * 13 + c < 2 ^ 31 by omega), if_true]
  rw [(h.2.2 d hd).ch hm hc]
theorem tab_bu {sl : Nat → Nat} {en : Nat} {wt : Nat → Int64} {C B : Nat → Int64} {D M K d m c : Nat} (h : tabI sl en wt C B D M K) (hd : d ≤ D) (hD : D ≤ 12) (hm : m ≤ M) (hM : M ≤ 120) (hc : c ≤ K) (hK : K ≤ 12) : f_X2_burntOf B (nI m) (nI d) (nI c) = some (dpV sl en wt d m c).2 := by
  unfold f_X2_burntOf
  rw [p_at]
  simp only [Option.bind_some, inb_t (show d * 1573 + m * 13 + c < 20449 by omega) (show 20449 < 2 ^ 31 by omega), nI_clamp (show d * 1573 + m * 13 + c < 2 ^ 31 by omega), if_true]
  rw [(h.2.2 d hd).bu hm hc]
theorem sx_luck (th : Int32) {s wts : Nat → Int32} {C B : Nat → Int64} {en dr mr cr : Int32} (h : PI s wts C B en dr mr cr) (w kf : Nat → Int32) (k : Nat) (hk : k ≤ 40) (C9 B9 : Nat → Int64) (wz : Nat → Int32) (wo : Int32) (wc wb : Int64) (a b c y o : Int32) :
    ∃ X Y, f_X8_luck s wts C B en dr mr cr w kf (nI k) a b c y o = some X ∧ f_X9_luck th (nI k) w kf s en C9 B9 wz wo wc wb a b c y o = some Y ∧ X.1 = Y.1 ∧ PI s X.2.1 X.2.2.1 X.2.2.2.1 en X.2.2.2.2.1 X.2.2.2.2.2.1 X.2.2.2.2.2.2 := by
  unfold f_X8_luck f_X9_luck
  simp only [p_passage, p_voyage, p_iw, p_in32, Option.bind_some, if01b, if01, t32_0, t32_12, t32_1, t64_0, t64_1]
  rcases Bool.eq_false_or_eq_true (wi a 0 120) with h1 | h1
  · rcases Bool.eq_false_or_eq_true (wi c 0 12) with h2 | h2
    · rcases Bool.eq_false_or_eq_true (wi y 0 1000) with h3 | h3
      · rcases Bool.eq_false_or_eq_true (wi b 0 12) with h4 | h4
        · rcases Bool.eq_false_or_eq_true (wi o 0 1) with h5 | h5
          · simp only [h1, h2, h3, h4, h5, Bool.and_self, not_true_eq_false, reduceCtorEq, if_false]
            obtain ⟨m, hm, rfl⟩ := wi_nat (b := 120) h1 (by omega)
            obtain ⟨cc, hc, rfl⟩ := wi_nat (b := 12) h2 (by omega)
            obtain ⟨d, hd, rfl⟩ := wi_nat (b := 12) h4 (by omega)
            obtain ⟨wts', dr', q1, q2, q3⟩ := p_know h w kf y k hk
            rw [q1]
            simp only [Option.bind_some]
            obtain ⟨sl, e, D, M, K, a1, a2, a3, a4, a5, a6, a7, a8, a9, a10⟩ := q2
            subst a2 a4 a5 a6
            obtain ⟨C1, B1, D1, M1, K1, r1, r2, r3, r4, r5, r6, r7, r8⟩ := p_reckon a10 a1 (fun _ _ => rfl) a7 a8 a9 a3 m d cc hm hd hc
            obtain ⟨C2, B2, wz2, wo2, wc2, wb2, f1, f2⟩ := p_find (w := w) (kf := kf) a1 a3 hk y hd hc hm C9 B9 wz wo wc wb
            rw [r1, f1]
            simp only [Option.bind_some]
            have hv := dpV_cong (sl := sl) (en := e) (fun _ _ => rfl) (wt := fun v => (wts' v).toInt64) (wt' := wtL w kf y k) (fun v hv => by unfold wtL; rw [q3 v hv]) d m cc
            have g1 := f2 d cc m hd (Nat.le_refl _) (Nat.le_refl _) (by omega)
            rw [p_at9 hd hc hm, tab_ch r8 r7 r2 r5 r3 r6 r4, tab_bu r8 r7 r2 r5 r3 r6 r4]
            simp only [Option.bind_some, inb_t (show (13 * d + cc) * 121 + m < 20449 by omega) (show 20449 < 2 ^ 31 by omega), nI_clamp (show (13 * d + cc) * 121 + m < 2 ^ 31 by omega), if_true]
            by_cases ho : o = 0
            · rw [if_pos ho, if_pos ho]
              refine ⟨_, _, rfl, rfl, ?_, sl, e, D1, M1, K1, a1, rfl, a3, rfl, rfl, rfl, r2, r3, r4, r8⟩
              show (dpV _ _ _ d m cc).1 = C2 _
              rw [hv, ← g1]
            · rw [if_neg ho, if_neg ho]
              refine ⟨_, _, rfl, rfl, ?_, sl, e, D1, M1, K1, a1, rfl, a3, rfl, rfl, rfl, r2, r3, r4, r8⟩
              show (dpV _ _ _ d m cc).2 = B2 _
              rw [hv, ← g1]
          · simp only [h1, h2, h3, h4, h5, Bool.and_self, Bool.and_true, Bool.and_false, not_true_eq_false, not_false_eq_true, reduceCtorEq, if_false, if_true]
            exact ⟨_, _, rfl, rfl, rfl, h⟩
        · simp only [h1, h2, h3, h4, Bool.and_self, Bool.and_true, Bool.and_false, Bool.false_and, Bool.true_and, not_true_eq_false, not_false_eq_true, reduceCtorEq, if_false, if_true]
          exact ⟨_, _, rfl, rfl, rfl, h⟩
      · simp only [h1, h2, h3, Bool.and_self, Bool.and_true, Bool.and_false, Bool.false_and, Bool.true_and, not_true_eq_false, not_false_eq_true, reduceCtorEq, if_false, if_true]
        exact ⟨_, _, rfl, rfl, rfl, h⟩
    · simp only [h1, h2, Bool.and_self, Bool.and_true, Bool.and_false, Bool.false_and, Bool.true_and, not_true_eq_false, not_false_eq_true, reduceCtorEq, if_false, if_true]
      exact ⟨_, _, rfl, rfl, rfl, h⟩
  · simp only [h1, Bool.and_self, Bool.and_true, Bool.and_false, Bool.false_and, Bool.true_and, not_true_eq_false, not_false_eq_true, reduceCtorEq, if_false, if_true]
    exact ⟨_, _, rfl, rfl, rfl, h⟩
