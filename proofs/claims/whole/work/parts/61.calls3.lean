/-! ===== restore, undo, the direct calls, texts ===== -/
section
variable {B : Nat} {v w : tmM} {bs : List Int32}
theorem mt_restore (h : mG B v bs w) (x1 : Int32) : mAu B v bs w none (some 1) (some 2) (f_X7_restore x1 v) (f_X8_restore x1 w) := by
  have h0 := mG_0 h
  unfold f_X7_restore f_X8_restore f_X8_restore_28
  rcases mk_side x1 with e | ⟨s, hs, rfl, e⟩
  · refine mEu h (i := 1) (c := 1) ?_ (fun _ => rfl) ?_
    · rw [ms_cl (e v w).2.1, mx_a0]
    · rw [ms_cl (e v w).2.2.2, if_pos rfl, tS_lt, if_neg mz_le1]
  · obtain ⟨m, m1, m2, m3⟩ := h.2.2.1
    obtain ⟨p1, p2⟩ := m3 s hs
    rw [← m2] at p1 p2
    rcases mh_01 (v 247 5) (nI s) with q | q
    · refine mEu h (i := 2) (c := 2) ?_ (fun _ => rfl) ?_
      · rw [ms_cl (e v w).2.1, mx_a1, ms_cl (mh_7 _ _ _), q, mx_s0]
      · rw [ms_cl (e v w).2.2.2, if_neg mr_10, ms_gi hs (by decide), nI_clamp (by omega), if_pos (p1.trans q), tS_lt, if_neg mz_le2]
    · obtain ⟨v1, b1, b2, b3⟩ := mc_become (k1 := 0) (k2 := 209 + 19 * s) (by omega) v
      have c1 := mc_copies (k1 := 3) (l1 := 982) (k2 := 1) (l2 := 491) (a := 491 * s) (b := 0) (n := 491) (by omega) (by omega) (by decide) (by decide) (by decide) (by omega) (tm_up w 0 0 0)
      generalize hw1 : mCp (tm_up w 0 0 0) 3 1 (491 * s) 0 491 = w1 at c1
      obtain ⟨g1, g2, g3, g4, g5, g6, g7⟩ := h0
      have ew : ∀ c, c ≠ 1 → w1 c = tm_up w 0 0 0 c := fun c hc => by rw [← hw1, mCp_ne hc]
      have ew2 : ∀ c, c ≠ 1 → c ≠ 0 → tm_up w1 0 3 0 c = tm_up w 0 0 0 c := fun c hc h4 => by rw [tu_ne _ _ _ h4, ew c hc]
      have e0 : ∀ j, j ≠ 3 → tm_up w1 0 3 0 0 j = tm_up w 0 0 0 0 j := fun j hj => by rw [mu_ne (by omega), ew 0 (by decide)]
      have ev : ∀ c, 19 ≤ c → c ≠ 247 → tm_up v1 247 3 0 c = v c := fun c hc h4 => by rw [tu_ne _ _ _ h4, b3 c (by omega)]
      have ev2 : ∀ j, j ≠ 3 → tm_up v1 247 3 0 247 j = v 247 j := fun j hj => by rw [mu_ne (by omega), b3 247 (by omega)]
      refine Or.inr ⟨0, tm_up v1 247 3 0, tm_up w1 0 3 0, ?_, ?_, ?_, ?_, ?_, ?_, ?_, ?_, ?_, ?_⟩
      · rw [ms_cl (e v w).2.1, mx_a1, ms_cl (mh_7 _ _ _), q, mx_s1, ms_gi hs (by decide), tS_lt, mz_slot hs, ms_cl b1, tS_lt]
      · have q4 : ¬ w 4 s = 0 := by rw [p1, q]; decide
        rw [ms_cl (e v w).2.2.2, if_neg mr_10, ms_gi hs (by decide), nI_clamp (by omega), if_neg q4, tS_lt, if_pos mz_le0, show (491 : Int32) * nI s = nI (491 * s) from pk_mul 491 s, ms_cl (show f_X8_copies 3 982 1 491 (nI (491 * s)) 0 491 (tm_up w 0 0 0) = _ from c1), tS_lt]
      · rw [e0 0 (by decide), mu_eq]
      · refine rP_ext (fun c j hc => ?_) (fun j hj => ?_) (p2 q)
        · have hc19 : c < 19 := by unfold mU at hc; omega
          have := b2 c j hc
          rw [Nat.zero_add] at this
          rw [tu_ne _ _ _ (by omega)]
          exact this
        · show tm_up w1 0 3 0 1 j = w 3 (491 * s + j)
          rw [tu_ne _ _ _ (by decide), ← hw1, mCp_at, if_pos (by omega), Nat.sub_zero, tu_ne _ _ _ (by decide)]
      · obtain ⟨o, n, a1, a2, a3, a4, a5, a6⟩ := g2
        exact ⟨o, 0, a1, by decide, (ev2 2 (by decide)).trans a3, mu_eq _ _ _ _, mu_eq _ _ _ _, fun i hi => absurd hi (by omega)⟩
      · exact gS_ext (Nat.le_refl B) (fun c x y => ev c (by omega) (by omega)) (ev2 5 (by decide)) (ew2 4 (by decide) (by decide)) (ew2 3 (by decide) (by decide)) g3
      · exact gA_ext (ev 250 (by decide) (by decide)) (ew2 5 (by decide) (by decide)) g4
      · exact gT_ext (ev 251 (by decide) (by decide)) (ev 252 (by decide) (by decide)) (ew2 8 (by decide) (by decide)) (e0 16 (by decide)) (e0 21 (by decide)) (e0 22 (by decide)) g5
      · exact gO_ext (e0 13 (by decide)) (ew2 6 (by decide) (by decide)) g6
      · exact gC_ext (ew2 7 (by decide) (by decide)) (ew2 9 (by decide) (by decide)) g7
theorem mt_undo (h : mG B v bs w) : ∃ (r : Int32) (v' w' : tmM), f_X7_undo v = some (r, v') ∧ f_X8_undo w = some (r, w') ∧ mG B v' bs w' := by
  have h0 := mG_0 h
  have hall := h0
  obtain ⟨g1, ⟨o, n, a1, a2, a3, a4, a5, a6⟩, g3, g4, g5, g6, g7⟩ := h0
  unfold f_X7_undo f_X8_undo
  simp only [tS_lt]
  rw [a4, a5]
  by_cases z : n = 0
  · subst z
    rw [if_pos (show nI 0 = 0 from rfl), if_pos (show nI 0 = 0 from rfl)]
    exact ⟨-1, v, _, rfl, rfl, hall⟩
  · obtain ⟨p, rfl⟩ : ∃ p, n = p + 1 := ⟨n - 1, by omega⟩
    have hz : ¬ nI (p + 1) = 0 := nI_ne0 (by omega) (by omega)
    rw [if_neg hz, if_neg hz, nI_pred]
    generalize hv1 : tm_up v 247 3 (nI p) = v1
    generalize hw1 : tm_up (tm_up w 0 0 0) 0 3 (nI p) = w1
    have x2 : v1 247 2 = nI o := by rw [← hv1, mu_ne (by omega)]; exact a3
    have x3 : v1 247 3 = nI p := by rw [← hv1, mu_eq]
    have y3 : w1 0 3 = nI p := by rw [← hw1, mu_eq]
    have hr : nI (o + p) - nI (o + p) / 10 * 10 = nI ((o + p) % 10) := pk_rem (d := 10) (by omega) (by decide) (by decide)
    obtain ⟨v2, b1, b2, b3⟩ := mc_become (k1 := 0) (k2 := 19 * ((o + p) % 10 + 1)) (by omega) v1
    have c1 := mc_copies (k1 := 2) (l1 := 4910) (k2 := 1) (l2 := 491) (a := 491 * p) (b := 0) (n := 491) (by omega) (by omega) (by decide) (by decide) (by decide) (by omega) w1
    generalize hw2 : mCp w1 2 1 (491 * p) 0 491 = w2 at c1
    have ew : ∀ c, c ≠ 1 → c ≠ 0 → w2 c = tm_up w 0 0 0 c := fun c hc h4 => by rw [← hw2, mCp_ne hc, ← hw1, tu_ne _ _ _ h4]
    have e03 : w2 0 3 = nI p := by rw [← hw2, mCp_ne (by decide)]; exact y3
    have e0 : ∀ j, j ≠ 3 → w2 0 j = tm_up w 0 0 0 0 j := fun j hj => by rw [← hw2, mCp_ne (by decide), ← hw1, mu_ne (by omega)]
    have ev : ∀ c, 19 ≤ c → c ≠ 247 → v2 c = v c := fun c hc h4 => by rw [b3 c (by omega), ← hv1, tu_ne _ _ _ h4]
    have ev2 : ∀ j, j ≠ 3 → v2 247 j = v 247 j := fun j hj => by rw [b3 247 (by omega), ← hv1, mu_ne (by omega)]
    have ev3 : v2 247 3 = nI p := by rw [b3 247 (by omega)]; exact x3
    refine ⟨nI p, v2, w2, ?_, ?_, ?_, ?_, ?_, ?_, ?_, ?_, ?_⟩
    · rw [x2, x3, ms_gd (by decide), nI_add, hr, ms_gi (show (o + p) % 10 < 10 by omega) (by decide), nI_clamp (by omega), mz_ring (by omega), ms_cl b1, ev3]
    · rw [y3, show (491 : Int32) * nI p = nI (491 * p) from pk_mul 491 p, ms_cl (show f_X8_copies 2 4910 1 491 (nI (491 * p)) 0 491 w1 = _ from c1), e03]
    · refine rP_ext (fun c j hc => ?_) (fun j hj => ?_) (a6 p (by omega))
      · have hc19 : c < 19 := by unfold mU at hc; omega
        have := b2 c j hc
        rw [Nat.zero_add, ← hv1, mu_ne (by omega)] at this
        exact this
      · show w2 1 j = tm_up w 0 0 0 2 (491 * p + j)
        rw [← hw2, mCp_at, if_pos (by omega), Nat.sub_zero, ← hw1, tu_ne _ _ _ (by decide)]
    · refine ⟨o, p, a1, by omega, (ev2 2 (by decide)).trans a3, ev3, e03, fun i hi => ?_⟩
      refine rP_ext (fun c j hc => ?_) (fun j hj => ?_) (a6 i (by omega))
      · have hc19 : c < 19 := by unfold mU at hc; omega
        show v2 (19 * ((o + i) % 10 + 1) + c) j = v (19 * ((o + i) % 10 + 1) + c) j
        rw [ev _ (by omega) (by omega)]
      · show w2 2 _ = tm_up w 0 0 0 2 _
        rw [ew 2 (by decide) (by decide)]
    · exact gS_ext (Nat.le_refl B) (fun c x y => ev c (by omega) (by omega)) (ev2 5 (by decide)) (ew 4 (by decide) (by decide)) (ew 3 (by decide) (by decide)) g3
    · exact gA_ext (ev 250 (by decide) (by decide)) (ew 5 (by decide) (by decide)) g4
    · exact gT_ext (ev 251 (by decide) (by decide)) (ev 252 (by decide) (by decide)) (ew 8 (by decide) (by decide)) (e0 16 (by decide)) (e0 21 (by decide)) (e0 22 (by decide)) g5
    · exact gO_ext (e0 13 (by decide)) (ew 6 (by decide) (by decide)) g6
    · exact gC_ext (ew 7 (by decide) (by decide)) (ew 9 (by decide) (by decide)) g7
/-- a direct call -/
def mDi (B' : Nat) (bs : List Int32) (o o' : Option (Int32 × tmM)) : Prop := ∃ (r : Int32) (v' w' : tmM), o = some (r, v') ∧ o' = some (r, w') ∧ mG B' v' bs w'
theorem mDi_R {B' : Nat} {w0 : tmM} {o o' p p' : Option (Int32 × tmM)} (h : mR B' v bs w0 o o') (e1 : p = tm_cl o (fun r v => some (r, v))) (e2 : p' = o') : mDi B' bs p p' := by
  obtain ⟨k, v', w', _, a2, a3, a4, _⟩ := h
  exact ⟨nI k, v', w', by rw [e1, a2]; rfl, by rw [e2, a3], a4⟩
theorem mt_begin (h : mG B v bs w) : mDi B bs (f_X7_begin v) (f_X8_begin w) := mDi_R (mg_begin h) rfl rfl
theorem mt_lead (h : mG B v bs w) : mDi B bs (f_X7_lead v) (f_X8_lead w) := mDi_R (mg_lead h) rfl rfl
theorem mt_stop (h : mG B v bs w) : mDi B bs (f_X7_stop v) (f_X8_stop w) := mDi_R (mg_stop h) rfl rfl
theorem mt_finish (h : mG B v bs w) : mDi B bs (f_X7_finish v) (f_X8_finish w) := mDi_R (mg_finish h) rfl rfl
theorem mt_goBack (h : mG B v bs w) (x1 : Int32) (hx : x1 = 0 ∨ x1 = 1) : mDi B bs (f_X7_goBack x1 v) (f_X8_goBack x1 w) := by
  have h0 := mG_0 h
  unfold f_X7_goBack f_X8_goBack f_X7_goBack_12
  rcases hx with rfl | rfl
  · exact mDi_R (mg_forget h0) (if_pos rfl) (by rw [tS_lt, mz_idI])
  · exact mDi_R (mg_keepBack h0) (if_neg mr_10) (by rw [tS_lt, mz_idI])
theorem mt_errorCode (h : mG B v bs w) : mDi B bs (f_X7_errorCode v) (f_X8_errorCode w) := by
  have h0 := mG_0 h
  exact ⟨_, v, tm_up w 0 0 0, rfl, by show some _ = some _; rw [h0.2.2.2.2.1.2.1], h0⟩
theorem mt_errorPosition (h : mG B v bs w) : mDi B bs (f_X7_errorPosition v) (f_X8_errorPosition w) := by
  have h0 := mG_0 h
  exact ⟨_, v, tm_up w 0 0 0, rfl, by show some _ = some _; rw [h0.2.2.2.2.1.2.2], h0⟩
theorem mt_truncateText (h : mG B v bs w) (x1 : Int32) : mAn B v bs w none (some 1) none (f_X7_truncateText x1 v) (f_X8_truncateText x1 w) := by
  have h0 := mG_0 h
  obtain ⟨⟨t, t1, t2, t3, t4⟩, t5, t6⟩ := h.2.2.2.2.1
  unfold f_X7_truncateText f_X8_truncateText f_X7_truncateText_19 f_X7_truncateText_20 f_X8_truncateText_18 f_X8_in
  rw [t2, t3]
  by_cases c1 : x1 < 0
  · refine mE h (i := 1) (c := 1) ?_ (fun _ => rfl) (by decide) ?_
    · rw [if_pos c1, mx_a0]
    · rw [if_pos c1, tS_cl, if_pos rfl, tS_lt, if_neg mz_le1]
  · by_cases c2 : nI t < x1
    · refine mE h (i := 1) (c := 1) ?_ (fun _ => rfl) (by decide) ?_
      · rw [if_neg c1, if_pos c2, mx_a0]
      · rw [if_neg c1, if_pos c2, tS_cl, if_pos rfl, tS_lt, if_neg mz_le1]
    · obtain ⟨k, hk, rfl⟩ := nI_of c1
      have hkt : k ≤ t := by
        by_cases q : k ≤ t
        · exact q
        · exact absurd (nI_lt (by omega) hk) c2
      refine Or.inr ⟨nI k, tm_up v 251 1 (nI k), tm_up (tm_up w 0 0 0) 0 16 (nI k), ?_, ?_, ?_, ?_⟩
      · rw [if_neg c1, if_neg c2, mx_a1, tS_lt]
      · rw [if_neg c1, if_neg c2, tS_cl, if_neg mr_10, tS_lt, if_pos mz_le0, tS_lt, mu_eq]
      · rw [mu_ne (by omega), mu_eq]
      · obtain ⟨g1, g2, g3, g4, g5, g6, g7⟩ := h0
        have ew : ∀ c, c ≠ 0 → tm_up (tm_up w 0 0 0) 0 16 (nI k) c = tm_up w 0 0 0 c := fun c hc => tu_ne _ _ _ hc
        have e0 : ∀ j, j ≠ 16 → tm_up (tm_up w 0 0 0) 0 16 (nI k) 0 j = tm_up w 0 0 0 0 j := fun j hj => mu_ne (by omega)
        have ev : ∀ c, c ≠ 251 → tm_up v 251 1 (nI k) c = v c := fun c hc => tu_ne _ _ _ hc
        refine ⟨?_, gH_ext (Nat.le_refl B) (fun c _ _ => ev c (by omega)) (by rw [ev 247 (by decide)]) (by rw [ev 247 (by decide)]) (e0 3 (by decide)) (ew 2 (by decide)) g2, gS_ext (Nat.le_refl B) (fun c _ _ => ev c (by omega)) (by rw [ev 247 (by decide)]) (ew 4 (by decide)) (ew 3 (by decide)) g3, gA_ext (ev 250 (by decide)) (ew 5 (by decide)) g4, ⟨⟨k, by omega, mu_eq _ _ _ _, mu_eq _ _ _ _, fun i hi => ?_⟩, ?_, ?_⟩, gO_ext (e0 13 (by decide)) (ew 6 (by decide)) g6, gC_ext (ew 7 (by decide)) (ew 9 (by decide)) g7⟩
        · rw [ew 1 (by decide)]
          exact rP_ext (fun c j hc => by rw [ev c (by unfold mU at hc; omega)]) (fun _ _ => rfl) g1
        · rw [ev 252 (by decide), ew 8 (by decide), tu_ne _ _ _ (by decide)]; exact t4 i (by omega)
        · rw [mu_ne (by omega), e0 21 (by decide), mu_ne (by omega)]; exact t5
        · rw [mu_ne (by omega), e0 22 (by decide), mu_ne (by omega)]; exact t6
/-- one sign is appended -/
theorem mG_sign (h : mG B v bs w) {t : Nat} (ht : t < 600) (hv : v 251 1 = nI t) {x y : Int32} (hx : x = y &&& 255) (hy : mByt y) : mG B (tm_up (tm_up v 252 t x) 251 1 (nI (t + 1))) bs (tm_up (tm_up w 8 t y) 0 16 (nI (t + 1))) := by
  obtain ⟨g1, g2, g3, g4, ⟨⟨t', t1, t2, t3, t4⟩, t5, t6⟩, g6, g7⟩ := h
  have htt : t' = t := (nI_eq (by omega) (by omega)).mp (t2.symm.trans hv)
  subst htt
  have ew : ∀ c, c ≠ 0 → c ≠ 8 → tm_up (tm_up w 8 t' y) 0 16 (nI (t' + 1)) c = w c := fun c hc h8 => by rw [tu_ne _ _ _ hc, tu_ne _ _ _ h8]
  have e0 : ∀ j, j ≠ 16 → tm_up (tm_up w 8 t' y) 0 16 (nI (t' + 1)) 0 j = w 0 j := fun j hj => by rw [mu_ne (by omega), mu_ne (by omega)]
  have ev : ∀ c, c ≠ 251 → c ≠ 252 → tm_up (tm_up v 252 t' x) 251 1 (nI (t' + 1)) c = v c := fun c hc h2 => by rw [tu_ne _ _ _ hc, tu_ne _ _ _ h2]
  refine ⟨?_, gH_ext (Nat.le_refl B) (fun c _ _ => ev c (by omega) (by omega)) (by rw [ev 247 (by decide) (by decide)]) (by rw [ev 247 (by decide) (by decide)]) (e0 3 (by decide)) (ew 2 (by decide) (by decide)) g2, gS_ext (Nat.le_refl B) (fun c _ _ => ev c (by omega) (by omega)) (by rw [ev 247 (by decide) (by decide)]) (ew 4 (by decide) (by decide)) (ew 3 (by decide) (by decide)) g3, gA_ext (ev 250 (by decide) (by decide)) (ew 5 (by decide) (by decide)) g4, ⟨⟨t' + 1, by omega, mu_eq _ _ _ _, mu_eq _ _ _ _, fun i hi => ?_⟩, ?_, ?_⟩, gO_ext (e0 13 (by decide)) (ew 6 (by decide) (by decide)) g6, gC_ext (ew 7 (by decide) (by decide)) (ew 9 (by decide) (by decide)) g7⟩
  · rw [ew 1 (by decide) (by decide)]
    exact rP_ext (fun c j hc => by rw [ev c (by unfold mU at hc; omega) (by unfold mU at hc; omega)]) (fun _ _ => rfl) g1
  · rw [mu_ne (by omega), mu_ne (c := 8) (by omega), mu_if, mu_if]
    by_cases q : i = t'
    · rw [if_pos ⟨rfl, q⟩, if_pos ⟨rfl, q⟩]; exact ⟨hx, hy⟩
    · rw [if_neg (by omega), if_neg (by omega)]; exact t4 i (by omega)
  · rw [mu_ne (by omega), mu_ne (by omega), e0 21 (by decide)]; exact t5
  · rw [mu_ne (by omega), mu_ne (by omega), e0 22 (by decide)]; exact t6
end
