/-! ===== calls that read, with loops ===== -/
theorem mr_g10 {β : Type} (x : Option β) : tm_g (tm_ix 10 491) x = x := ms_g (by decide)
theorem mr_n10 : (10 : Int32).toNatClampNeg = 10 := rfl
theorem mk_inP (x : Int32) (n : Nat) (hn : n < 2147483647) (w : tmM) : (x < 0 → f_X8_in x 0 (nI n - 1) w = some (0, w)) ∧ (nI n ≤ x → f_X8_in x 0 (nI n - 1) w = some (0, w)) ∧ ∀ k, k < n → x = nI k → f_X8_in x 0 (nI n - 1) w = some (1, w) := by
  by_cases h : n = 0
  · subst h
    refine ⟨fun q => if_pos q, fun q => ?_, fun k hk => absurd hk (by omega)⟩
    unfold f_X8_in
    by_cases z : x < 0
    · exact if_pos z
    · obtain ⟨j, hj, rfl⟩ := nI_of z
      rw [if_neg z, if_pos]
      rw [Int32.lt_iff_toInt_lt, nI_toInt hj]
      have : (nI 0 - 1).toInt = -1 := rfl
      omega
  · obtain ⟨m, rfl⟩ : ∃ m, n = m + 1 := ⟨n - 1, by omega⟩
    rw [nI_pred]
    have := mk_in0 x m (by omega) w
    exact ⟨this.1, this.2.1, fun k hk e => this.2.2 k (by omega) e⟩
section
variable {B : Nat} {v w : tmM} {bs : List Int32}
theorem mt_event (h : mG B v bs w) (x1 x2 : Int32) : mAn B v bs w (some 1) (some 2) none (f_X7_event x1 x2 v) (f_X8_event x1 x2 w) := by
  have h0 := mG_0 h
  obtain ⟨n, e1, e2, e3, e4⟩ := h.1.2.2.2.2.1
  unfold f_X7_event f_X8_event f_X7_event_22 f_X7_event_23 f_X7_event_35 f_X7_event_40 f_X8_event_36
  rw [mr_g10, mr_n10, e3, e2]
  have hin := mk_inP x1 n (by omega) w
  rcases pk_ix x1 (n := n) (by omega) with q | q | ⟨k, hk, rfl⟩
  · refine mE h (i := 0) (c := 1) ?_ (fun _ => rfl) (by decide) ?_
    · rw [if_pos q, mx_i0]
    · rw [ms_cl (hin.1 q), if_pos rfl, tS_lt, if_neg mz_le1]
  · refine mE h (i := 0) (c := 1) ?_ (fun _ => rfl) (by decide) ?_
    · by_cases z : x1 < 0
      · rw [if_pos z, mx_i0]
      · rw [if_neg z, if_pos q, mx_i0]
    · rw [ms_cl (hin.2.1 q), if_pos rfl, tS_lt, if_neg mz_le1]
  · have z1 : ¬ nI k < 0 := nI_pos (by omega)
    have z2 : ¬ nI n ≤ nI k := nI_ge hk (by omega)
    have e5 := e4 k hk
    rcases mk_side x2 with f | ⟨s, hs, rfl, f⟩
    · refine mE h (i := 1) (c := 2) ?_ (fun _ => rfl) (by decide) ?_
      · have hne : ¬ x2 = 0 ∧ ¬ x2 = 1 := by
          constructor
          · intro q
            have := (f v w).1
            rw [q] at this
            exact absurd this (by unfold f_X7_isSide f_X7_isSide_9; simp)
          · intro q
            have := (f v w).1
            rw [q] at this
            exact absurd this (by unfold f_X7_isSide f_X7_isSide_9; simp)
        rw [if_neg z1, if_neg z2, mx_i1, if_neg hne.1, if_neg hne.2, mx_a0]
      · rw [ms_cl (hin.2.2 k hk rfl), if_neg mr_10, ms_cl (f v w).2.2.2, if_pos rfl, tS_lt, if_neg mz_le2]
    · have ep : (371 : Int32) + 2 * nI k + nI s = nI (371 + 2 * k + s) := by
        rw [show (2 : Int32) * nI k = nI (2 * k) from pk_mul 2 k, show (371 : Int32) + nI (2 * k) = nI (371 + 2 * k) from nI_add 371 _, nI_add]
      rcases (show s = 0 ∨ s = 1 by omega) with rfl | rfl
      · refine mO h (r := v 11 k) ?_ ?_
        · rw [if_neg z1, if_neg z2, mx_i1, if_pos (show nI 0 = 0 from rfl), mx_a1, if_pos (show nI 0 = 0 from rfl), ms_gi (show k < 30 by omega) (by decide), nI_clamp (by omega)]
        · rw [ms_cl (hin.2.2 k hk rfl), if_neg mr_10, ms_cl (f v w).2.2.2, if_neg mr_10, tS_lt, if_pos mz_le0, ep, ms_gi (by omega) (by decide), nI_clamp (by omega), e5.1]
          rfl
      · refine mO h (r := v 12 k) ?_ ?_
        · rw [if_neg z1, if_neg z2, mx_i1, if_neg (show ¬ nI 1 = 0 by decide), if_pos (show nI 1 = 1 from rfl), mx_a1, if_neg (show ¬ nI 1 = 0 by decide), ms_gi (show k < 30 by omega) (by decide), nI_clamp (by omega)]
        · rw [ms_cl (hin.2.2 k hk rfl), if_neg mr_10, ms_cl (f v w).2.2.2, if_neg mr_10, tS_lt, if_pos mz_le0, ep, ms_gi (by omega) (by decide), nI_clamp (by omega), e5.2]
          rfl
theorem mt_since (hB : B < 1000000) (h : mG B v bs w) (x1 x2 : Int32) : mAn B v bs w (some 1) (some 2) none (f_X7_since x1 x2 v) (f_X8_since x1 x2 w) := by
  have h0 := mG_0 h
  have hp := (mr_phase h0.1).1
  unfold f_X7_since f_X8_since f_X7_since_9 f_X7_since_25 f_X7_since_26 f_X8_since_23 f_X8_since_60 f_X8_since_61 f_X6_kept
  by_cases c0 : x1 < 0
  · have c1 : ¬ 0 ≤ x1 := fun q => by
      obtain ⟨a, ha⟩ : ∃ a, a = x1.toInt := ⟨_, rfl⟩
      rw [Int32.lt_iff_toInt_lt] at c0
      rw [Int32.le_iff_toInt_le] at q
      omega
    refine mE h (i := 0) (c := 1) ?_ (fun _ => rfl) (by decide) ?_
    · rw [if_pos c0, mx_i0]
    · rw [if_neg c1, tS_lt, if_neg mz_le1]
  · obtain ⟨k, hk, rfl⟩ := nI_of c0
    have c1 : (0 : Int32) ≤ nI k := nI_le (a := 0) (by omega) hk
    have hin := mk_inL x2 2 2 rfl (by decide) w
    rcases pk_ix x2 (n := 3) (by decide) with q | q | ⟨t, ht, rfl⟩
    · refine mE h (i := 1) (c := 2) ?_ (fun _ => rfl) (by decide) ?_
      · rw [if_neg c0, mx_i1, if_pos q, mx_a0]
      · rw [if_pos c1, ms_cl (hin.1 q), if_pos rfl, tS_lt, if_neg mz_le2]
    · refine mE h (i := 1) (c := 2) ?_ (fun _ => rfl) (by decide) ?_
      · rw [if_neg c0, mx_i1]
        by_cases z : x2 < 0
        · rw [if_pos z, mx_a0]
        · rw [if_neg z, if_pos (show (3 : Int32) ≤ x2 from q), mx_a0]
      · rw [if_pos c1, ms_cl (hin.2.1 q), if_pos rfl, tS_lt, if_neg mz_le2]
    · have f1 : ¬ nI t < 0 := nI_pos (by omega)
      have f2 : ¬ (3 : Int32) ≤ nI t := nI_ge ht (by decide)
      by_cases hq : v 0 0 = 2
      · obtain ⟨a, b1, b2, b3, b4, b5⟩ := h0.1.2.2.2.2.2.1 (hp.symm.trans hq)
        have ek : (if (20 : Int32) < v 13 1 then 20 else v 13 1) = nI (min a 20) := by
          rw [b2]
          by_cases z : (20 : Int32) < nI a
          · have := (nI_ltI (a := 20) (b := a) (by decide) (by omega)).mp z
            rw [if_pos z, show min a 20 = 20 by omega]
            rfl
          · have : ¬ 20 < a := fun y => z (nI_lt (a := 20) y (by omega))
            rw [if_neg z, show min a 20 = a by omega]
        have e3 : ([15, 16, 17] : List Nat).getD (nI t).toNatClampNeg 0 = 15 + t := by
          rcases (show t = 0 ∨ t = 1 ∨ t = 2 by omega) with rfl | rfl | rfl <;> rfl
        by_cases hkm : k < min a 20
        · have eq : (311 : Int32) + 3 * (nI (min a 20) - 1 - nI k) + nI t = nI (311 + 3 * (min a 20 - 1 - k) + t) := by
            obtain ⟨p, hp2⟩ : ∃ p, min a 20 = p + 1 := ⟨min a 20 - 1, by omega⟩
            rw [hp2, nI_pred, pk_sub (by omega), show (3 : Int32) * nI (p - k) = nI (3 * (p - k)) from pk_mul 3 _, show (311 : Int32) + nI (3 * (p - k)) = nI (311 + 3 * (p - k)) from nI_add 311 _, nI_add, Nat.add_sub_cancel]
          have e6 := b5 k hkm
          refine mO h (r := v (15 + t) k) ?_ ?_
          · rw [if_neg c0, mx_i1, if_neg f1, if_neg f2, mx_a1, if_pos hq, tS_cl, ek, if_pos (nI_lt hkm (by omega)), ms_gi ht (by decide), tS_lt, e3, ms_gi (show k < 20 by omega) (by decide), nI_clamp hk]
          · rw [if_pos c1, ms_cl (hin.2.2 t (by omega) rfl), if_neg mr_10, tS_lt, if_pos mz_le0]
            simp only [mr_g0, mr_g9, mr_n0, mr_n9]
            rw [← hp, if_pos hq, b4, if_neg (nI_ge hkm (by omega)), if_neg mr_10, eq, ms_gi (by omega) (by decide), nI_clamp (by omega)]
            rcases (show t = 0 ∨ t = 1 ∨ t = 2 by omega) with rfl | rfl | rfl
            · rw [e6.1]; rfl
            · rw [e6.2.1]
            · rw [e6.2.2]
        · refine mO h (r := -1) ?_ ?_
          · rw [if_neg c0, mx_i1, if_neg f1, if_neg f2, mx_a1, if_pos hq, tS_cl, ek, if_neg (nI_nlt (by omega) hk)]
          · rw [if_pos c1, ms_cl (hin.2.2 t (by omega) rfl), if_neg mr_10, tS_lt, if_pos mz_le0]
            simp only [mr_g0, mr_g9, mr_n0, mr_n9]
            rw [← hp, if_pos hq, b4, if_pos (nI_le (by omega) hk), if_pos trivial]
      · refine mO h (r := -1) ?_ ?_
        · rw [if_neg c0, mx_i1, if_neg f1, if_neg f2, mx_a1, if_neg hq]
        · rw [if_pos c1, ms_cl (hin.2.2 t (by omega) rfl), if_neg mr_10, tS_lt, if_pos mz_le0]
          simp only [mr_g0, mr_n0]
          rw [← hp, if_neg hq, if_pos trivial]
/-! why -/
theorem mw_all (h : rP B v (w 1)) {k : Nat} (hk : k < 11) (x : Int32) : ∃ r, f_X4_reasonAgainst (nI k) x v = some (r, v) ∧ f_X8_why_70 x (nI k) w = some (r, w) := by
  have fin : ∀ {o o' p p' : Option (Int32 × tmM)} {P : Nat → Prop}, mW o o' v w P → p = tm_cl o (fun r v => some (r, v)) → p' = tm_cl o' (fun r v => some (r, v)) → ∃ r, p = some (r, v) ∧ p' = some (r, w) := by
    rintro o o' p p' P ⟨j, _, a1, a2, _⟩ e1 e2
    exact ⟨nI j, by rw [e1, a1]; rfl, by rw [e2, a2]; rfl⟩
  rcases (show k = 0 ∨ k = 1 ∨ k = 2 ∨ k = 3 ∨ k = 4 ∨ k = 5 ∨ k = 6 ∨ k = 7 ∨ k = 8 ∨ k = 9 ∨ k = 10 by omega) with rfl | rfl | rfl | rfl | rfl | rfl | rfl | rfl | rfl | rfl | rfl
  · exact fin (mw_begin h) rfl rfl
  · exact fin (mw_copy h) rfl rfl
  · exact fin (mw_repair h) rfl rfl
  · exact fin (mw_check h x) rfl rfl
  · exact fin (mw_switch h x) rfl rfl
  · exact fin (mw_back h x) rfl rfl
  · exact fin (mw_lead h) rfl rfl
  · exact fin (mw_goBack h 1) rfl rfl
  · exact fin (mw_goBack h 0) rfl rfl
  · exact fin (mw_stop h) rfl rfl
  · exact fin (mw_finish h) rfl rfl
theorem mt_why (h : mG B v bs w) (x1 x2 : Int32) : mAn B v bs w none (some 1) none (f_X7_why x1 x2 v) (f_X8_why x1 x2 w) := by
  have h0 := mG_0 h
  have hin := mk_inL x1 10 10 rfl (by decide) w
  -- what the reference asks first
  have pre : ∃ p : Int32, (p = 0 ∨ p = 1) ∧ f_X8_why x1 x2 w = f_X8_why_34 x1 x2 p w ∧ (¬ x1 < 0 → ¬ 11 ≤ x1 → f_X7_why x1 x2 v = if p = 0 then some ((2, 0), v) else tm_cl (f_X4_reasonAgainst x1 x2 v) fun r7 v6 => some ((0, r7), v6)) := by
    unfold f_X8_why f_X8_why_22 f_X8_why_29 f_X7_why f_X7_why_15 f_X7_why_30 f_X7_why_35 f_X7_why_48 f_X7_why_55 f_X7_why_60
    by_cases a3 : x1 = 3
    · subst a3
      rcases mk_chunk x2 with e | ⟨c, hc, rfl, e⟩
      · refine ⟨0, Or.inl rfl, ?_, fun p q => ?_⟩
        · rw [if_pos rfl, ms_cl (e v w).2]
        · rw [if_neg p, if_neg q, mx_a1, if_pos rfl, ms_cl (e v w).1, if_pos rfl, mx_a0, if_pos rfl]
      · refine ⟨1, Or.inr rfl, ?_, fun p q => ?_⟩
        · rw [if_pos rfl, ms_cl (e v w).2]
        · rw [if_neg p, if_neg q, mx_a1, if_pos rfl, ms_cl (e v w).1, if_neg mr_10, mx_a1, if_neg (by decide), if_neg (by decide), mx_a1, if_neg mr_10]
    · by_cases a4 : x1 = 4
      · subst a4
        rcases mk_reader x2 with e | ⟨c, hc, rfl, e⟩
        · refine ⟨0, Or.inl rfl, ?_, fun p q => ?_⟩
          · rw [if_neg (by decide), if_pos rfl, ms_cl (e v w).2, if_pos rfl]
          · rw [if_neg p, if_neg q, mx_a1, if_neg (by decide), mx_a1, if_pos rfl, ms_cl (e v w).1, if_pos rfl, mx_a0, if_pos rfl]
        · refine ⟨1, Or.inr rfl, ?_, fun p q => ?_⟩
          · rw [if_neg (by decide), if_pos rfl, ms_cl (e v w).2, if_neg mr_10]
          · rw [if_neg p, if_neg q, mx_a1, if_neg (by decide), mx_a1, if_pos rfl, ms_cl (e v w).1, if_neg mr_10, mx_a1, if_neg mr_10]
      · by_cases a5 : x1 = 5
        · subst a5
          rcases mk_reader x2 with e | ⟨c, hc, rfl, e⟩
          · refine ⟨0, Or.inl rfl, ?_, fun p q => ?_⟩
            · rw [if_neg (by decide), if_neg (by decide), if_pos rfl, ms_cl (e v w).2, if_pos rfl]
            · rw [if_neg p, if_neg q, mx_a1, if_neg (by decide), mx_a1, if_neg (by decide), if_pos rfl, ms_cl (e v w).1, if_pos rfl, mx_a0, if_pos rfl]
          · refine ⟨1, Or.inr rfl, ?_, fun p q => ?_⟩
            · rw [if_neg (by decide), if_neg (by decide), if_pos rfl, ms_cl (e v w).2, if_neg mr_10]
            · rw [if_neg p, if_neg q, mx_a1, if_neg (by decide), mx_a1, if_neg (by decide), if_pos rfl, ms_cl (e v w).1, if_neg mr_10, mx_a1, if_neg mr_10]
        · refine ⟨1, Or.inr rfl, ?_, fun p q => ?_⟩
          · rw [if_neg a3, if_neg a4, if_neg a5]
          · rw [if_neg p, if_neg q, mx_a1, if_neg a3, mx_a1, if_neg a4, if_neg a5, mx_a1, if_neg mr_10]
  obtain ⟨p, hp, e8, e7⟩ := pre
  rcases pk_ix x1 (n := 11) (by decide) with q | q | ⟨k, hk, rfl⟩
  · refine mE h (i := 1) (c := 1) ?_ (fun _ => rfl) (by decide) ?_
    · unfold f_X7_why f_X7_why_14 f_X7_why_15
      rw [if_pos q, mx_a0]
    · rw [e8]
      unfold f_X8_why_34 f_X8_why_54 f_X8_why_55 f_X8_why_70
      rw [ms_cl (hin.1 q), if_pos rfl, tS_lt, if_neg mz_le1, if_pos rfl]
  · refine mE h (i := 1) (c := 1) ?_ (fun _ => rfl) (by decide) ?_
    · unfold f_X7_why f_X7_why_14 f_X7_why_15
      by_cases z : x1 < 0
      · rw [if_pos z, mx_a0]
      · rw [if_neg z, if_pos (show (11 : Int32) ≤ x1 from q), mx_a0]
    · rw [e8]
      unfold f_X8_why_34 f_X8_why_54 f_X8_why_55 f_X8_why_70
      rw [ms_cl (hin.2.1 q), if_pos rfl, tS_lt, if_neg mz_le1, if_pos rfl]
  · have e7 := e7 (nI_pos (by omega)) (show ¬ (11 : Int32) ≤ nI k from nI_ge hk (by decide))
    rcases hp with rfl | rfl
    · refine mE h (i := 1) (c := 1) ?_ (fun _ => rfl) (by decide) ?_
      · rw [e7, if_pos rfl]
      · rw [e8]
        unfold f_X8_why_34 f_X8_why_54 f_X8_why_55
        rw [ms_cl (hin.2.2 k (by omega) rfl), if_neg mr_10, if_pos rfl, tS_lt, if_neg mz_le1]
        unfold f_X8_why_70
        rw [if_pos rfl]
    · obtain ⟨r, r7, r8⟩ := mw_all h0.1 hk x2
      refine mO h (r := r) ?_ ?_
      · rw [e7, if_neg mr_10, ms_cl r7]
      · rw [e8]
        unfold f_X8_why_34 f_X8_why_54 f_X8_why_55
        rw [ms_cl (hin.2.2 k (by omega) rfl), if_neg mr_10, if_neg mr_10, tS_lt, if_pos mz_le0, r8]
theorem mt_next (h : mG B v bs w) (x1 : Int32) : mAn B v bs w none (some 1) none (f_X7_next x1 v) (f_X8_next x1 w) := by
  have h0 := mG_0 h
  obtain ⟨r, a1, a2, a3⟩ := mn_act h0.1
  obtain ⟨t3, t4, t5, t6, u3, u4, u5, u6⟩ := mz_cs h0.1
  unfold f_X7_next f_X8_next f_X7_next_9 f_X7_next_14 f_X7_next_34 f_X8_next_15 f_X8_next_41
  rcases mk_side x1 with e | ⟨s, hs, rfl, e⟩
  · have hne : ¬ x1 = 0 ∧ ¬ x1 = 1 := by
      constructor
      · intro q
        have := (e v w).1
        rw [q] at this
        exact absurd this (by unfold f_X7_isSide f_X7_isSide_9; simp)
      · intro q
        have := (e v w).1
        rw [q] at this
        exact absurd this (by unfold f_X7_isSide f_X7_isSide_9; simp)
    refine mE h (i := 1) (c := 1) ?_ (fun _ => rfl) (by decide) ?_
    · rw [if_neg hne.1, if_neg hne.2, mx_a0]
    · rw [ms_cl (e v w).2.2.2, if_pos rfl, tS_lt, if_neg mz_le1]
  · rw [ms_cl (e v w).2.2.2, if_neg mr_10, tS_lt, if_pos mz_le0]
    rcases (show s = 0 ∨ s = 1 by omega) with rfl | rfl
    · refine mO h (r := r) ?_ ?_
      · rw [if_pos (show nI 0 = 0 from rfl), mx_a1, ms_cl a1, if_pos (show nI 0 = 0 from rfl)]
      · rw [if_pos (show nI 0 = 0 from rfl), ms_cl a2]
    · rw [if_neg (show ¬ nI 1 = 0 by decide), if_pos (show nI 1 = 1 from rfl), mx_a1, ms_cl a1, if_neg (show ¬ nI 1 = 0 by decide), if_neg (show ¬ nI 1 = 0 by decide), ms_cl a2]
      by_cases z : r = -1
      · rw [if_pos z, if_pos z, ms_cl a2]
        exact mO h rfl rfl
      · rw [if_neg z, if_neg z]
        unfold f_X4_numberFor f_X8_nextNumber
        rw [ms_cl a2]
        by_cases z3 : r = 3
        · subst z3
          have hn : ¬ v 0 3 = nI (2 ^ 15 - 1) := by
            rcases a3 with ⟨q, _⟩ | ⟨q, _⟩ | ⟨q, _⟩ | ⟨q, _⟩ | ⟨_, _, hn⟩ | ⟨q, _⟩ | ⟨q, _⟩ | ⟨q, _⟩
            · exact absurd q (by decide)
            · exact absurd q (by decide)
            · exact absurd q (by decide)
            · exact absurd q (by decide)
            · exact hn
            · exact absurd q (by decide)
            · exact absurd q (by decide)
            · exact absurd q (by decide)
          obtain ⟨c, hc, c7, c8⟩ := mn_num h0.1 0 15 (by decide) (v 0 3) (by rw [t4]; exact u4) hn
          rw [if_pos rfl, if_pos rfl, mr_g4, mr_n4, ← t4, ms_cl (show f_X7_lowestMissing (v 0 3) 15 v = _ from c7), tS_cl, ms_cl c8, tS_cl]
          exact mO h rfl rfl
        · rw [if_neg z3, if_neg z3, ms_cl a2]
          by_cases z4 : r = 4
          · subst z4
            have hn : ¬ v 0 4 = nI (2 ^ 8 - 1) := by
              rcases a3 with ⟨q, _⟩ | ⟨q, _⟩ | ⟨q, _⟩ | ⟨q, _⟩ | ⟨q, _⟩ | ⟨_, _, hn⟩ | ⟨q, _⟩ | ⟨q, _⟩
              · exact absurd q (by decide)
              · exact absurd q (by decide)
              · exact absurd q (by decide)
              · exact absurd q (by decide)
              · exact absurd q (by decide)
              · exact hn
              · exact absurd q (by decide)
              · exact absurd q (by decide)
            obtain ⟨c, hc, c7, c8⟩ := mn_num h0.1 0 8 (by decide) (v 0 4) (by rw [t5]; exact u5) hn
            rw [if_pos rfl, if_pos rfl, mr_g5, mr_n5, ← t5, ms_cl (show f_X7_lowestMissing (v 0 4) 8 v = _ from c7), tS_cl, ms_cl c8, tS_cl]
            exact mO h rfl rfl
          · rw [if_neg z4, if_neg z4, tS_cl, tS_cl]
            exact mO h rfl rfl
end
