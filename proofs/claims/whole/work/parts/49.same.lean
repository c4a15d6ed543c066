/-! ===== a key becomes stale; a key is made the same ===== -/
theorem mz_d4 {k : Nat} (h : k < 2147483648) : nI k / 4 = nI (k / 4) := pk_div (d := 4) h (by decide) (by decide)
/-- the scalars stay, and the other cells -/
theorem mm_stale {B : Nat} {v w : tmM} (h : rP B v (w 1)) {k : Nat} (hk : k < 60) (hd : v 0 0 = 1 ∨ v 0 0 = 2) : ∃ v' w', f_X4_markStale (nI k) v = some ((), v') ∧ f_X8_becomesStale (nI k) w = some ((), w') ∧ rP B v' (w' 1) ∧ mFr v w v' w' ∧ v' 0 0 = v 0 0 := by
  have hphase := (mr_phase h).1
  obtain ⟨hS, hT, hA, ⟨n, hQ⟩, ⟨e, hE⟩, hW, hI⟩ := h
  have hI0 := hI
  obtain ⟨i1, i2, i3, i4, i5, i6, i7, i8⟩ := hI0
  have hc : k / 4 < 15 := by omega
  have hpl := mr_pl hQ (nI k)
  have hho := mr_holds hQ (nI k)
  have hcl := mb_clrI (N := 32768) (by decide) i4 hc
  have hS4 : v 0 3 = w 1 4 := hS.2.2.2.1
  have hQ0 := hQ
  obtain ⟨q1, q2, q3, q4, q5, q6⟩ := hQ0
  have hb : ∀ w : tmM, f_X8_becomesStale (nI k) w = tm_lt (tm_up w 1 4 ((w 1 4) &&& ((1 <<< (nI (k / 4) &&& 31)) ^^^ (-1)))) fun v1 => tm_cl (f_X8_placeOf (nI k) v1) fun r3 v2 => (if r3 = (-1) then tm_g (tm_ix (131 + (v2 1 7)) 491) (tm_lt (tm_up v2 1 (131 + (v2 1 7)).toNatClampNeg (nI k)) fun v4 => tm_lt (tm_up v4 1 7 ((v4 1 7) + 1)) fun v5 => tm_cl (f_X8_notes 1 (nI k) v5) fun _ v6 => some ((), v6)) else some ((), v2)) := fun w => by
    unfold f_X8_becomesStale
    simp only [mr_g4, mr_g7, mr_n4, mr_n7, mz_d4 (show k < 2147483648 by omega)]
    rw [ms_gd (by decide)]
  by_cases hm : mPl v n (nI k) = -1
  · -- a new one
    have hn : n < 60 := mq_new hQ hk hm
    generalize hx : w 1 4 &&& ((1 <<< (nI (k / 4) &&& 31)) ^^^ (-1)) = x at hcl
    generalize hv1 : tm_up (tm_up (tm_up v 9 n (nI k)) 8 1 (nI (n + 1))) 0 3 x = v1
    generalize hw1 : tm_up (tm_up (tm_up w 1 4 x) 1 (131 + n) (nI k)) 1 7 (nI (n + 1)) = w1
    have ev : ∀ c j, ¬ (c = 9 ∧ j = n) → ¬ (c = 8 ∧ j = 1) → ¬ (c = 0 ∧ j = 3) → v1 c j = v c j := fun c j a b d => by rw [← hv1, mu_ne (by omega), mu_ne (by omega), mu_ne (by omega)]
    have ew : ∀ j, j ≠ 4 → j ≠ 131 + n → j ≠ 7 → w1 1 j = w 1 j := fun j a b d => by rw [← hw1, mu_ne (by omega), mu_ne (by omega), mu_ne (by omega)]
    have e4 : w1 1 4 = x := by rw [← hw1, mu_ne (by omega), mu_ne (by omega), mu_eq]
    have en : w1 1 (131 + n) = nI k := by rw [← hw1, mu_ne (by omega), mu_eq]
    have e7 : w1 1 7 = nI (n + 1) := by rw [← hw1, mu_eq]
    have hno : ∀ i, i < n → ¬ v 9 i = nI k := by
      rcases mFind_spec (fun i => v 9 i = nI k) n 0 with ⟨_, h2⟩ | ⟨p, _, _, h1, _⟩
      · exact fun i hi => h2 i (Nat.zero_le _) (by omega)
      · exact absurd ((show mPl v n (nI k) = nI p from h1).symm.trans hm) (mz_neg (by omega))
    have hP : rP B v1 (w1 1) := by
      refine ⟨?_, rT_ext (fun c j hc _ => ev c j (by omega) (by omega) (by omega)) (fun j hj => ew j (by omega) (by omega) (by omega)) hT, rA_ext (fun c j hc _ => ev c j (by omega) (by omega) (by omega)) (fun j hj => ew j (by omega) (by omega) (by omega)) hA, ⟨n + 1, by omega, ?_, e7, fun i hi => ?_, fun i hi => ?_, fun i j hi hj he => ?_⟩, ⟨e, rEn_ext (fun c j hc => ev c j (by omega) (by omega) (by omega)) (fun j hj => ew j (by omega) (by omega) (by omega)) hE⟩, rW_ext (fun c j hc => ev c j (by omega) (by omega) (by omega)) (fun j hj => ew j (by omega) (by omega) (by omega)) hW, ?_⟩
      · obtain ⟨s1, s2, s3, s4, s5, s6, s7⟩ := hS
        refine ⟨?_, ?_, ?_, ?_, ?_, ?_, ?_⟩
        · rw [ev 0 0 (by omega) (by omega) (by omega), ew 0 (by omega) (by omega) (by omega)]; exact s1
        · rw [ev 0 1 (by omega) (by omega) (by omega), ew 6 (by omega) (by omega) (by omega)]; exact s2
        · rw [ev 0 2 (by omega) (by omega) (by omega), ew 3 (by omega) (by omega) (by omega)]; exact s3
        · rw [e4, ← hv1, mu_eq]
        · rw [ev 0 4 (by omega) (by omega) (by omega), ew 5 (by omega) (by omega) (by omega)]; exact s5
        · rw [ev 1 0 (by omega) (by omega) (by omega), ew 1 (by omega) (by omega) (by omega)]; exact s6
        · rw [ev 1 1 (by omega) (by omega) (by omega), ew 2 (by omega) (by omega) (by omega)]; exact s7
      · rw [← hv1, mu_ne (by omega), mu_eq]
      · by_cases q : i = n
        · rw [q, en, ← hv1, mu_ne (by omega), mu_ne (by omega), mu_eq]
        · rw [ev 9 i (by omega) (by omega) (by omega), ew _ (by omega) (by omega) (by omega)]; exact q4 i (by omega)
      · rw [e4]
        by_cases q : i = n
        · exact ⟨k, hk, by rw [q, en], by rw [hcl.2 _ hc, if_pos rfl]⟩
        · obtain ⟨a, a1, a2, a3⟩ := q5 i (by omega)
          refine ⟨a, a1, by rw [ew _ (by omega) (by omega) (by omega)]; exact a2, ?_⟩
          rw [hcl.2 _ (by omega)]
          by_cases s : a / 4 = k / 4
          · exact if_pos s
          · rw [if_neg s]; exact a3
      · by_cases q : i = n
        · by_cases s : j = n
          · omega
          · rw [q, en, ew _ (by omega) (by omega) (by omega)] at he
            exact absurd ((q4 j (by omega)).trans he.symm) (hno j (by omega))
        · by_cases s : j = n
          · rw [s, en, ew _ (by omega) (by omega) (by omega)] at he
            exact absurd ((q4 i (by omega)).trans he) (hno i (by omega))
          · rw [ew _ (by omega) (by omega) (by omega), ew _ (by omega) (by omega) (by omega)] at he
            exact q6 i j (by omega) (by omega) he
      · refine ⟨?_, ?_, ?_, ?_, ?_, ?_, fun i hi => ?_, fun h0 => ?_⟩
        · rw [ew 0 (by omega) (by omega) (by omega)]; exact i1
        · rw [ew 6 (by omega) (by omega) (by omega)]; exact i2
        · rw [ew 3 (by omega) (by omega) (by omega)]; exact i3
        · rw [e4]; exact hcl.1
        · rw [ew 5 (by omega) (by omega) (by omega)]; exact i5
        · rw [ew 1 (by omega) (by omega) (by omega), ew 2 (by omega) (by omega) (by omega)]; exact i6
        · rw [ew _ (by omega) (by omega) (by omega)]; exact i7 i hi
        · rw [ew 0 (by omega) (by omega) (by omega), ← hphase] at h0
          rcases hd with q | q <;> rw [q] at h0 <;> exact absurd h0 (by decide)
    obtain ⟨v', w', a1, a2, a3, a4⟩ := me_ev hP 1 (nI k)
    refine ⟨v', w', ?_, ?_, a3, mFr.trans ⟨fun c hc => ?_, fun c hc => ?_⟩ a4.fr, ?_⟩
    · unfold f_X4_markStale f_X2_add
      rw [ms_cl hho, if_pos hm, if_pos rfl, q2, if_neg (show ¬ (60 : Int32) ≤ nI n from nI_ge (b := 60) hn (by decide)), ms_gi hn (by decide), tS_lt, nI_clamp (by omega), tS_lt, mu_ne (by omega), q2, nI_1, tS_cl, ms_gd (by decide), tS_lt, mz_d4 (show k < 2147483648 by omega), mu_ne (by omega), mu_ne (by omega), hS4, hx, hv1, ms_cl a1]
    · have hpl1 : f_X8_placeOf (nI k) (tm_up w 1 4 x) = some (-1, tm_up w 1 4 x) := by
        have hQ1 : rQn n (tm_up v 0 3 x) (tm_up w 1 4 x 1) := by
          refine ⟨q1, (mu_ne (by omega)).trans q2, (mu_ne (by omega)).trans q3, fun i hi => ?_, fun i hi => ?_, fun i j hi hj he => ?_⟩
          · rw [mu_ne (by omega), mu_ne (by omega)]; exact q4 i hi
          · obtain ⟨a, a1, a2, a3⟩ := q5 i hi
            refine ⟨a, a1, (mu_ne (by omega)).trans a2, ?_⟩
            rw [mu_eq, hcl.2 _ (by omega)]
            by_cases s : a / 4 = k / 4
            · exact if_pos s
            · rw [if_neg s]; exact a3
          · rw [mu_ne (by omega), mu_ne (by omega)] at he
            exact q6 i j hi hj he
        have hp1 := (mr_pl hQ1 (nI k)).2
        have hp2 : mPl (tm_up v 0 3 x) n (nI k) = mPl v n (nI k) := mFind_congr _ _ (fun j _ _ => by rw [mu_ne (by omega)])
        rw [hp2, hm] at hp1
        exact hp1
      rw [hb, hx, tS_lt, ms_cl hpl1, if_pos rfl, mu_ne (by omega), q3, mz_131, ms_gi (by omega) (by decide), tS_lt, nI_clamp (by omega), tS_lt, mu_ne (by omega), mu_ne (by omega), q3, nI_1, hw1, ms_cl a2]
    · rw [← hv1, tu_ne _ _ _ (by omega), tu_ne _ _ _ (by omega), tu_ne _ _ _ (by omega)]
    · rw [← hw1, tu_ne _ _ _ hc, tu_ne _ _ _ hc, tu_ne _ _ _ hc]
    · rw [a4.1 0 0 (by omega) (by omega) (by omega)]; exact ev 0 0 (by omega) (by omega) (by omega)
  · -- it is stale
    have h0 : mHas (w 1 4) (nI (k / 4)) = 0 := by
      rcases mFind_spec (fun i => v 9 i = nI k) n 0 with ⟨h1, _⟩ | ⟨p, _, hp, _, h2, _⟩
      · exact absurd h1 hm
      · obtain ⟨a, a1, a2, a3⟩ := q5 p (by omega)
        have : nI k = nI a := h2.symm.trans ((q4 p (by omega)).trans a2)
        rw [(nI_eq (by omega) (by omega)).mp this]
        exact a3
    have hx := mb_clr0 i4 hc h0
    have hw : tm_up w 1 4 (w 1 4) = w := by
      funext c j
      rw [mu_if]
      by_cases s : c = 1 ∧ j = 4
      · rw [if_pos s, s.1, s.2]
      · rw [if_neg s]
    refine ⟨v, w, ?_, ?_, ⟨hS, hT, hA, ⟨n, hQ⟩, ⟨e, hE⟩, hW, hI⟩, mFr.refl v w, rfl⟩
    · unfold f_X4_markStale
      rw [ms_cl hho, if_neg hm, if_neg (by decide)]
    · rw [hb, hx, hw, tS_lt, ms_cl hpl.2, if_neg hm]
theorem mz_1s {s : Nat} (hs : s < 2) : (1 : Int32) - nI s = nI (1 - s) := pk_sub (a := 1) (by omega)
theorem mm_same {B : Nat} {v w : tmM} (h : rP B v (w 1)) {k : Nat} (hk : k < 60) : ∃ v' w', f_X4_makeSame (nI k) v = some ((), v') ∧ f_X8_makesSame (nI k) w = some ((), w') ∧ rP B v' (w' 1) ∧ mFr v w v' w' ∧ ∀ j, v' 0 j = v 0 j := by
  have hl := mLd_lt v
  have hrd := mr_val h hl hk
  generalize hx : (if mRd v (mLd v) k = -3 then 0 else mRd v (mLd v) k) = x
  have hxc : mCl x := by
    rw [← hx]
    rcases mRd_cases h hl hk with ⟨_, b⟩ | ⟨_, b | ⟨j, hj, b⟩⟩
    · rw [b]; exact Or.inl (by decide)
    · rw [b]; exact Or.inr ⟨0, by decide, rfl⟩
    · rw [b, if_neg (mr_n3 (Or.inr ⟨j, hj, rfl⟩))]; exact Or.inr ⟨j, hj, rfl⟩
  have h1 := mm_lay h (s := 1 - mLd v) (by omega) hk (x := x) (fun _ => hxc)
  obtain ⟨v', w', a1, a2, a3, a4, a5⟩ := mq_drop h1 (nI k)
  refine ⟨v', w', ?_, ?_, a3, mFr.trans ((mFr.refl v w).up (by omega)) a4, fun j => ?_⟩
  · unfold f_X4_makeSame f_X4_makeSame_34
    rw [ms_cl (mr_lead7 v), ms_cl hrd.1, mz_1s hl]
    by_cases q : mRd v (mLd v) k = -3
    · rw [if_pos q] at hx
      rw [if_pos q, ms_cl (mm_store7 (by omega) hk 0 v), hx, ms_cl a1]
    · rw [if_neg q] at hx
      rw [if_neg q, hx, ms_cl (mm_store7 (by omega) hk x v), ms_cl a1]
  · unfold f_X8_makesSame f_X8_makesSame_29
    rw [ms_cl (mr_lead8 h), ms_cl hrd.2, ms_cl (mr_lead8 h), mz_1s hl]
    by_cases q : mRd v (mLd v) k = -3
    · rw [if_pos q] at hx
      rw [if_pos q, ms_cl (mm_lay8 h (by omega) hk 0), hx, ms_cl a2]
    · rw [if_neg q] at hx
      rw [if_neg q, hx, ms_cl (mm_lay8 h (by omega) hk x), ms_cl a2]
  · rw [a5 0 (by decide) (by decide)]; exact mu_ne (by omega)
