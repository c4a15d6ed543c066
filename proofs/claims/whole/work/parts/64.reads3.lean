/-! ===== the rest of the calls that read with a loop ===== -/
section
variable {B : Nat} {v w : tmM} {bs : List Int32}
theorem mt_differing (h : mG B v bs w) (x1 : Int32) : mAn B v bs w (some 1) none none (f_X7_differing x1 v) (f_X8_differing x1 w) := by
  have h0 := mG_0 h
  unfold f_X7_differing f_X8_differing f_X7_differing_9 f_X8_differing_10
  by_cases c0 : x1 < 0
  · refine mE h (i := 0) (c := 1) ?_ (fun _ => rfl) (by decide) ?_
    · rw [if_pos c0, mx_i0]
    · rw [if_pos c0, tS_lt]
      show f_X8_differing_17b _ _ x1 0 (tm_up w 0 0 1) = _
      unfold f_X8_differing_17b f_X8_differing_73
      rw [if_neg (by decide), if_neg (by rw [mu_eq]; decide)]
      exact if_neg mz_le1
  · obtain ⟨m, hm, rfl⟩ := nI_of c0
    rw [if_neg c0, if_neg c0, mx_i1, tS_lt]
    have hd := mr_dbl h0.1
    generalize hw0 : tm_up w 0 0 0 = w0 at h0 hd
    have hw00 : w0 0 0 = 0 := by rw [← hw0, mu_eq]
    rw [ms_cl hd.1]
    by_cases z : mDb v = 0
    · rw [if_pos z]
      refine mO h rfl ?_
      show f_X8_differing_17b _ _ (nI m) 0 w0 = _
      unfold f_X8_differing_17b f_X8_differing_73
      rw [if_neg (by decide), if_pos hw00, ms_cl hd.2, if_pos z, hw0]
      exact if_pos (by rw [hw00]; decide)
    · rw [if_neg z]
      have L : ∀ (d i j F : Nat), d + i = 60 → j ≤ m → d < F → ∃ r, f_X7_differing_28 (fun v6 => some ((0, (-1)), v6)) F (nI m) (nI j) (nI i) v = some ((0, r), v) ∧ f_X8_differing_17 (fun v9 => f_X8_differing_73 v9) F (nI (m - j)) (nI i) w0 = some (r, w0) := by
        intro d
        induction d with
        | zero =>
          intro i j F hd2 hj hF
          obtain ⟨F, rfl⟩ : ∃ G, F = G + 1 := ⟨F - 1, by omega⟩
          have e : (60 : Int32) ≤ nI i := nI_le (a := 60) (by omega) (by omega)
          refine ⟨-1, ?_, ?_⟩
          · show f_X7_differing_28b _ _ (nI m) (nI j) (nI i) v = _
            unfold f_X7_differing_28b
            rw [if_pos e]
          · show f_X8_differing_17b _ _ (nI (m - j)) (nI i) w0 = _
            unfold f_X8_differing_17b f_X8_differing_73
            rw [if_pos e]
            exact if_pos (by rw [hw00]; decide)
        | succ d ih =>
          intro i j F hd2 hj hF
          obtain ⟨F, rfl⟩ : ∃ G, F = G + 1 := ⟨F - 1, by omega⟩
          have e : ¬ (60 : Int32) ≤ nI i := nI_ge (b := 60) (by omega) (by decide)
          have hq := mr_dif h0.1 (k := i) (by omega)
          show ∃ r, f_X7_differing_28b _ _ (nI m) (nI j) (nI i) v = _ ∧ f_X8_differing_17b _ _ (nI (m - j)) (nI i) w0 = _
          unfold f_X7_differing_28b f_X8_differing_17b f_X7_differing_58 f_X8_differing_51 f_X8_differing_65
          rw [if_neg e, if_neg e, if_pos hw00, ms_cl hd.2, if_neg z, ms_cl hq.1, ms_cl hq.2]
          simp only [ms_cl hq.2, tS_lt]
          rcases mDf_01 v i with q | q
          · rw [q, if_pos rfl, if_pos rfl, if_pos rfl, nI_1, show nI (m - j) - 0 = nI (m - j) from pk_sub (b := 0) (Nat.zero_le _)]
            exact ih (i + 1) j F (by omega) hj (by omega)
          · rw [q, if_neg mr_10, if_neg mr_10, if_neg mr_10, nI_1]
            by_cases s : j = m
            · subst s
              rw [if_pos rfl, Nat.sub_self, if_pos (show nI 0 = 0 from rfl)]
              exact ⟨nI i, rfl, rfl⟩
            · rw [if_neg (fun q => s ((nI_eq (by omega) hm).mp q)), if_neg (nI_ne0 (by omega) (by omega)), nI_1, show nI (m - j) - 1 = nI (m - (j + 1)) from pk_sub (b := 1) (by omega)]
              exact ih (i + 1) (j + 1) F (by omega) (by omega) (by omega)
      obtain ⟨r, r1, r2⟩ := L 60 0 0 10000 rfl (Nat.zero_le _) (by decide)
      rw [Nat.sub_zero] at r2
      exact mO h r1 (by rw [hw0]; exact r2)
theorem mt_lookup (h : mG B v bs w) (x1 x2 : Int32) : mAn B v bs w (some 1) (some 2) none (f_X7_lookup x1 x2 v) (f_X8_lookup x1 x2 w) := by
  have h0 := mG_0 h
  unfold f_X7_lookup f_X8_lookup f_X8_lookup_28
  rcases mk_side x1 with e | ⟨s, hs, rfl, e⟩
  · refine mE h (i := 0) (c := 1) ?_ (fun _ => rfl) (by decide) ?_
    · rw [ms_cl (e v w).1, mx_i0]
    · rw [ms_cl (e v w).2.2.1, if_pos rfl, tS_lt]
      show f_X8_lookup_33b _ _ x1 x2 0 (tm_up w 0 0 1) = _
      unfold f_X8_lookup_33b f_X8_lookup_64
      rw [if_neg (by decide), if_neg (by rw [mu_eq]; decide)]
      exact if_neg mz_le1
  · rcases mk_value x2 with f | ⟨p, hp, rfl, f⟩
    · refine mE h (i := 1) (c := 2) ?_ (fun _ => rfl) (by decide) ?_
      · rw [ms_cl (e v w).1, mx_i1, ms_cl (f v w).1, mx_a0]
      · rw [ms_cl (e v w).2.2.1, if_neg mr_10, ms_cl (f v w).2, if_pos rfl, tS_lt]
        show f_X8_lookup_33b _ _ (nI s) x2 0 (tm_up w 0 0 2) = _
        unfold f_X8_lookup_33b f_X8_lookup_64
        rw [if_neg (by decide), if_neg (by rw [mu_eq]; decide)]
        exact if_neg mz_le2
    · generalize hw0 : tm_up w 0 0 0 = w0 at h0
      have hw00 : w0 0 0 = 0 := by rw [← hw0, mu_eq]
      have L : ∀ (d i F : Nat), d + i = 60 → d < F → ∃ r, f_X7_lookup_16 (fun v9 => some ((0, (-1)), v9)) F (nI s) (nI p) (nI i) v = some ((0, r), v) ∧ f_X8_lookup_33 (fun v8 => f_X8_lookup_64 v8) F (nI s) (nI p) (nI i) w0 = some (r, w0) := by
        intro d
        induction d with
        | zero =>
          intro i F hd2 hF
          obtain ⟨F, rfl⟩ : ∃ G, F = G + 1 := ⟨F - 1, by omega⟩
          have e : (60 : Int32) ≤ nI i := nI_le (a := 60) (by omega) (by omega)
          refine ⟨-1, ?_, ?_⟩
          · show f_X7_lookup_16b _ _ (nI s) (nI p) (nI i) v = _
            unfold f_X7_lookup_16b
            rw [if_pos e]
          · show f_X8_lookup_33b _ _ (nI s) (nI p) (nI i) w0 = _
            unfold f_X8_lookup_33b f_X8_lookup_64
            rw [if_pos e]
            exact if_pos (by rw [hw00]; decide)
        | succ d ih =>
          intro i F hd2 hF
          obtain ⟨F, rfl⟩ : ∃ G, F = G + 1 := ⟨F - 1, by omega⟩
          have e : ¬ (60 : Int32) ≤ nI i := nI_ge (b := 60) (by omega) (by decide)
          have hq := mr_val h0.1 hs (k := i) (by omega)
          show ∃ r, f_X7_lookup_16b _ _ (nI s) (nI p) (nI i) v = _ ∧ f_X8_lookup_33b _ _ (nI s) (nI p) (nI i) w0 = _
          unfold f_X7_lookup_16b f_X8_lookup_33b
          rw [if_neg e, if_neg e, if_pos hw00, ms_cl hq.1, ms_cl hq.2]
          by_cases z : mRd v s i = nI p
          · rw [if_pos z, if_pos z]; exact ⟨nI i, rfl, rfl⟩
          · rw [if_neg z, if_neg z, nI_1]
            exact ih (i + 1) F (by omega) (by omega)
      obtain ⟨r, r1, r2⟩ := L 60 0 10000 rfl (by decide)
      refine mO h (r := r) ?_ ?_
      · rw [ms_cl (e v w).1, mx_i1, ms_cl (f v w).1, mx_a1]; exact r1
      · rw [ms_cl (e v w).2.2.1, if_neg mr_10, ms_cl (f v w).2, if_neg mr_10, tS_lt, hw0]; exact r2
theorem mt_readSum (h : mG B v bs w) (x1 x2 x3 : Int32) : mAn B v bs w (some 1) none none (f_X7_readSum x1 x2 x3 v) (f_X8_readSum x1 x2 x3 w) := by
  have h0 := mG_0 h
  unfold f_X7_readSum f_X8_readSum f_X7_readSum_19 f_X7_readSum_20 f_X8_readSum_20 f_X8_readSum_21
  rcases mk_reader x1 with e | ⟨c, hc, rfl, e⟩
  · refine mE h (i := 0) (c := 1) ?_ (fun _ => rfl) (by decide) ?_
    · rw [ms_cl (e v w).1, if_pos rfl, mx_i0]
    · rw [ms_cl (e v w).2, if_pos rfl, tS_lt, if_neg mz_le1]
  · rcases mk_range x2 x3 with f | ⟨a, b, hab, hb, rfl, rfl, f⟩
    · refine mE h (i := 0) (c := 1) ?_ (fun _ => rfl) (by decide) ?_
      · rw [ms_cl (e v w).1, if_neg mr_10, ms_cl (f v w).1, if_pos rfl, mx_i0]
      · rw [ms_cl (e v w).2, if_neg mr_10, ms_cl (f v w).2, if_pos rfl, tS_lt, if_neg mz_le1]
    · obtain ⟨t, ht, hq⟩ := mz_sd h0.1 (x := nI c)
      have a7 := mr_side7 (nI c) v
      have a8 := mr_side8 h0.1 (nI c)
      rw [hq] at a7 a8
      generalize hw0 : tm_up w 0 0 0 = w0 at h0 a8
      have hw00 : w0 0 0 ≤ 0 := by rw [← hw0]; exact mz_le0
      have hu := mr_up8 h0.1 (nI t)
      -- the class looks for a broken number first
      have L7 : ∀ (K : Int32 → Int32 → Int32 → tmM → Option tmR) (d i F : Nat), d + i = b + 1 → d < F → f_X7_readSum_54 K F (nI a) (nI b) (nI t) (nI i) v = if mFind (fun k => mRd v t k = -3) d i = -1 then K (nI a) (nI b) (nI t) v else some ((0, -3), v) := by
        intro K d
        induction d with
        | zero =>
          intro i F hd2 hF
          obtain ⟨F, rfl⟩ : ∃ G, F = G + 1 := ⟨F - 1, by omega⟩
          show f_X7_readSum_54b _ _ (nI a) (nI b) (nI t) (nI i) v = _
          unfold f_X7_readSum_54b
          rw [if_pos (nI_lt (by omega) (by omega))]
          rfl
        | succ d ih =>
          intro i F hd2 hF
          obtain ⟨F, rfl⟩ : ∃ G, F = G + 1 := ⟨F - 1, by omega⟩
          show f_X7_readSum_54b _ _ (nI a) (nI b) (nI t) (nI i) v = _
          unfold f_X7_readSum_54b
          rw [if_neg (nI_nlt (by omega) (by omega)), ms_cl (mr_val h0.1 ht (k := i) (by omega)).1]
          by_cases z : mRd v t i = -3
          · rw [if_pos z, mFind_t z, if_neg (mz_neg (by omega))]
          · rw [if_neg z, mFind_f z, nI_1]
            exact ih (i + 1) F (by omega) (by omega)
      have L8 : ∀ (K : Int32 → Int32 → Int32 → tmM → Option (Int32 × tmM)) (d i F : Nat) (y g : Int32), (g = 0 ∨ g = 1) → d + i = b + 1 → d < F → f_X8_readSum_49 K F (nI b) (nI t) y g (nI i) w0 = K (nI t) (mFold (mTot v t) d i y) (if g = 0 then (if mFind (fun k => mRd v t k = -3) d i = -1 then 0 else 1) else 1) w0 := by
        intro K d
        induction d with
        | zero =>
          intro i F y g hg hd2 hF
          obtain ⟨F, rfl⟩ : ∃ G, F = G + 1 := ⟨F - 1, by omega⟩
          show f_X8_readSum_49b _ _ (nI b) (nI t) y g (nI i) w0 = _
          unfold f_X8_readSum_49b
          rw [if_pos (nI_lt (by omega) (by omega))]
          rcases hg with rfl | rfl <;> rfl
        | succ d ih =>
          intro i F y g hg hd2 hF
          obtain ⟨F, rfl⟩ : ∃ G, F = G + 1 := ⟨F - 1, by omega⟩
          show f_X8_readSum_49b _ _ (nI b) (nI t) y g (nI i) w0 = _
          unfold f_X8_readSum_49b f_X8_readSum_77 f_X8_readSum_82 f_X8_readSum_97
          rw [if_neg (nI_nlt (by omega) (by omega)), ms_cl (mr_val h0.1 ht (k := i) (by omega)).2]
          have hs : (if mRd v t i ≤ 0 then (0 : Int32) else mRd v t i) = if mRd v t i < 0 then 0 else mRd v t i := by
            rcases mRd_cases h0.1 ht (k := i) (by omega) with ⟨_, q⟩ | ⟨_, q | ⟨j, hj, q⟩⟩
            · rw [q]; decide
            · rw [q]; decide
            · rw [q, if_neg (nI_pos (by omega))]
              by_cases z : j = 0
              · subst z; rfl
              · rw [if_neg (nI_nle (by omega) (by omega))]
          have hstep : ∀ g2 : Int32, (if mRd v t i ≤ 0 then tm_lt (y + 0) (fun y8 => f_X8_readSum_49 K F (nI b) (nI t) y8 g2 (nI i + 1) w0) else tm_lt (y + mRd v t i) fun y8 => f_X8_readSum_49 K F (nI b) (nI t) y8 g2 (nI i + 1) w0) = f_X8_readSum_49 K F (nI b) (nI t) (mTot v t i y) g2 (nI (i + 1)) w0 := fun g2 => by
            unfold mTot
            rw [← hs, nI_1, tS_lt, tS_lt]
            split <;> rfl
          rw [hstep, hstep]
          show _ = K (nI t) (mFold (mTot v t) d (i + 1) (mTot v t i y)) _ w0
          rcases hg with rfl | rfl
          · rw [if_pos rfl, if_pos rfl]
            by_cases z : mRd v t i = -3
            · rw [if_pos z, mFind_t z, if_neg (mz_neg (by omega)), ih (i + 1) F _ 1 (Or.inr rfl) (by omega) (by omega), if_neg mr_10]
            · rw [if_neg z, mFind_f z, ih (i + 1) F _ 0 (Or.inl rfl) (by omega) (by omega), if_pos rfl]
          · rw [if_neg mr_10, if_neg mr_10, ih (i + 1) F _ 1 (Or.inr rfl) (by omega) (by omega), if_neg mr_10]
      have ht7 := mr_tot7 h0.1 (s := t) (a := a) (b := b) ht hab hb
      refine mO h (r := if mHas (v 0 1) (nI t) = 0 then -2 else if mFind (fun k => mRd v t k = -3) (b + 1 - a) a = -1 then mFold (mTot v t) (b + 1 - a) a 0 else -3) ?_ ?_
      · rw [ms_cl (e v w).1, if_neg mr_10, ms_cl (f v w).1, if_neg mr_10, mx_i1, ms_cl a7, ms_cl (mh_7 _ _ _)]
        by_cases z : mHas (v 0 1) (nI t) = 0
        · rw [if_pos z, if_pos z]
        · rw [if_neg z, if_neg z, L7 _ (b + 1 - a) a 10000 (by omega) (by omega)]
          by_cases y : mFind (fun k => mRd v t k = -3) (b + 1 - a) a = -1
          · rw [if_pos y, if_pos y, ms_cl ht7]
          · rw [if_neg y, if_neg y]
      · rw [ms_cl (e v w).2, if_neg mr_10, ms_cl (f v w).2, if_neg mr_10, tS_lt, hw0, if_pos hw00, ms_cl a8, L8 _ (b + 1 - a) a 10000 0 0 (Or.inl rfl) (by omega) (by omega), ms_cl hu, if_pos rfl]
        by_cases z : mHas (v 0 1) (nI t) = 0
        · rw [if_pos z, if_pos z]
        · rw [if_neg z, if_neg z]
          by_cases y : mFind (fun k => mRd v t k = -3) (b + 1 - a) a = -1
          · rw [if_pos y, if_pos y, if_pos rfl]
          · rw [if_neg y, if_neg y, if_neg mr_10]
end
