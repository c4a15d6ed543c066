/-! ===== THE FIFTY CALLS: forms ===== -/
theorem mx_i0 {β : Type} (v : tmM) (K : Int32 → tmM → Option ((Nat × β) × tmM)) (d : β) : tm_cx (f_X7_requireIndex 0 v) K d = some ((1, d), v) := rfl
theorem mx_i1 {β : Type} (v : tmM) (K : Int32 → tmM → Option ((Nat × β) × tmM)) (d : β) : tm_cx (f_X7_requireIndex 1 v) K d = K 0 v := rfl
theorem mx_a0 {β : Type} (v : tmM) (K : Int32 → tmM → Option ((Nat × β) × tmM)) (d : β) : tm_cx (f_X7_requireArgument 0 v) K d = some ((2, d), v) := rfl
theorem mx_a1 {β : Type} (v : tmM) (K : Int32 → tmM → Option ((Nat × β) × tmM)) (d : β) : tm_cx (f_X7_requireArgument 1 v) K d = K 0 v := rfl
theorem mx_s0 {β : Type} (v : tmM) (K : Int32 → tmM → Option ((Nat × β) × tmM)) (d : β) : tm_cx (f_X7_requireState 0 v) K d = some ((3, d), v) := rfl
theorem mx_s1 {β : Type} (v : tmM) (K : Int32 → tmM → Option ((Nat × β) × tmM)) (d : β) : tm_cx (f_X7_requireState 1 v) K d = K 0 v := rfl
theorem mk_inL (x m : Int32) (n : Nat) (hm : m = nI n) (hn : n < 2147483647) (w : tmM) : (x < 0 → f_X8_in x 0 m w = some (0, w)) ∧ (nI (n + 1) ≤ x → f_X8_in x 0 m w = some (0, w)) ∧ ∀ k, k ≤ n → x = nI k → f_X8_in x 0 m w = some (1, w) := by
  subst hm
  exact mk_in0 x n hn w
def mAn (B : Nat) (v : tmM) (bs : List Int32) (w : tmM) (h0 h1 h2 : Option Int32) (o7 : Option tmR) (o8 : Option (Int32 × tmM)) : Prop := (∃ (i : Nat) (c x r : Int32) (w' : tmM), o7 = some ((i + 1, x), v) ∧ (∀ y, tl_kx h0 h1 h2 i y = some (c, y)) ∧ c ≠ 0 ∧ o8 = some (r, w') ∧ w' 0 0 = c ∧ mG B v bs w') ∨ (∃ (r : Int32) (v' w' : tmM), o7 = some ((0, r), v') ∧ o8 = some (r, w') ∧ w' 0 0 = 0 ∧ mG B v' bs w')
theorem mq_ans {B B' : Nat} (hB : B ≤ B') {v w : tmM} {bs : List Int32} {h0 h1 h2 : Option Int32} {o7 : Option tmR} {o8 : Option (Int32 × tmM)} (h : mAn B v bs w h0 h1 h2 o7 o8) (xo : Int64) (xd : UInt64) : ∃ (k : Int32) (xo' : Int64) (xd' : UInt64) (v' : tmM) (bs' : List Int32) (r : Int32) (w1 w2 : tmM), tl_cx o7 (fun r v' => some (0, ((r.toInt64, xd), (v', bs)))) (fun i v' => tl_kx h0 h1 h2 i ((xo, xd), (v', bs))) = some (k, ((xo', xd'), (v', bs'))) ∧ o8 = some (r, w1) ∧ f_X8_thrown w1 = some (k, w2) ∧ (k = 0 → xo' = r.toInt64) ∧ mG B' v' bs' w2 := by
  rcases h with ⟨i, c, x, r, w', a1, a2, a3, a4, a5, a6⟩ | ⟨r, v', w', a1, a2, a3, a4⟩
  · refine ⟨c, xo, xd, v, bs, r, w', w', ?_, a4, ?_, fun q => absurd q a3, mG_mono hB a6⟩
    · rw [a1]; exact a2 _
    · unfold f_X8_thrown; rw [a5]
  · refine ⟨0, r.toInt64, xd, v', bs, r, w', w', ?_, a2, ?_, fun _ => rfl, mG_mono hB a4⟩
    · rw [a1]; rfl
    · unfold f_X8_thrown; rw [a3]
theorem mq_ansB {B B' : Nat} (hB : B ≤ B') {v w : tmM} {bs : List Int32} {h0 h1 h2 : Option Int32} {o7 : Option tmR} {o8 : Option (Int32 × tmM)} (h : mAn B v bs w h0 h1 h2 o7 o8) (xo : Int64) (xd : UInt64) : ∃ (k : Int32) (xo' : Int64) (xd' : UInt64) (v' : tmM) (bs' : List Int32) (r : Int32) (w1 w2 : tmM), tl_cx o7 (fun r v' => if r = 0 then some (0, ((0, xd), (v', bs))) else some (0, ((1, xd), (v', bs)))) (fun i v' => tl_kx h0 h1 h2 i ((xo, xd), (v', bs))) = some (k, ((xo', xd'), (v', bs'))) ∧ o8 = some (r, w1) ∧ f_X8_thrown w1 = some (k, w2) ∧ (k = 0 → xo' = (if r = 0 then 0 else 1)) ∧ mG B' v' bs' w2 := by
  rcases h with ⟨i, c, x, r, w', a1, a2, a3, a4, a5, a6⟩ | ⟨r, v', w', a1, a2, a3, a4⟩
  · refine ⟨c, xo, xd, v, bs, r, w', w', ?_, a4, ?_, fun q => absurd q a3, mG_mono hB a6⟩
    · rw [a1]; exact a2 _
    · unfold f_X8_thrown; rw [a5]
  · refine ⟨0, (if r = 0 then 0 else 1), xd, v', bs, r, w', w', ?_, a2, ?_, fun _ => rfl, mG_mono hB a4⟩
    · rw [a1]
      show (if r = 0 then some (0, ((0, xd), (v', bs))) else some (0, ((1, xd), (v', bs)))) = _
      by_cases q : r = 0
      · rw [if_pos q, if_pos q]
      · rw [if_neg q, if_neg q]
    · unfold f_X8_thrown; rw [a3]
section
variable {B : Nat} {v w : tmM} {bs : List Int32} {h0 h1 h2 : Option Int32} {o7 : Option tmR} {o8 : Option (Int32 × tmM)}
theorem mE (h : mG B v bs w) {i : Nat} {c : Int32} (e7 : o7 = some ((i + 1, 0), v)) (ek : ∀ y, tl_kx h0 h1 h2 i y = some (c, y)) (hc : c ≠ 0) (e8 : o8 = some (0, tm_up w 0 0 c)) : mAn B v bs w h0 h1 h2 o7 o8 := Or.inl ⟨i, c, 0, 0, _, e7, ek, hc, e8, mu_eq _ _ _ _, mG_reg h (by decide) c⟩
theorem mO (h : mG B v bs w) {r : Int32} (e7 : o7 = some ((0, r), v)) (e8 : o8 = some (r, tm_up w 0 0 0)) : mAn B v bs w h0 h1 h2 o7 o8 := Or.inr ⟨r, v, _, e7, e8, mu_eq _ _ _ _, mG_0 h⟩
theorem mO_R {B' : Nat} {o o' : Option (Int32 × tmM)} (h : mR B' v bs (tm_up w 0 0 0) o o') (e7 : o7 = tm_cl o (fun r v => some ((0, r), v))) (e8 : o8 = o') : mAn B' v bs w h0 h1 h2 o7 o8 := by
  obtain ⟨k, v', w', _, a2, a3, a4, a5⟩ := h
  exact Or.inr ⟨nI k, v', w', by rw [e7, a2]; rfl, by rw [e8, a3], a5.2.2.2 (mu_eq _ _ _ _), a4⟩
end
theorem mz_b7 (a x : Int32) (v : tmM) : (if mHas a x = 0 then some ((0, 0), v) else some ((0, 1), v) : Option tmR) = some ((0, mHas a x), v) := by
  rcases mh_01 a x with z | z <;> rw [z] <;> rfl
theorem mz_b8 (a x : Int32) (v : tmM) : (if mHas a x = 0 then some (0, v) else some (1, v) : Option (Int32 × tmM)) = some (mHas a x, v) := by
  rcases mh_01 a x with z | z <;> rw [z] <;> rfl
theorem mz_le0 {w : tmM} : tm_up w 0 0 0 0 0 ≤ 0 := by rw [mu_eq]; decide
theorem mz_le1 {w : tmM} : ¬ tm_up w 0 0 1 0 0 ≤ 0 := by rw [mu_eq]; decide
theorem mz_le2 {w : tmM} : ¬ tm_up w 0 0 2 0 0 ≤ 0 := by rw [mu_eq]; decide
theorem mz_le3 {w : tmM} : ¬ tm_up w 0 0 3 0 0 ≤ 0 := by rw [mu_eq]; decide
section
variable {B : Nat} {v w : tmM} {bs : List Int32}
theorem mt_stored (h : mG B v bs w) (x1 x2 : Int32) : mAn B v bs w (some 1) none none (f_X7_stored x1 x2 v) (f_X8_stored x1 x2 w) := by
  have h0 := mG_0 h
  unfold f_X7_stored f_X8_stored f_X7_stored_18 f_X7_stored_19 f_X8_stored_21 f_X8_stored_22
  rcases mk_side x1 with e | ⟨s, hs, rfl, e⟩
  · refine mE h (i := 0) (c := 1) ?_ (fun _ => rfl) (by decide) ?_
    · rw [ms_cl (e v w).1, if_pos rfl, mx_i0]
    · rw [ms_cl (e v w).2.2.2, if_pos rfl, tS_lt, if_neg mz_le1]
  · rcases mk_key x2 with f | ⟨k, hk, rfl, f⟩
    · refine mE h (i := 0) (c := 1) ?_ (fun _ => rfl) (by decide) ?_
      · rw [ms_cl (e v w).1, if_neg mr_10, ms_cl (f v w).1, if_pos rfl, mx_i0]
      · rw [ms_cl (e v w).2.2.2, if_neg mr_10, ms_cl (f v w).2, if_pos rfl, tS_lt, if_neg mz_le1]
    · have hr := mr_raw8 h0.1 hs hk
      refine mO h (r := mRaw v s k) ?_ ?_
      · rw [ms_cl (e v w).1, if_neg mr_10, ms_cl (f v w).1, if_neg mr_10, mx_i1, ms_gi hs (by decide), tS_lt, mz_34 hs, ms_gi hk (by decide), nI_clamp (by omega), mz_raw v hs]
      · rw [ms_cl (e v w).2.2.2, if_neg mr_10, ms_cl (f v w).2, if_neg mr_10, tS_lt, if_pos mz_le0]
        rcases (show s = 0 ∨ s = 1 by omega) with rfl | rfl
        · rw [if_pos (show nI 0 = 0 from rfl), mz_11, ms_gi (by omega) (by decide), nI_clamp (by omega), ← hr]
          rfl
        · rw [if_neg (show ¬ nI 1 = 0 by decide), mz_71, ms_gi (by omega) (by decide), nI_clamp (by omega), ← hr]
          rfl
theorem mz_sd {B : Nat} {v w : tmM} (h : rP B v (w 1)) {x : Int32} : ∃ s, s < 2 ∧ mHas (v 0 4) x = nI s := by
  rcases mh_01 (v 0 4) x with q | q
  · exact ⟨0, by decide, q⟩
  · exact ⟨1, by decide, q⟩
theorem mt_read (h : mG B v bs w) (x1 x2 : Int32) : mAn B v bs w (some 1) none none (f_X7_read x1 x2 v) (f_X8_read x1 x2 w) := by
  have h0 := mG_0 h
  unfold f_X7_read f_X8_read f_X7_read_18 f_X7_read_19 f_X8_read_19 f_X8_read_20
  rcases mk_reader x1 with e | ⟨s, hs, rfl, e⟩
  · refine mE h (i := 0) (c := 1) ?_ (fun _ => rfl) (by decide) ?_
    · rw [ms_cl (e v w).1, if_pos rfl, mx_i0]
    · rw [ms_cl (e v w).2, if_pos rfl, tS_lt, if_neg mz_le1]
  · rcases mk_key x2 with f | ⟨k, hk, rfl, f⟩
    · refine mE h (i := 0) (c := 1) ?_ (fun _ => rfl) (by decide) ?_
      · rw [ms_cl (e v w).1, if_neg mr_10, ms_cl (f v w).1, if_pos rfl, mx_i0]
      · rw [ms_cl (e v w).2, if_neg mr_10, ms_cl (f v w).2, if_pos rfl, tS_lt, if_neg mz_le1]
    · obtain ⟨t, ht, hq⟩ := mz_sd h0.1 (x := nI s)
      have hv := mr_val h0.1 ht hk
      have a7 := mr_side7 (nI s) v
      have a8 := mr_side8 h0.1 (nI s)
      rw [hq] at a7 a8
      refine mO h (r := if mHas (v 0 1) (nI t) = 0 then -2 else mRd v t k) ?_ ?_
      · rw [ms_cl (e v w).1, if_neg mr_10, ms_cl (f v w).1, if_neg mr_10, mx_i1, ms_cl a7, ms_cl (mh_7 _ _ _)]
        split
        · rfl
        · rw [ms_cl hv.1]
      · rw [ms_cl (e v w).2, if_neg mr_10, ms_cl (f v w).2, if_neg mr_10, tS_lt, if_pos mz_le0, ms_cl a8, ms_cl (mr_up8 h0.1 _)]
        split
        · rfl
        · rw [ms_cl a8, ms_cl hv.2]
theorem mt_isSwitched (h : mG B v bs w) (x1 : Int32) : mAn B v bs w (some 1) none none (f_X7_isSwitched x1 v) (f_X8_isSwitched x1 w) := by
  have h0 := mG_0 h
  unfold f_X7_isSwitched f_X8_isSwitched f_X8_isSwitched_13
  rcases mk_reader x1 with e | ⟨s, hs, rfl, e⟩
  · refine mE h (i := 0) (c := 1) ?_ (fun _ => rfl) (by decide) ?_
    · rw [ms_cl (e v w).1, mx_i0]
    · rw [ms_cl (e v w).2, if_pos rfl, tS_lt, if_neg (by rw [mu_eq]; decide)]
  · refine mO h (r := mHas (v 0 4) (nI s)) ?_ ?_
    · rw [ms_cl (e v w).1, mx_i1, ms_cl (mh_7 _ _ _), ms_g (mh_bi _ _)]
    · rw [ms_cl (e v w).2, if_neg mr_10, tS_lt, if_pos (mu_eq _ _ _ _), mr_g5, mr_n5, ms_cl (mh_8 _ _ _), ← (mz_cs h0.1).2.2.1]
      rcases mh_01 (v 0 4) (nI s) with q | q <;> rw [q] <;> rfl
theorem mt_account (h : mG B v bs w) (x1 : Int32) : mAn B v bs w none (some 1) none (f_X7_account x1 v) (f_X8_account x1 w) := by
  have h0 := mG_0 h
  unfold f_X7_account f_X8_account f_X7_account_14 f_X7_account_15 f_X8_account_16
  have hin := mk_inL x1 9 9 rfl (by decide) w
  rcases pk_ix x1 (n := 10) (by decide) with q | q | ⟨k, hk, rfl⟩
  · refine mE h (i := 1) (c := 1) ?_ (fun _ => rfl) (by decide) ?_
    · rw [if_pos q, mx_a0]
    · rw [ms_cl (hin.1 q), if_pos rfl, tS_lt, if_neg mz_le1]
  · refine mE h (i := 1) (c := 1) ?_ (fun _ => rfl) (by decide) ?_
    · by_cases z : x1 < 0
      · rw [if_pos z, mx_a0]
      · rw [if_neg z, if_pos (show (10 : Int32) ≤ x1 from q), mx_a0]
    · rw [ms_cl (hin.2.1 q), if_pos rfl, tS_lt, if_neg mz_le1]
  · refine mO h (r := v 250 k) ?_ ?_
    · rw [if_neg (nI_pos (by omega)), if_neg (show ¬ (10 : Int32) ≤ nI k from nI_ge hk (by decide)), mx_a1, ms_gi hk (by decide), nI_clamp (by omega)]
    · rw [ms_cl (hin.2.2 k (by omega) rfl), if_neg mr_10, tS_lt, if_pos mz_le0, ms_gi hk (by decide), nI_clamp (by omega), h0.2.2.2.1 k hk]
theorem mt_written (h : mG B v bs w) (x1 : Int32) : mAn B v bs w (some 1) none none (f_X7_written x1 v) (f_X8_written x1 w) := by
  have h0 := mG_0 h
  unfold f_X7_written f_X8_written f_X8_written_13
  rcases mk_key x1 with e | ⟨k, hk, rfl, e⟩
  · refine mE h (i := 0) (c := 1) ?_ (fun _ => rfl) (by decide) ?_
    · rw [ms_cl (e v w).1, mx_i0]
    · rw [ms_cl (e v w).2, if_pos rfl, tS_lt, if_neg mz_le1]
  · refine mO h (r := v 18 k) ?_ ?_
    · rw [ms_cl (e v w).1, mx_i1, ms_gi hk (by decide), nI_clamp (by omega)]
    · rw [ms_cl (e v w).2, if_neg mr_10, tS_lt, if_pos mz_le0, mz_431, ms_gi (by omega) (by decide), nI_clamp (by omega), h0.1.2.1.2.2 k hk]
theorem mt_stale (h : mG B v bs w) (x1 : Int32) : mAn B v bs w (some 1) none none (f_X7_stale x1 v) (f_X8_stale x1 w) := by
  have h0 := mG_0 h
  unfold f_X7_stale f_X8_stale f_X7_stale_9 f_X8_stale_10
  by_cases q : x1 < 0
  · refine mE h (i := 0) (c := 1) ?_ (fun _ => rfl) (by decide) ?_
    · rw [if_pos q, mx_i0]
    · rw [if_pos q, tS_lt, if_neg mz_le1]
  · obtain ⟨n, q1, q2, q3, q4, _⟩ := h0.1.2.2.2.1
    obtain ⟨k, hk, rfl⟩ := nI_of q
    rw [if_neg q, if_neg q, mx_i1, tS_lt, if_pos mz_le0, mr_g7, mr_n7, q3, q2]
    by_cases z : n ≤ k
    · exact mO h (r := -1) (by rw [if_pos (nI_le z hk)]) (by rw [if_pos (nI_le z hk)])
    · have z2 : ¬ nI n ≤ nI k := nI_ge (by omega) (by omega)
      refine mO h (r := v 9 k) ?_ ?_
      · rw [if_neg z2, ms_gi (show k < 60 by omega) (by decide), nI_clamp hk]
      · rw [if_neg z2, mz_131, ms_gi (show 131 + k < 491 by omega) (by decide), nI_clamp (by omega), q4 k (by omega)]
theorem mt_chunk (h : mG B v bs w) (x1 x2 : Int32) : mAn B v bs w (some 1) (some 2) none (f_X7_chunk x1 x2 v) (f_X8_chunk x1 x2 w) := by
  have h0 := mG_0 h
  rcases mk_chunk x1 with e | ⟨c, hc, rfl, e⟩
  · unfold f_X7_chunk f_X8_chunk f_X7_chunk_21 f_X7_chunk_22 f_X8_chunk_26 f_X8_chunk_41
    refine mE h (i := 0) (c := 1) ?_ (fun _ => rfl) (by decide) ?_
    · rw [ms_cl (e v w).1, mx_i0]
    · rw [ms_cl (e v w).2, if_pos rfl, tS_lt, if_neg mz_le1, if_pos rfl]
  · have hin := mk_inL x2 5 5 rfl (by decide) w
    rcases pk_ix x2 (n := 6) (by decide) with q | q | ⟨k, hk, rfl⟩
    · unfold f_X7_chunk f_X8_chunk f_X7_chunk_21 f_X7_chunk_22 f_X8_chunk_26 f_X8_chunk_41
      refine mE h (i := 1) (c := 2) ?_ (fun _ => rfl) (by decide) ?_
      · rw [ms_cl (e v w).1, mx_i1, if_pos q, mx_a0]
      · rw [ms_cl (e v w).2, if_neg mr_10, ms_cl (hin.1 q), if_pos rfl, tS_lt, if_neg mz_le2, if_pos rfl]
    · unfold f_X7_chunk f_X8_chunk f_X7_chunk_21 f_X7_chunk_22 f_X8_chunk_26 f_X8_chunk_41
      refine mE h (i := 1) (c := 2) ?_ (fun _ => rfl) (by decide) ?_
      · rw [ms_cl (e v w).1, mx_i1]
        by_cases z : x2 < 0
        · rw [if_pos z, mx_a0]
        · rw [if_neg z, if_pos (show (6 : Int32) ≤ x2 from q), mx_a0]
      · rw [ms_cl (e v w).2, if_neg mr_10, ms_cl (hin.2.1 q), if_pos rfl, tS_lt, if_neg mz_le2, if_pos rfl]
    · have e3 := (mz_cs h0.1).1
      have e4 := (mz_cs h0.1).2.1
      obtain ⟨n, hQ⟩ := h0.1.2.2.2.1
      have hh := mr_held hQ (nI c)
      have hs0 := mr_sum h0.1 (c := c) (s := 0) hc (by decide)
      have hs1 := mr_sum h0.1 (c := c) (s := 1) hc (by decide)
      have hf := mr_fst h0.1 hc
      have hd := mr_dbl h0.1
      have c7 : f_X7_chunk_22 (nI c) (nI k) 1 v = (if nI k = 0 then tm_cl (f_X7_has (v 0 2) (nI c) v) fun r6 v5 => (if r6 = 0 then some ((0, 0), v5) else some ((0, 1), v5)) else if nI k = 1 then tm_cl (f_X7_has (v 0 3) (nI c) v) fun r9 v8 => (if r9 = 0 then some ((0, 0), v8) else some ((0, 1), v8)) else if nI k = 2 then tm_cl (f_X5_sumOf 0 (nI c) v) fun r12 v11 => some ((0, r12), v11) else if nI k = 3 then tm_cl (f_X5_sumOf 1 (nI c) v) fun r15 v14 => some ((0, r15), v14) else if nI k = 4 then tm_cl (f_X2_heldOf (nI c) v) fun r18 v17 => some ((0, r18), v17) else tm_cl (f_X4_isDouble v) fun r21 v20 => (if r21 = 0 then some ((0, (-1)), v20) else tm_cl (f_X5_firstDifference (nI c) v20) fun r23 v22 => some ((0, r23), v22))) := mx_a1 _ _ _
      have go : ∀ r, f_X7_chunk_22 (nI c) (nI k) 1 v = some ((0, r), v) → f_X8_chunk_41 (nI c) (nI k) (tm_up w 0 0 0) = some (r, tm_up w 0 0 0) → mAn B v bs w (some 1) (some 2) none (f_X7_chunk (nI c) (nI k) v) (f_X8_chunk (nI c) (nI k) w) := fun r g7 g8 => by
        refine mO h (r := r) ?_ ?_
        · unfold f_X7_chunk
          rw [ms_cl (e v w).1, mx_i1, if_neg (nI_pos (by omega)), if_neg (show ¬ (6 : Int32) ≤ nI k from nI_ge hk (by decide)), g7]
        · unfold f_X8_chunk f_X8_chunk_26
          rw [ms_cl (e v w).2, if_neg mr_10, ms_cl (hin.2.2 k (by omega) rfl), if_neg mr_10, tS_lt, if_pos mz_le0, g8]
      rcases (show k = 0 ∨ k = 1 ∨ k = 2 ∨ k = 3 ∨ k = 4 ∨ k = 5 by omega) with rfl | rfl | rfl | rfl | rfl | rfl
      · refine go (mHas (v 0 2) (nI c)) (c7.trans ?_) ?_
        · rw [if_pos (by decide), ms_cl (mh_7 _ _ _), mz_b7]
        · unfold f_X8_chunk_41
          rw [if_neg (by decide), if_pos (by decide), mr_g3, mr_n3', ← e3, ms_cl (mh_8 _ _ _), mz_b8]
      · refine go (mHas (v 0 3) (nI c)) (c7.trans ?_) ?_
        · rw [if_neg (by decide), if_pos (by decide), ms_cl (mh_7 _ _ _), mz_b7]
        · unfold f_X8_chunk_41
          rw [if_neg (by decide), if_neg (by decide), if_pos (by decide), mr_g4, mr_n4, ← e4, ms_cl (mh_8 _ _ _), mz_b8]
      · refine go (mFold (mSm v 0) 4 (4 * c) 0) (c7.trans ?_) ?_
        · rw [if_neg (by decide), if_neg (by decide), if_pos (by decide), ms_cl (show f_X5_sumOf 0 (nI c) v = _ from hs0.1)]
        · unfold f_X8_chunk_41
          rw [if_neg (by decide), if_neg (by decide), if_neg (by decide), if_pos (by decide), ms_cl (show f_X8_sumOf 0 (nI c) (tm_up w 0 0 0) = _ from hs0.2)]
      · refine go (mFold (mSm v 1) 4 (4 * c) 0) (c7.trans ?_) ?_
        · rw [if_neg (by decide), if_neg (by decide), if_neg (by decide), if_pos (by decide), ms_cl (show f_X5_sumOf 1 (nI c) v = _ from hs1.1)]
        · unfold f_X8_chunk_41
          rw [if_neg (by decide), if_neg (by decide), if_neg (by decide), if_neg (by decide), if_pos (by decide), ms_cl (show f_X8_sumOf 1 (nI c) (tm_up w 0 0 0) = _ from hs1.2)]
      · refine go (mFold (mHe v (nI c)) n 0 0) (c7.trans ?_) ?_
        · rw [if_neg (by decide), if_neg (by decide), if_neg (by decide), if_neg (by decide), if_pos (by decide), ms_cl hh.1]
        · unfold f_X8_chunk_41
          rw [if_neg (by decide), if_neg (by decide), if_neg (by decide), if_neg (by decide), if_neg (by decide), if_pos (by decide), ms_cl hh.2]
      · refine go (if mDb v = 0 then -1 else mFind (fun k => mDf v k = 1) 4 (4 * c)) (c7.trans ?_) ?_
        · rw [if_neg (show ¬ nI 5 = 0 by decide), if_neg (show ¬ nI 5 = 1 by decide), if_neg (show ¬ nI 5 = 2 by decide), if_neg (show ¬ nI 5 = 3 by decide), if_neg (show ¬ nI 5 = 4 by decide), ms_cl hd.1]
          by_cases z : mDb v = 0
          · rw [if_pos z, if_pos z]
          · rw [if_neg z, if_neg z, ms_cl hf.1]
        · unfold f_X8_chunk_41
          rw [if_neg (show ¬ nI 5 = -1 by decide), if_neg (show ¬ nI 5 = 0 by decide), if_neg (show ¬ nI 5 = 1 by decide), if_neg (show ¬ nI 5 = 2 by decide), if_neg (show ¬ nI 5 = 3 by decide), if_neg (show ¬ nI 5 = 4 by decide), ms_cl hd.2]
          by_cases z : mDb v = 0
          · rw [if_pos z, if_pos z]
          · rw [if_neg z, if_neg z, ms_cl hf.2]
end
