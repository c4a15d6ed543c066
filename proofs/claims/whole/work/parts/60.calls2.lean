/-! ===== forms, services, damage; history and saved states; texts ===== -/
theorem mk_form (x1 x2 : Int32) : (∀ v w, f_X7_isForm x1 x2 v = some (0, v) ∧ f_X8_isForm x1 x2 w = some (0, w)) ∨ (mForm x1 x2 ∧ ∀ v w, f_X7_isForm x1 x2 v = some (1, v) ∧ f_X8_isForm x1 x2 w = some (1, w)) := by
  unfold f_X7_isForm f_X8_isForm f_X8_in
  by_cases a1 : x1 = 1
  · subst a1
    by_cases b1 : x2 < 0
    · exact Or.inl fun v w => ⟨by rw [if_neg (by decide), if_pos rfl, if_pos b1], by rw [if_pos rfl, if_pos b1]; rfl⟩
    · by_cases b2 : 999 < x2
      · exact Or.inl fun v w => ⟨by rw [if_neg (by decide), if_pos rfl, if_neg b1, if_pos b2], by rw [if_pos rfl, if_neg b1, if_pos b2]; rfl⟩
      · refine Or.inr ⟨Or.inr (Or.inl ⟨rfl, ?_⟩), fun v w => ⟨by rw [if_neg (by decide), if_pos rfl, if_neg b1, if_neg b2], by rw [if_pos rfl, if_neg b1, if_neg b2]; rfl⟩⟩
        obtain ⟨k, hk, rfl⟩ := nI_of b1
        refine ⟨k, ?_, rfl⟩
        by_cases z : k < 1000
        · exact z
        · exact absurd (show (999 : Int32) < nI k from nI_lt (a := 999) (by omega) hk) b2
  · by_cases a2 : x1 = 2
    · subst a2
      by_cases b1 : x2 < 1
      · exact Or.inl fun v w => ⟨by rw [if_neg (by decide), if_neg (by decide), if_pos rfl, if_pos b1], by rw [if_neg (by decide), if_pos rfl, if_pos b1]; rfl⟩
      · by_cases b2 : 9 < x2
        · exact Or.inl fun v w => ⟨by rw [if_neg (by decide), if_neg (by decide), if_pos rfl, if_neg b1, if_pos b2], by rw [if_neg (by decide), if_pos rfl, if_neg b1, if_pos b2]; rfl⟩
        · refine Or.inr ⟨Or.inr (Or.inr (Or.inl ⟨rfl, ?_⟩)), fun v w => ⟨by rw [if_neg (by decide), if_neg (by decide), if_pos rfl, if_neg b1, if_neg b2], by rw [if_neg (by decide), if_pos rfl, if_neg b1, if_neg b2]; rfl⟩⟩
          have hn : ¬ x2 < 0 := fun q => b1 (by
            rw [Int32.lt_iff_toInt_lt] at q ⊢
            have e0 : (0 : Int32).toInt = 0 := rfl
            have e1 : (1 : Int32).toInt = 1 := rfl
            omega)
          obtain ⟨k, hk, rfl⟩ := nI_of hn
          refine ⟨k, ?_, ?_, rfl⟩
          · by_cases z : k = 0
            · subst z; exact absurd (show nI 0 < 1 by decide) b1
            · omega
          · by_cases z : k < 10
            · exact z
            · exact absurd (show (9 : Int32) < nI k from nI_lt (a := 9) (by omega) hk) b2
    · by_cases a0 : x1 = 0
      · subst a0
        by_cases b : x2 = 0
        · exact Or.inr ⟨Or.inl ⟨rfl, b⟩, fun v w => ⟨by rw [if_pos rfl, if_pos b], by rw [if_neg (by decide), if_neg (by decide), if_neg (by decide), if_neg (by decide), tS_cl, if_neg mr_10, if_pos b]⟩⟩
        · exact Or.inl fun v w => ⟨by rw [if_pos rfl, if_neg b], by rw [if_neg (by decide), if_neg (by decide), if_neg (by decide), if_neg (by decide), tS_cl, if_neg mr_10, if_neg b]⟩
      · by_cases a3 : x1 = 3
        · subst a3
          by_cases b : x2 = 0
          · exact Or.inr ⟨Or.inr (Or.inr (Or.inr ⟨rfl, b⟩)), fun v w => ⟨by rw [if_neg (by decide), if_neg (by decide), if_neg (by decide), if_pos rfl, if_pos b], by rw [if_neg (by decide), if_neg (by decide), if_neg (by decide), if_neg (by decide), tS_cl, if_neg mr_10, if_pos b]⟩⟩
          · exact Or.inl fun v w => ⟨by rw [if_neg (by decide), if_neg (by decide), if_neg (by decide), if_pos rfl, if_neg b], by rw [if_neg (by decide), if_neg (by decide), if_neg (by decide), if_neg (by decide), tS_cl, if_neg mr_10, if_neg b]⟩
        · refine Or.inl fun v w => ⟨by rw [if_neg a0, if_neg a1, if_neg a2, if_neg a3], ?_⟩
          rw [if_neg a1, if_neg a2]
          by_cases c0 : x1 < 0
          · rw [if_pos c0, tS_cl, if_pos rfl]
          · by_cases c3 : 3 < x1
            · rw [if_neg c0, if_pos c3, tS_cl, if_pos rfl]
            · exfalso
              obtain ⟨k, hk, rfl⟩ := nI_of c0
              have : k < 4 := by
                by_cases z : k < 4
                · exact z
                · exact absurd (show (3 : Int32) < nI k from nI_lt (a := 3) (by omega) hk) c3
              rcases (show k = 0 ∨ k = 1 ∨ k = 2 ∨ k = 3 by omega) with rfl | rfl | rfl | rfl
              · exact a0 rfl
              · exact a1 rfl
              · exact a2 rfl
              · exact a3 rfl
/-- answers of calls that give nothing -/
def mAu (B : Nat) (v : tmM) (bs : List Int32) (w : tmM) (h0 h1 h2 : Option Int32) (o7 : Option tmR) (o8 : Option (Unit × tmM)) : Prop := (∃ (i : Nat) (c x : Int32) (w' : tmM), o7 = some ((i + 1, x), v) ∧ (∀ y, tl_kx h0 h1 h2 i y = some (c, y)) ∧ o8 = some ((), w') ∧ w' 0 0 = c ∧ mG B v bs w') ∨ (∃ (r : Int32) (v' w' : tmM), o7 = some ((0, r), v') ∧ o8 = some ((), w') ∧ w' 0 0 = 0 ∧ mG B v' bs w')
theorem mq_ansU {B B' : Nat} (hB : B ≤ B') {v w : tmM} {bs : List Int32} {h0 h1 h2 : Option Int32} {o7 : Option tmR} {o8 : Option (Unit × tmM)} (h : mAu B v bs w h0 h1 h2 o7 o8) (xo : Int64) (xd : UInt64) : ∃ (k : Int32) (xo' : Int64) (xd' : UInt64) (v' : tmM) (bs' : List Int32) (w1 w2 : tmM), tl_cx o7 (fun _ v' => some (0, ((xo, xd), (v', bs)))) (fun i v' => tl_kx h0 h1 h2 i ((xo, xd), (v', bs))) = some (k, ((xo', xd'), (v', bs'))) ∧ o8 = some ((), w1) ∧ f_X8_thrown w1 = some (k, w2) ∧ mG B' v' bs' w2 := by
  rcases h with ⟨i, c, x, w', a1, a2, a4, a5, a6⟩ | ⟨r, v', w', a1, a2, a3, a4⟩
  · refine ⟨c, xo, xd, v, bs, w', w', ?_, a4, ?_, mG_mono hB a6⟩
    · rw [a1]; exact a2 _
    · unfold f_X8_thrown; rw [a5]
  · refine ⟨0, xo, xd, v', bs, w', w', ?_, a2, ?_, mG_mono hB a4⟩
    · rw [a1]; rfl
    · unfold f_X8_thrown; rw [a3]
section
variable {B : Nat} {v w : tmM} {bs : List Int32}
theorem mEu {h0 h1 h2 : Option Int32} {o7 : Option tmR} {o8 : Option (Unit × tmM)} (h : mG B v bs w) {i : Nat} {c : Int32} (e7 : o7 = some ((i + 1, 0), v)) (ek : ∀ y, tl_kx h0 h1 h2 i y = some (c, y)) (e8 : o8 = some ((), tm_up w 0 0 c)) : mAu B v bs w h0 h1 h2 o7 o8 := Or.inl ⟨i, c, 0, _, e7, ek, e8, mu_eq _ _ _ _, mG_reg h (by decide) c⟩
/-- the form is set -/
theorem mm_form (h : rP B v (w 1)) (h0 : v 0 0 = 0) {x1 x2 : Int32} (hf : mForm x1 x2) : rP B (tm_up (tm_up v 1 0 x1) 1 1 x2) (tm_up (tm_up w 1 1 x1) 1 2 x2 1) := by
  obtain ⟨i1, i2, i3, i4, i5, i6, i7, i8⟩ := h.2.2.2.2.2.2
  have hr : ∀ j, j ≠ 1 → j ≠ 2 → tm_up (tm_up w 1 1 x1) 1 2 x2 1 j = w 1 j := fun j a b => by rw [mu_ne (by omega), mu_ne (by omega)]
  have hv : ∀ c j, c ≠ 1 → tm_up (tm_up v 1 0 x1) 1 1 x2 c j = v c j := fun c j a => by rw [mu_ne (by omega), mu_ne (by omega)]
  have e1 : tm_up (tm_up w 1 1 x1) 1 2 x2 1 1 = x1 := by rw [mu_ne (by omega), mu_eq]
  have e2 : tm_up (tm_up w 1 1 x1) 1 2 x2 1 2 = x2 := by rw [mu_eq]
  obtain ⟨s1, s2, s3, s4, s5, s6, s7⟩ := h.1
  refine rP_scal h (fun c j _ b => hv c j b) (fun j hj => hr j (by omega) (by omega)) ⟨?_, ?_, ?_, ?_, ?_, ?_, ?_⟩ ⟨?_, ?_, ?_, ?_, ?_, ?_, fun k hk => ?_, ?_⟩ (fun q => ?_) (fun n _ i _ a _ _ q => ?_)
  · rw [hv 0 _ (by decide), hr 0 (by omega) (by omega)]; exact s1
  · rw [hv 0 _ (by decide), hr 6 (by omega) (by omega)]; exact s2
  · rw [hv 0 _ (by decide), hr 3 (by omega) (by omega)]; exact s3
  · rw [hv 0 _ (by decide), hr 4 (by omega) (by omega)]; exact s4
  · rw [hv 0 _ (by decide), hr 5 (by omega) (by omega)]; exact s5
  · rw [e1, mu_ne (by omega), mu_eq]
  · rw [e2, mu_eq]
  · rw [hr 0 (by omega) (by omega)]; exact i1
  · rw [hr 6 (by omega) (by omega)]; exact i2
  · rw [hr 3 (by omega) (by omega)]; exact i3
  · rw [hr 4 (by omega) (by omega)]; exact i4
  · rw [hr 5 (by omega) (by omega)]; exact i5
  · rw [e1, e2]; exact hf
  · rw [hr _ (by omega) (by omega)]; exact i7 k hk
  · rw [hr 0 (by omega) (by omega), hr 7 (by omega) (by omega), hr 3 (by omega) (by omega), hr 4 (by omega) (by omega)]; exact i8
  · rw [hr 0 (by omega) (by omega)] at q; exact q
  · rw [hr 4 (by omega) (by omega)]; exact q
theorem mt_setForm (h : mG B v bs w) (x1 x2 : Int32) : mAu B v bs w none (some 1) (some 2) (f_X7_setForm x1 x2 v) (f_X8_setForm x1 x2 w) := by
  have h0 := mG_0 h
  have hp := (mr_phase h.1).1
  unfold f_X7_setForm f_X8_setForm f_X7_setForm_23 f_X8_setForm_27
  rcases mk_form x1 x2 with e | ⟨hf, e⟩
  · refine mEu h (i := 1) (c := 1) ?_ (fun _ => rfl) ?_
    · rw [ms_cl (e v w).1, mx_a0]
    · rw [ms_cl (e v w).2, if_pos rfl, tS_lt, if_neg mz_le1]
  · by_cases q : v 0 0 = 0
    · obtain ⟨v1, w1, b1, b2, b3, b4⟩ := mG_rem h0
      have e0 : v1 0 0 = 0 := by rw [b4.1 0 (by omega)]; exact q
      refine Or.inr ⟨0, tm_up (tm_up v1 1 0 x1) 1 1 x2, tm_up (tm_up w1 1 1 x1) 1 2 x2, ?_, ?_, ?_, ?_⟩
      · rw [ms_cl (e v w).1, mx_a1, if_pos q, mx_s1, ms_cl b1, tS_lt, tS_lt]
      · rw [ms_cl (e v w).2, if_neg mr_10, mr_g0, mr_n0, ← hp, if_pos q, tS_lt, if_pos mz_le0, ms_cl b2, ms_g (by decide), tS_lt, ms_g (by decide), tS_lt]
        rfl
      · rw [tu_ne _ _ _ (by decide), tu_ne _ _ _ (by decide), b4.2.2.2 0 (by decide), mu_eq]
      · exact mG_step (Nat.le_refl B) b3 (((mFr.refl v1 w1).up (by decide)).up (by decide)) (mm_form b3.1 e0 hf)
    · refine mEu h (i := 2) (c := 2) ?_ (fun _ => rfl) ?_
      · rw [ms_cl (e v w).1, mx_a1, if_neg q, mx_s0]
      · rw [ms_cl (e v w).2, if_neg mr_10, mr_g0, mr_n0, ← hp, if_neg q, tS_lt, if_neg mz_le2]
theorem mt_setUp (h : mG B v bs w) (x1 x2 : Int32) (hx : x2 = 0 ∨ x2 = 1) : mAn B v bs w (some 1) none none (f_X7_setUp x1 x2 v) (f_X8_setUp x1 x2 w) := by
  have h0 := mG_0 h
  unfold f_X7_setUp f_X8_setUp f_X8_setUp_15
  rcases mk_side x1 with e | ⟨s, hs, rfl, e⟩
  · refine mE h (i := 0) (c := 1) ?_ (fun _ => rfl) (by decide) ?_
    · rw [ms_cl (e v w).1, mx_i0]
    · rw [ms_cl (e v w).2.2.2, if_pos rfl, tS_lt, if_neg mz_le1]
  · obtain ⟨v1, w1, b1, b2, b3, b4⟩ := mG_rem h0
    obtain ⟨t3, t4, t5, t6, u3, u4, u5, u6⟩ := mz_cs b3.1
    have e1 : v1 0 1 = v 0 1 := by rw [b4.1 0 (by omega)]
    have hi : w1 0 0 = 0 := by rw [b4.2.2.2 0 (by decide), mu_eq]
    rcases hx with rfl | rfl
    · have z := mb_clrI (N := 4) (c := s) (by decide) u6 (by omega)
      refine Or.inr ⟨mHas (v 0 1) (nI s), tm_up v1 0 1 (w1 1 6 &&& ((1 <<< (nI s &&& 31)) ^^^ (-1))), tm_up w1 1 6 (w1 1 6 &&& ((1 <<< (nI s &&& 31)) ^^^ (-1))), ?_, ?_, ?_, ?_⟩
      · rw [ms_cl (e v w).1, mx_i1, ms_cl (mh_7 _ _ _), ms_cl b1, if_pos rfl, tS_lt, ms_g (mh_bi _ _), t6]
      · rw [ms_cl (e v w).2.2.2, if_neg mr_10, tS_lt, if_pos mz_le0, ms_cl b2, ms_cl (mr_up8 b3.1 _), if_pos rfl, mr_g6, mr_g6, tS_lt, ms_g (mh_bi _ _), mr_n6, e1]
      · rw [tu_ne _ _ _ (by decide)]; exact hi
      · exact mG_step (Nat.le_refl B) b3 ((mFr.refl v1 w1).up (by decide)) (mm_bits6 b3.1 z.1)
    · have z := mb_setI (m := 2) (c := s) (by decide) u6 (by omega)
      refine Or.inr ⟨mHas (v 0 1) (nI s), tm_up v1 0 1 (w1 1 6 ||| (1 <<< (nI s &&& 31))), tm_up w1 1 6 (w1 1 6 ||| (1 <<< (nI s &&& 31))), ?_, ?_, ?_, ?_⟩
      · rw [ms_cl (e v w).1, mx_i1, ms_cl (mh_7 _ _ _), ms_cl b1, if_neg mr_10, tS_lt, ms_g (mh_bi _ _), t6]
      · rw [ms_cl (e v w).2.2.2, if_neg mr_10, tS_lt, if_pos mz_le0, ms_cl b2, ms_cl (mr_up8 b3.1 _), if_neg mr_10, mr_g6, mr_g6, tS_lt, ms_g (mh_bi _ _), mr_n6, e1]
      · rw [tu_ne _ _ _ (by decide)]; exact hi
      · exact mG_step (Nat.le_refl B) b3 ((mFr.refl v1 w1).up (by decide)) (mm_bits6 b3.1 z.1)
/-- a raw number is put into the new table -/
theorem mm_raw (h : rP B v (w 1)) {k : Nat} (hk : k < 60) (x : Int32) : rP B (tm_up v 4 k x) (tm_up w 1 (71 + k) x 1) := by
  obtain ⟨hS, ⟨t1, t2, t3⟩, hA, ⟨n, hQ⟩, ⟨e, hE⟩, hW, hI⟩ := h
  have hr : ∀ j, j ≠ 71 + k → tm_up w 1 (71 + k) x 1 j = w 1 j := fun j hj => mu_ne (Or.inr hj)
  have hv : ∀ c j, c ≠ 4 → tm_up v 4 k x c j = v c j := fun c j hc => mu_ne (Or.inl hc)
  refine ⟨rS_ext (fun c j hc => hv c j (by omega)) (fun j hj => hr j (by omega)) hS, ⟨fun i hi => ?_, fun i hi => ?_, fun i hi => ?_⟩, rA_ext (fun c j hc _ => hv c j (by omega)) (fun j hj => hr j (by omega)) hA, ⟨n, rQn_ext (fun c j hc => hv c j (by omega)) (fun j hj => hr j (by omega)) hQ⟩, ⟨e, rEn_ext (fun c j hc => hv c j (by omega)) (fun j hj => hr j (by omega)) hE⟩, rW_ext (fun c j hc => hv c j (by omega)) (fun j hj => hr j (by omega)) hW, rI_ext (fun j hj => hr j (by omega)) hI⟩
  · rw [hv 3 i (by omega), hr _ (by omega)]; exact t1 i hi
  · rw [mu_if, mu_if]
    by_cases q : i = k
    · rw [if_pos ⟨rfl, q⟩, if_pos ⟨rfl, by omega⟩]
    · rw [if_neg (by omega), if_neg (by omega)]; exact t2 i hi
  · rw [hv 18 i (by omega), hr _ (by omega)]; exact t3 i hi
theorem mt_damage (h : mG B v bs w) (x1 x2 : Int32) : mAn B v bs w (some 1) (some 2) (some 3) (f_X7_damage x1 x2 v) (f_X8_damage x1 x2 w) := by
  have h0 := mG_0 h
  have hp := (mr_phase h.1).1
  unfold f_X7_damage f_X8_damage f_X7_damage_23 f_X7_damage_24 f_X7_damage_42 f_X8_damage_41 f_X8_in
  rcases mk_key x1 with e | ⟨k, hk, rfl, e⟩
  · refine mE h (i := 0) (c := 1) ?_ (fun _ => rfl) (by decide) ?_
    · rw [ms_cl (e v w).1, mx_i0]
    · rw [ms_cl (e v w).2, if_pos rfl, tS_lt, if_neg mz_le1]
  · by_cases c1 : x2 < -1
    · refine mE h (i := 1) (c := 2) ?_ (fun _ => rfl) (by decide) ?_
      · rw [ms_cl (e v w).1, mx_i1, if_pos c1, mx_a0]
      · rw [ms_cl (e v w).2, if_neg mr_10, if_pos c1, tS_cl, if_pos rfl, tS_lt, if_neg mz_le2]
    · by_cases c2 : 9999 < x2
      · refine mE h (i := 1) (c := 2) ?_ (fun _ => rfl) (by decide) ?_
        · rw [ms_cl (e v w).1, mx_i1, if_neg c1, if_pos c2, mx_a0]
        · rw [ms_cl (e v w).2, if_neg mr_10, if_neg c1, if_pos c2, tS_cl, if_pos rfl, tS_lt, if_neg mz_le2]
      · by_cases q : v 0 0 = 0
        · refine mE h (i := 2) (c := 3) ?_ (fun _ => rfl) (by decide) ?_
          · rw [ms_cl (e v w).1, mx_i1, if_neg c1, if_neg c2, mx_a1, if_pos q, mx_s0]
          · rw [ms_cl (e v w).2, if_neg mr_10, if_neg c1, if_neg c2, tS_cl, if_neg mr_10, mr_g0, mr_n0, ← hp, if_pos q, tS_lt, if_neg mz_le3]
        · obtain ⟨v1, w1, b1, b2, b3, b4⟩ := mG_rem h0
          have hi : w1 0 0 = 0 := by rw [b4.2.2.2 0 (by decide), mu_eq]
          have e71 : w1 1 (71 + k) = v 4 k := by rw [← b3.1.2.1.2.1 k hk, b4.1 4 (by omega)]
          refine Or.inr ⟨v 4 k, tm_up v1 4 k x2, tm_up w1 1 (71 + k) x2, ?_, ?_, ?_, ?_⟩
          · rw [ms_cl (e v w).1, mx_i1, if_neg c1, if_neg c2, mx_a1, if_neg q, mx_s1, ms_g (by decide), tS_lt, ms_gi hk (by decide), tS_lt, ms_cl b1, ms_g (by decide), tS_lt, ms_gi hk (by decide), tS_lt, nI_clamp (by omega)]
            rfl
          · rw [ms_cl (e v w).2, if_neg mr_10, if_neg c1, if_neg c2, tS_cl, if_neg mr_10, mr_g0, mr_n0, ← hp, if_neg q, tS_lt, if_pos mz_le0, ms_cl b2, mz_71, ms_gi (by omega) (by decide), tS_lt, ms_gi (by omega) (by decide), tS_lt, nI_clamp (by omega), e71]
          · rw [tu_ne _ _ _ (by decide)]; exact hi
          · exact mG_step (Nat.le_refl B) b3 ((mFr.refl v1 w1).up (by decide)) (mm_raw b3.1 hk x2)
/-! saved states, undo -/
theorem mz_slot {s : Nat} (hs : s < 2) : ([209, 228] : List Nat).getD (nI s).toNatClampNeg 0 = 209 + 19 * s := by
  rcases (show s = 0 ∨ s = 1 by omega) with rfl | rfl <;> rfl
theorem mt_save (h : mG B v bs w) (x1 : Int32) : mAu B v bs w none (some 1) none (f_X7_save x1 v) (f_X8_save x1 w) := by
  have h0 := mG_0 h
  unfold f_X7_save f_X8_save f_X8_save_15
  rcases mk_side x1 with e | ⟨s, hs, rfl, e⟩
  · refine mEu h (i := 1) (c := 1) ?_ (fun _ => rfl) ?_
    · rw [ms_cl (e v w).2.1, mx_a0]
    · rw [ms_cl (e v w).2.2.2, if_pos rfl, tS_lt, if_neg mz_le1]
  · obtain ⟨v1, b1, b2, b3⟩ := mc_become (k1 := 209 + 19 * s) (k2 := 0) (by omega) v
    have c1 := mc_copies (k1 := 1) (l1 := 491) (k2 := 3) (l2 := 982) (a := 0) (b := 491 * s) (n := 491) (by omega) (by omega) (by decide) (by decide) (by decide) (by omega) (tm_up w 0 0 0)
    generalize hw1 : mCp (tm_up w 0 0 0) 1 3 0 (491 * s) 491 = w1 at c1
    obtain ⟨g1, g2, g3, g4, g5, g6, g7⟩ := h0
    obtain ⟨m, m1, m2, m3⟩ := g3
    have hmk : ∃ k, k < 2 ^ 2 ∧ v 247 5 = nI k := ⟨m, m1, m2⟩
    have z := mb_setI (m := 2) (c := s) (by decide) hmk (by omega)
    obtain ⟨⟨m', n1, n2⟩, z2⟩ := z
    have ew : ∀ c, c ≠ 3 → w1 c = tm_up w 0 0 0 c := fun c hc => by rw [← hw1, mCp_ne hc]
    have ew2 : ∀ c, c ≠ 3 → c ≠ 4 → tm_up w1 4 s 1 c = tm_up w 0 0 0 c := fun c hc h4 => by rw [tu_ne _ _ _ h4, ew c hc]
    have e0 := ew2 0 (by decide) (by decide)
    refine Or.inr ⟨0, tm_up v1 247 5 (v 247 5 ||| (1 <<< (nI s &&& 31))), tm_up w1 4 s 1, ?_, ?_, ?_, ?_, ?_, ?_, ?_, ?_, ?_, ?_⟩
    · rw [ms_cl (e v w).2.1, mx_a1, ms_gi hs (by decide), tS_lt, mz_slot hs, ms_cl b1, tS_lt, b3 247 (by omega)]
    · rw [ms_cl (e v w).2.2.2, if_neg mr_10, tS_lt, if_pos mz_le0, show (491 : Int32) * nI s = nI (491 * s) from pk_mul 491 s, ms_cl (show f_X8_copies 1 491 3 982 0 (nI (491 * s)) 491 (tm_up w 0 0 0) = _ from c1), ms_gi hs (by decide), tS_lt, nI_clamp (by omega)]
      rfl
    · rw [e0, mu_eq]
    · rw [ew2 1 (by decide) (by decide)]
      exact rP_ext (fun c j hc => by rw [tu_ne _ _ _ (show c ≠ 247 by unfold mU at hc; omega), b3 c (by unfold mU at hc; omega)]) (fun _ _ => rfl) g1
    · exact gH_ext (Nat.le_refl B) (fun c x y => by rw [tu_ne _ _ _ (by omega), b3 c (by omega)]) (by rw [mu_ne (by omega), b3 247 (by omega)]) (by rw [mu_ne (by omega), b3 247 (by omega)]) (by rw [e0]) (ew2 2 (by decide) (by decide)) g2
    · refine ⟨m', n1, by rw [mu_eq, n2], fun t ht => ?_⟩
      rw [← n2, z2 t (by omega), ← m2] at *
      obtain ⟨p1, p2⟩ := m3 t ht
      by_cases q : t = s
      · subst q
        refine ⟨by rw [mu_eq, if_pos rfl], fun _ => ?_⟩
        refine rP_ext (fun c j hc => ?_) (fun j hj => ?_) g1
        · have hc19 : c < 19 := by unfold mU at hc; omega
          show tm_up v1 247 5 _ (209 + 19 * t + c) j = v c j
          rw [mu_ne (by omega), b2 c j hc, Nat.zero_add]
        · show tm_up w1 4 t 1 3 (491 * t + j) = tm_up w 0 0 0 1 j
          rw [tu_ne _ _ _ (by decide), ← hw1, mCp_at, if_pos (by omega), Nat.zero_add, Nat.add_sub_cancel_left]
      · rw [if_neg q]
        refine ⟨?_, fun hb => ?_⟩
        · rw [mu_ne (by omega), ew 4 (by decide)]; exact p1
        · refine rP_ext (fun c j hc => ?_) (fun j hj => ?_) (p2 hb)
          · have hc19 : c < 19 := by unfold mU at hc; omega
            show tm_up v1 247 5 _ (209 + 19 * t + c) j = v (209 + 19 * t + c) j
            rw [mu_ne (by omega), b3 _ (by omega)]
          · show tm_up w1 4 s 1 3 (491 * t + j) = tm_up w 0 0 0 3 (491 * t + j)
            rw [tu_ne _ _ _ (by decide), ← hw1, mCp_at, if_neg (by omega)]
    · exact gA_ext (by rw [tu_ne _ _ _ (by decide), b3 250 (by omega)]) (ew2 5 (by decide) (by decide)) g4
    · exact gT_ext (by rw [tu_ne _ _ _ (by decide), b3 251 (by omega)]) (by rw [tu_ne _ _ _ (by decide), b3 252 (by omega)]) (ew2 8 (by decide) (by decide)) (by rw [e0]) (by rw [e0]) (by rw [e0]) g5
    · exact gO_ext (by rw [e0]) (ew2 6 (by decide) (by decide)) g6
    · exact gC_ext (ew2 7 (by decide) (by decide)) (ew2 9 (by decide) (by decide)) g7
end
