/-! ===== copy, repair, check, readers, lead, back ===== -/
theorem mz_cs {B : Nat} {v w : tmM} (h : rP B v (w 1)) : v 0 2 = w 1 3 ∧ v 0 3 = w 1 4 ∧ v 0 4 = w 1 5 ∧ v 0 1 = w 1 6 ∧ (∃ k, k < 32768 ∧ w 1 3 = nI k) ∧ (∃ k, k < 32768 ∧ w 1 4 = nI k) ∧ (∃ k, k < 256 ∧ w 1 5 = nI k) ∧ ∃ k, k < 4 ∧ w 1 6 = nI k := by
  obtain ⟨⟨s1, s2, s3, s4, s5, s6, s7⟩, _, _, _, _, _, ⟨i1, i2, i3, i4, i5, i6, i7, i8⟩⟩ := h
  exact ⟨s3, s4, s5, s2, i3, i4, i5, i2⟩
theorem ma_chunk {B : Nat} (K0 : Int32 → Int32 → tmM → Option (Unit × tmM)) (K8 : Int32 → Int32 → Int32 → tmM → Option (Int32 × tmM)) (x2 y2 y3 : Int32) {c : Nat} (hc : c < 15) : ∀ (d i F : Nat) (v w : tmM), d + i = 4 * c + 4 → d < F → rP B v (w 1) → ∃ v' w', f_X4_copyLowest_34 K0 F x2 (nI c) (nI i) v = K0 x2 (nI c) v' ∧ f_X8_copiesChunks_60 K8 F y2 y3 (nI c) (nI i) w = K8 y2 y3 (nI c) w' ∧ rP B v' (w' 1) ∧ mFr v w v' w' ∧ ∀ j, v' 0 j = v 0 j := by
  intro d
  induction d with
  | zero =>
    intro i F v w hd hF h
    obtain ⟨F, rfl⟩ : ∃ G, F = G + 1 := ⟨F - 1, by omega⟩
    refine ⟨v, w, ?_, ?_, h, mFr.refl v w, fun _ => rfl⟩
    · show f_X4_copyLowest_34b _ _ x2 (nI c) (nI i) v = _
      unfold f_X4_copyLowest_34b
      rw [ms_cl (mz_lk c v), if_pos (nI_lt (by omega) (by omega))]
    · show f_X8_copiesChunks_60b _ _ y2 y3 (nI c) (nI i) w = _
      unfold f_X8_copiesChunks_60b
      rw [mz_4c4, if_pos (nI_le (by omega) (by omega))]
  | succ d ih =>
    intro i F v w hd hF h
    obtain ⟨F, rfl⟩ : ∃ G, F = G + 1 := ⟨F - 1, by omega⟩
    obtain ⟨v1, w1, b1, b2, b3, b4, b5⟩ := mm_same h (k := i) (by omega)
    obtain ⟨v', w', a1, a2, a3, a4, a5⟩ := ih (i + 1) F v1 w1 (by omega) (by omega) b3
    refine ⟨v', w', ?_, ?_, a3, b4.trans a4, fun j => (a5 j).trans (b5 j)⟩
    · show f_X4_copyLowest_34b _ _ x2 (nI c) (nI i) v = _
      unfold f_X4_copyLowest_34b
      rw [ms_cl (mz_lk c v), if_neg (nI_nlt (by omega) (by omega)), ms_cl b1, nI_1, a1]
    · show f_X8_copiesChunks_60b _ _ y2 y3 (nI c) (nI i) w = _
      unfold f_X8_copiesChunks_60b
      rw [mz_4c4, if_neg (nI_ge (by omega) (by omega)), ms_cl b2, nI_1, a2]
theorem mz_no03 {B : Nat} {v w : tmM} (h : rP B v (w 1)) (hd : v 0 0 = 1 ∨ v 0 0 = 2) : ¬ (w 1 0 = 0 ∨ w 1 0 = 3) := by
  rw [← (mr_phase h).1]
  rcases hd with q | q <;> rw [q] <;> decide
theorem ma_copy {B : Nat} : ∀ (d i F m : Nat) (v w : tmM), d + i = 15 → d < F → m < 16 → rP B v (w 1) → (v 0 0 = 1 ∨ v 0 0 = 2) → ∃ v' w', f_X4_copyLowest_4 (fun v16 => some ((), v16)) F (nI m) (nI i) v = some ((), v') ∧ f_X8_copiesChunks_26 (fun x18 v19 => some (x18, v19)) F 0 (nI m) (nI i) w = some (0, w') ∧ rP B v' (w' 1) ∧ mFr v w v' w' := by
  intro d
  induction d with
  | zero =>
    intro i F m v w hd hF hm h h0
    obtain ⟨F, rfl⟩ : ∃ G, F = G + 1 := ⟨F - 1, by omega⟩
    have e : (15 : Int32) ≤ nI i := nI_le (a := 15) (by omega) (by omega)
    refine ⟨v, w, ?_, ?_, h, mFr.refl v w⟩
    · show f_X4_copyLowest_4b _ _ (nI m) (nI i) v = _
      unfold f_X4_copyLowest_4b
      rw [if_pos e]
    · show f_X8_copiesChunks_26b _ _ 0 (nI m) (nI i) w = _
      unfold f_X8_copiesChunks_26b
      rw [if_pos e]
  | succ d ih =>
    intro i F m v w hd hF hm h h0
    obtain ⟨F, rfl⟩ : ∃ G, F = G + 1 := ⟨F - 1, by omega⟩
    have e : ¬ (15 : Int32) ≤ nI i := nI_ge (b := 15) (by omega) (by decide)
    show ∃ v' w', f_X4_copyLowest_4b _ _ (nI m) (nI i) v = _ ∧ f_X8_copiesChunks_26b _ _ 0 (nI m) (nI i) w = _ ∧ _
    unfold f_X4_copyLowest_4b f_X8_copiesChunks_26b
    rw [if_neg e, if_neg e]
    by_cases hm0 : m = 0
    · subst hm0
      rw [if_pos (by decide), if_pos (by decide)]
      exact ⟨v, w, rfl, rfl, h, mFr.refl v w⟩
    · have e0 : ¬ nI m ≤ 0 := nI_nle (by omega) (by omega)
      obtain ⟨s3, s4, _⟩ := mz_cs h
      rw [if_neg e0, if_neg e0, ms_cl (mh_7 _ _ _), mr_g3, mr_n3', ms_cl (mh_8 _ _ _), ← s3]
      unfold f_X4_copyLowest_93 f_X8_copiesChunks_121
      by_cases hb : mHas (v 0 2) (nI i) = 0
      · rw [if_pos hb, if_pos hb, ms_cl (mz_fk i v), mz_4c, tS_lt]
        obtain ⟨v1, w1, b1, b2, b3, b4, b5⟩ := ma_chunk (B := B) (fun x9 x10 v11 => tm_lt (tm_up v11 0 2 ((v11 0 2) ||| (1 <<< (x10 &&& 31)))) fun v12 => tm_lt (tm_up v12 0 3 ((v12 0 3) &&& ((1 <<< (x10 &&& 31)) ^^^ (-1)))) fun v13 => tm_cl (f_X1_add 2 x10 v13) fun _ v14 => f_X4_copyLowest_4 (fun v16 => some ((), v16)) F (x9 + (-1)) (x10 + 1) v14) (fun x10 x11 x12 v13 => tm_g (tm_ix 3 491) (tm_g (tm_ix 3 491) (tm_lt (tm_up v13 1 (3 : Int32).toNatClampNeg ((v13 1 (3 : Int32).toNatClampNeg) ||| (1 <<< (x12 &&& 31)))) fun v14 => tm_g (tm_ix 4 491) (tm_g (tm_ix 4 491) (tm_lt (tm_up v14 1 (4 : Int32).toNatClampNeg ((v14 1 (4 : Int32).toNatClampNeg) &&& ((1 <<< (x12 &&& 31)) ^^^ (-1)))) fun v15 => tm_cl (f_X8_notes 2 x12 v15) fun _ v16 => f_X8_copiesChunks_26 (fun x18 v19 => some (x18, v19)) F x10 (x11 + (-1)) (x12 + 1) v16))))) (nI m) 0 (nI m) (c := i) (by omega) 4 (4 * i) 10000 v w (by omega) (by decide) h
        have h1 : v1 0 0 = 1 ∨ v1 0 0 = 2 := by rw [b5]; exact h0
        obtain ⟨t3, t4, _, _, u3, u4, _⟩ := mz_cs b3
        have z3 := mb_setI (m := 15) (c := i) (by decide) u3 (by omega)
        have z4 := mb_clrI (N := 32768) (c := i) (by decide) u4 (by omega)
        have c1 := mm_bits3 b3 (x := w1 1 3 ||| (1 <<< (nI i &&& 31))) z3.1 (fun q => absurd q (mz_no03 b3 h1))
        have w4 : tm_up w1 1 3 (w1 1 3 ||| (1 <<< (nI i &&& 31))) 1 4 = w1 1 4 := mu_ne (by omega)
        have c2 := mm_bits4 c1 (x := w1 1 4 &&& ((1 <<< (nI i &&& 31)) ^^^ (-1))) z4.1 (fun q => absurd (by rw [mu_ne (by omega)] at q; exact q) (mz_no03 b3 h1)) (fun n _ k _ a ha _ q => by
          rw [w4] at q
          rw [z4.2 _ (by omega)]
          by_cases s : a / 4 = i
          · exact if_pos s
          · rw [if_neg s]; exact q)
        obtain ⟨v2, w2, d1, d2, d3, d4⟩ := me_ev c2 2 (nI i)
        have h2 : v2 0 0 = 1 ∨ v2 0 0 = 2 := by
          have : v2 0 0 = v1 0 0 := by rw [d4.1 0 0 (by omega) (by omega) (by omega), mu_ne (by omega), mu_ne (by omega)]
          rw [this]; exact h1
        obtain ⟨m, rfl⟩ : ∃ m', m = m' + 1 := ⟨m - 1, by omega⟩
        obtain ⟨v', w', f1, f2, f3, f4⟩ := ih (i + 1) F m v2 w2 (by omega) (by omega) (by omega) d3 h2
        have em : nI (m + 1) + (-1) = nI m := (Int32.sub_eq_add_neg (nI (m + 1)) 1).symm.trans (nI_pred m)
        refine ⟨v', w', ?_, ?_, f3, b4.trans (((((mFr.refl v1 w1).up (by decide)).up (by decide)).trans d4.fr).trans f4)⟩
        · refine b1.trans ?_
          rw [tS_lt, tS_lt, mu_ne (by omega), t3, t4, ms_cl d1, em, nI_1, f1]
        · refine b2.trans ?_
          rw [mr_g3, mr_g3, tS_lt, mr_g4, mr_g4, tS_lt, mr_n3', mr_n4, w4, ms_cl d2, em, nI_1, f2]
      · rw [if_neg hb, if_neg hb, nI_1]
        exact ih (i + 1) F m v w (by omega) (by omega) hm h h0
theorem ma_repair {B : Nat} {m : Nat} (hm : m < 16) : ∀ (d i F : Nat) (v w : tmM), d + i = m → d < F → rP B v (w 1) → ∃ v' w', f_X4_repairFirst_2 (fun v6 => some ((), v6)) F (nI m) (nI i) v = some ((), v') ∧ f_X8_repairs_23 (fun x10 v11 => some (x10, v11)) F (nI m) 0 (nI i) w = some (0, w') ∧ rP B v' (w' 1) ∧ mFr v w v' w' := by
  intro d
  induction d with
  | zero =>
    intro i F v w hd hF h
    obtain ⟨F, rfl⟩ : ∃ G, F = G + 1 := ⟨F - 1, by omega⟩
    have e : nI m ≤ nI i := nI_le (by omega) (by omega)
    refine ⟨v, w, ?_, ?_, h, mFr.refl v w⟩
    · show f_X4_repairFirst_2b _ _ (nI m) (nI i) v = _
      unfold f_X4_repairFirst_2b
      rw [if_pos e]
    · show f_X8_repairs_23b _ _ (nI m) 0 (nI i) w = _
      unfold f_X8_repairs_23b
      rw [if_pos e]
  | succ d ih =>
    intro i F v w hd hF h
    obtain ⟨F, rfl⟩ : ∃ G, F = G + 1 := ⟨F - 1, by omega⟩
    have e : ¬ nI m ≤ nI i := nI_ge (by omega) (by omega)
    have hq := (mr_qlen h).1
    show ∃ v' w', f_X4_repairFirst_2b _ _ (nI m) (nI i) v = _ ∧ f_X8_repairs_23b _ _ (nI m) 0 (nI i) w = _ ∧ _
    unfold f_X4_repairFirst_2b f_X8_repairs_23b
    rw [if_neg e, if_neg e, mr_g7, mr_n7, ← hq]
    by_cases h8 : v 8 1 ≤ 0
    · rw [if_pos h8, if_pos h8]
      exact ⟨v, w, rfl, rfl, h, mFr.refl v w⟩
    · obtain ⟨n, q1, q2, q3, q4, q5, q6⟩ := h.2.2.2.1
      have hn : 0 < n := by
        rw [q2] at h8
        by_cases z : n = 0
        · subst z; exact absurd (by decide) h8
        · omega
      obtain ⟨k, hk, hk2, _⟩ := q5 0 hn
      have hk3 : v 9 0 = nI k := (q4 0 hn).trans hk2
      obtain ⟨v1, w1, b1, b2, b3, b4, _⟩ := mm_same h hk
      obtain ⟨v2, w2, c1, c2, c3, c4⟩ := me_ev b3 3 (nI k)
      obtain ⟨v', w', f1, f2, f3, f4⟩ := ih (i + 1) F v2 w2 (by omega) (by omega) c3
      refine ⟨v', w', ?_, ?_, f3, b4.trans (c4.fr.trans f4)⟩
      · rw [if_neg h8, ms_g (by decide), tS_lt, show (0 : Int32).toNatClampNeg = 0 from rfl, hk3, ms_cl b1, ms_cl c1, nI_1, f1]
      · have hk4 : w 1 131 = nI k := hk2
        rw [if_neg h8, ms_g (by decide), tS_lt, show (131 : Int32).toNatClampNeg = 131 from rfl, hk4, ms_cl b2, ms_cl c2, nI_1, f2]
/-- when no key of a chunk differs, its sums are equal -/
theorem mr_eqsum {v : tmM} {c : Nat} (hc : c < 15) (h : mFind (fun k => mDf v k = 1) 4 (4 * c) = -1) : mFold (mSm v 0) 4 (4 * c) 0 = mFold (mSm v 1) 4 (4 * c) 0 := by
  apply mFold_congr
  intro j h1 h2 x
  have h3 : mRd v 0 j = mRd v 1 j := by
    rcases mFind_spec (fun k => mDf v k = 1) 4 (4 * c) with ⟨_, q⟩ | ⟨k, _, hk, q, _⟩
    · have h4 := q j h1 h2
      unfold mDf at h4
      by_cases s : mRd v 0 j = mRd v 1 j
      · exact s
      · rw [if_neg s] at h4; exact absurd rfl h4
    · exact absurd (q.symm.trans h) (mz_neg (by omega))
  unfold mSm
  rw [h3]
