/-! ===== calls that act ===== -/
theorem mk_many (x : Int32) : (∀ (v w : tmM), ((x < 1 ∨ (¬ x < 1 ∧ 15 < x)) ∧ f_X8_isMany x w = some (0, w))) ∨ ∃ m, 1 ≤ m ∧ m < 16 ∧ x = nI m ∧ ¬ x < 1 ∧ ¬ 15 < x ∧ ∀ w, f_X8_isMany x w = some (1, w) := by
  unfold f_X8_isMany f_X8_in
  by_cases h1 : x < 1
  · exact Or.inl fun v w => ⟨Or.inl h1, by rw [if_pos h1]; rfl⟩
  · by_cases h2 : 15 < x
    · exact Or.inl fun v w => ⟨Or.inr ⟨h1, h2⟩, by rw [if_neg h1, if_pos h2]; rfl⟩
    · have h0 : ¬ x < 0 := fun q => h1 (by
        rw [Int32.lt_iff_toInt_lt] at q ⊢
        have e0 : (0 : Int32).toInt = 0 := rfl
        have e1 : (1 : Int32).toInt = 1 := rfl
        omega)
      obtain ⟨m, hm, rfl⟩ := nI_of h0
      refine Or.inr ⟨m, ?_, ?_, rfl, h1, h2, fun w => by rw [if_neg h1, if_neg h2]; rfl⟩
      · by_cases z : m = 0
        · subst z; exact absurd (show nI 0 < 1 by decide) h1
        · omega
      · by_cases z : m < 16
        · exact z
        · exact absurd (show (15 : Int32) < nI m from nI_lt (a := 15) (by omega) hm) h2
section
variable {B : Nat} {v w : tmM} {bs : List Int32}
theorem mt_put (h : mG B v bs w) (x1 x2 : Int32) : mAn (B + 60) v bs w (some 1) (some 2) none (f_X7_put x1 x2 v) (f_X8_put x1 x2 w) := by
  have h0 := mG_0 h
  have h' := mG_mono (show B ≤ B + 60 by omega) h
  unfold f_X7_put f_X8_put f_X8_put_28
  rcases mk_key x1 with e | ⟨k, hk, rfl, e⟩
  · refine mE h' (i := 0) (c := 1) ?_ (fun _ => rfl) (by decide) ?_
    · rw [ms_cl (e v w).1, mx_i0]
    · rw [ms_cl (e v w).2, if_pos rfl, tS_lt, if_neg mz_le1]
  · rcases mk_value x2 with f | ⟨p, hp, rfl, f⟩
    · refine mE h' (i := 1) (c := 2) ?_ (fun _ => rfl) (by decide) ?_
      · rw [ms_cl (e v w).1, mx_i1, ms_cl (f v w).1, mx_a0]
      · rw [ms_cl (e v w).2, if_neg mr_10, ms_cl (f v w).2, if_pos rfl, tS_lt, if_neg mz_le2]
    · refine mO_R (mg_put h0 hk hp) ?_ ?_
      · rw [ms_cl (e v w).1, mx_i1, ms_cl (f v w).1, mx_a1]
      · rw [ms_cl (e v w).2, if_neg mr_10, ms_cl (f v w).2, if_neg mr_10, tS_lt, if_pos mz_le0, mz_idI]
theorem mt_remove (h : mG B v bs w) (x1 : Int32) : mAn (B + 60) v bs w (some 1) none none (f_X7_remove x1 v) (f_X8_remove x1 w) := by
  have h0 := mG_0 h
  have h' := mG_mono (show B ≤ B + 60 by omega) h
  unfold f_X7_remove f_X8_remove f_X8_remove_13
  rcases mk_key x1 with e | ⟨k, hk, rfl, e⟩
  · refine mE h' (i := 0) (c := 1) ?_ (fun _ => rfl) (by decide) ?_
    · rw [ms_cl (e v w).1, mx_i0]
    · rw [ms_cl (e v w).2, if_pos rfl, tS_lt, if_neg mz_le1]
  · refine mO_R (mg_remove h0 hk) ?_ ?_
    · rw [ms_cl (e v w).1, mx_i1]
    · rw [ms_cl (e v w).2, if_neg mr_10, tS_lt, if_pos mz_le0, mz_idI]
theorem mt_copy (h : mG B v bs w) (x1 : Int32) : mAn B v bs w none (some 1) none (f_X7_copy x1 v) (f_X8_copy x1 w) := by
  have h0 := mG_0 h
  unfold f_X7_copy f_X8_copy f_X7_copy_15 f_X7_copy_16 f_X8_copy_13
  rcases mk_many x1 with e | ⟨m, m1, m2, rfl, e1, e2, e⟩
  · refine mE h (i := 1) (c := 1) ?_ (fun _ => rfl) (by decide) ?_
    · rcases (e v w).1 with q | ⟨q, s⟩
      · rw [if_pos q, mx_a0]
      · rw [if_neg q, if_pos s, mx_a0]
    · rw [ms_cl (e v w).2, if_pos rfl, tS_lt, if_neg mz_le1]
  · refine mO_R (mg_copy h0 m2) ?_ ?_
    · rw [if_neg e1, if_neg e2, mx_a1]
    · rw [ms_cl (e w), if_neg mr_10, tS_lt, if_pos mz_le0, mz_idI]
theorem mt_repair (h : mG B v bs w) (x1 : Int32) : mAn B v bs w none (some 1) none (f_X7_repair x1 v) (f_X8_repair x1 w) := by
  have h0 := mG_0 h
  unfold f_X7_repair f_X8_repair f_X7_repair_15 f_X7_repair_16 f_X8_repair_13
  rcases mk_many x1 with e | ⟨m, m1, m2, rfl, e1, e2, e⟩
  · refine mE h (i := 1) (c := 1) ?_ (fun _ => rfl) (by decide) ?_
    · rcases (e v w).1 with q | ⟨q, s⟩
      · rw [if_pos q, mx_a0]
      · rw [if_neg q, if_pos s, mx_a0]
    · rw [ms_cl (e v w).2, if_pos rfl, tS_lt, if_neg mz_le1]
  · refine mO_R (mg_repair h0 m2) ?_ ?_
    · rw [if_neg e1, if_neg e2, mx_a1]
    · rw [ms_cl (e w), if_neg mr_10, tS_lt, if_pos mz_le0, mz_idI]
theorem mt_check (h : mG B v bs w) (x1 : Int32) : mAn B v bs w (some 1) none none (f_X7_check x1 v) (f_X8_check x1 w) := by
  have h0 := mG_0 h
  unfold f_X7_check f_X8_check f_X8_check_13
  rcases mk_chunk x1 with e | ⟨k, hk, rfl, e⟩
  · refine mE h (i := 0) (c := 1) ?_ (fun _ => rfl) (by decide) ?_
    · rw [ms_cl (e v w).1, mx_i0]
    · rw [ms_cl (e v w).2, if_pos rfl, tS_lt, if_neg mz_le1]
  · refine mO_R (mg_check h0 hk) ?_ ?_
    · rw [ms_cl (e v w).1, mx_i1]
    · rw [ms_cl (e v w).2, if_neg mr_10, tS_lt, if_pos mz_le0, mz_idI]
theorem mt_switchOver (h : mG B v bs w) (x1 : Int32) : mAn B v bs w (some 1) none none (f_X7_switchOver x1 v) (f_X8_switchOver x1 w) := by
  have h0 := mG_0 h
  unfold f_X7_switchOver f_X8_switchOver f_X8_switchOver_13
  rcases mk_reader x1 with e | ⟨k, hk, rfl, e⟩
  · refine mE h (i := 0) (c := 1) ?_ (fun _ => rfl) (by decide) ?_
    · rw [ms_cl (e v w).1, mx_i0]
    · rw [ms_cl (e v w).2, if_pos rfl, tS_lt, if_neg mz_le1]
  · refine mO_R (mg_over h0 hk) ?_ ?_
    · rw [ms_cl (e v w).1, mx_i1]
    · rw [ms_cl (e v w).2, if_neg mr_10, tS_lt, if_pos mz_le0, mz_idI]
theorem mt_switchBack (h : mG B v bs w) (x1 : Int32) : mAn B v bs w (some 1) none none (f_X7_switchBack x1 v) (f_X8_switchBack x1 w) := by
  have h0 := mG_0 h
  unfold f_X7_switchBack f_X8_switchBack f_X8_switchBack_13
  rcases mk_reader x1 with e | ⟨k, hk, rfl, e⟩
  · refine mE h (i := 0) (c := 1) ?_ (fun _ => rfl) (by decide) ?_
    · rw [ms_cl (e v w).1, mx_i0]
    · rw [ms_cl (e v w).2, if_pos rfl, tS_lt, if_neg mz_le1]
  · refine mO_R (mg_back h0 hk) ?_ ?_
    · rw [ms_cl (e v w).1, mx_i1]
    · rw [ms_cl (e v w).2, if_neg mr_10, tS_lt, if_pos mz_le0, mz_idI]
theorem mt_fill (h : mG B v bs w) (x1 x2 x3 x4 : Int32) : mAn (B + 60) v bs w (some 1) (some 2) none (f_X7_fill x1 x2 x3 x4 v) (f_X8_fill x1 x2 x3 x4 w) := by
  have h0 := mG_0 h
  have h' := mG_mono (show B ≤ B + 60 by omega) h
  unfold f_X7_fill f_X8_fill f_X7_fill_27 f_X7_fill_28 f_X8_fill_40 f_X8_fill_41
  rcases mk_range x1 x2 with e | ⟨a, b, hab, hb, rfl, rfl, e⟩
  · refine mE h' (i := 0) (c := 1) ?_ (fun _ => rfl) (by decide) ?_
    · rw [ms_cl (e v w).1, mx_i0]
    · rw [ms_cl (e v w).2, if_pos rfl, tS_lt, if_neg mz_le1]
  · rcases mk_value x3 with f | ⟨p, hp, rfl, f⟩
    · refine mE h' (i := 1) (c := 2) ?_ (fun _ => rfl) (by decide) ?_
      · rw [ms_cl (e v w).1, mx_i1, ms_cl (f v w).1, if_pos rfl, mx_a0]
      · rw [ms_cl (e v w).2, if_neg mr_10, ms_cl (f v w).2, if_pos rfl, tS_lt, if_neg mz_le2]
    · rcases mk_value x4 with g | ⟨q, hq, rfl, g⟩
      · refine mE h' (i := 1) (c := 2) ?_ (fun _ => rfl) (by decide) ?_
        · rw [ms_cl (e v w).1, mx_i1, ms_cl (f v w).1, if_neg mr_10, ms_cl (g v w).1, if_pos rfl, mx_a0]
        · rw [ms_cl (e v w).2, if_neg mr_10, ms_cl (f v w).2, if_neg mr_10, ms_cl (g v w).2, if_pos rfl, tS_lt, if_neg mz_le2]
      · refine mO_R (mg_fillAll h0 hab hb hp hq) ?_ ?_
        · rw [ms_cl (e v w).1, mx_i1, ms_cl (f v w).1, if_neg mr_10, ms_cl (g v w).1, if_neg mr_10, mx_a1]
        · rw [ms_cl (e v w).2, if_neg mr_10, ms_cl (f v w).2, if_neg mr_10, ms_cl (g v w).2, if_neg mr_10, tS_lt, if_pos mz_le0]
theorem mt_clearRange (h : mG B v bs w) (x1 x2 : Int32) : mAn (B + 60) v bs w (some 1) none none (f_X7_clearRange x1 x2 v) (f_X8_clearRange x1 x2 w) := by
  have h0 := mG_0 h
  have h' := mG_mono (show B ≤ B + 60 by omega) h
  unfold f_X7_clearRange f_X8_clearRange f_X8_clearRange_14
  rcases mk_range x1 x2 with e | ⟨a, b, hab, hb, rfl, rfl, e⟩
  · refine mE h' (i := 0) (c := 1) ?_ (fun _ => rfl) (by decide) ?_
    · rw [ms_cl (e v w).1, mx_i0]
    · rw [ms_cl (e v w).2, if_pos rfl, tS_lt, if_neg mz_le1]
  · refine mO_R (mg_clear h0 hab hb) ?_ ?_
    · rw [ms_cl (e v w).1, mx_i1]
    · rw [ms_cl (e v w).2, if_neg mr_10, tS_lt, if_pos mz_le0]
/-! the next act is done -/
theorem mn_num (h : rP B v (w 1)) (x : Int32) (n : Nat) (hn : n ≤ 15) (a : Int32) (ha : ∃ k, k < 2 ^ n ∧ a = nI k) (hne : ¬ a = nI (2 ^ n - 1)) : ∃ c, c < n ∧ f_X7_lowestMissing a (nI n) v = some (nI c, v) ∧ f_X8_lowestOut a w = some (nI c, w) := by
  obtain ⟨k, hk, rfl⟩ := ha
  have hk2 : k < 2 ^ n - 1 := by
    by_cases z : k = 2 ^ n - 1
    · exact absurd (by rw [z]) hne
    · omega
  have hx := mn_bits n hn k hk2
  rcases mFind_spec (fun i => mHas (nI k) (nI i) = 0) n 0 with ⟨q, _⟩ | ⟨c, _, hc, q, _⟩
  · exact absurd q hx
  · exact ⟨c, by omega, (mn_low7 _ n (by omega) v).trans (by rw [q]), (mn_low8 _ n (by omega) w hx).trans (by rw [q])⟩
theorem mg_next (h : mG B v bs w) (K0 : Int32 → tmM → Option tmR) (L : Int32 → Int32 → tmM → Option tmR) (x1 x2 : Int32) : (∃ r, f_X8_nextAct w = some (-1, w) ∧ r = (-1 : Int32) ∧ (¬ x1 ≤ x2 → f_X7_advance_21b K0 L x1 x2 v = some ((0, x2), v))) ∨ ∃ (a : Int32) (k : Nat) (v' w' : tmM), f_X8_nextAct w = some (a, w) ∧ a ≠ -1 ∧ k < 10 ∧ f_X8_doesNext w = some (nI k, w') ∧ mG B v' bs w' ∧ mKq v w v' w' ∧ (¬ x1 ≤ x2 → f_X7_advance_21b K0 L x1 x2 v = (if nI k = 0 then L x1 (x2 + 1) v' else some ((0, x2), v'))) := by
  obtain ⟨r, a1, a2, a3⟩ := mn_act h.1
  obtain ⟨t3, t4, t5, t6, u3, u4, u5, u6⟩ := mz_cs h.1
  unfold f_X7_advance_21b f_X7_advance_44 f_X7_advance_56 f_X8_doesNext f_X4_numberFor f_X8_nextNumber
  have fin : ∀ (o' : Option (Int32 × tmM)) (n : Int32), mR B v bs w (f_X7_attempt r n v) o' → ∃ (k : Nat) (v' w' : tmM), k < 10 ∧ f_X7_attempt r n v = some (nI k, v') ∧ tm_cl o' (fun r v => some (r, v)) = some (nI k, w') ∧ mG B v' bs w' ∧ mKq v w v' w' := by
    rintro o' n ⟨k, v', w', b1, b2, b3, b4, b5⟩
    exact ⟨k, v', w', b1, b2, by rw [b3]; rfl, b4, b5⟩
  rcases a3 with ⟨rfl, _⟩ | ⟨rfl, _⟩ | ⟨rfl, _⟩ | ⟨rfl, _⟩ | ⟨rfl, _, hn⟩ | ⟨rfl, _, hn⟩ | ⟨rfl, _⟩ | ⟨rfl, _⟩
  · exact Or.inl ⟨_, a2, rfl, fun hx => by rw [if_neg hx, ms_cl a1]; rfl⟩
  · obtain ⟨k, v', w', b1, b2, b3, b4, b5⟩ := fin _ _ (mR_reg (mg_begin h))
    refine Or.inr ⟨0, k, v', w', a2, by decide, b1, by rw [ms_cl a2]; exact b3, b4, b5, fun hx => ?_⟩
    rw [if_neg hx, ms_cl a1, if_neg (by decide), if_neg (by decide), if_neg (by decide), if_neg (by decide), tS_cl, if_neg (by decide), ms_cl b2]
  · obtain ⟨k, v', w', b1, b2, b3, b4, b5⟩ := fin _ _ (mg_copy h (m := 1) (by decide))
    refine Or.inr ⟨1, k, v', w', a2, by decide, b1, by rw [ms_cl a2]; exact b3, b4, b5, fun hx => ?_⟩
    rw [if_neg hx, ms_cl a1, if_pos rfl, if_neg (by decide), ms_cl (show f_X7_attempt 1 1 v = _ from b2)]
  · obtain ⟨k, v', w', b1, b2, b3, b4, b5⟩ := fin _ _ (mg_repair h (m := 1) (by decide))
    refine Or.inr ⟨2, k, v', w', a2, by decide, b1, by rw [ms_cl a2]; exact b3, b4, b5, fun hx => ?_⟩
    rw [if_neg hx, ms_cl a1, if_neg (by decide), if_pos rfl, if_neg (by decide), ms_cl (show f_X7_attempt 2 1 v = _ from b2)]
  · obtain ⟨c, hc, c7, c8⟩ := mn_num h.1 0 15 (by decide) (v 0 3) (by rw [t4]; exact u4) hn
    obtain ⟨k, v', w', b1, b2, b3, b4, b5⟩ := fin _ _ (mg_check h hc)
    refine Or.inr ⟨3, k, v', w', a2, by decide, b1, ?_, b4, b5, fun hx => ?_⟩
    · rw [ms_cl a2, if_neg (by decide), if_neg (by decide), if_neg (by decide), if_pos rfl, ms_cl a2, if_pos rfl, mr_g4, mr_n4, ← t4, ms_cl c8, tS_cl]
      exact b3
    · rw [if_neg hx, ms_cl a1, if_neg (by decide), if_neg (by decide), if_pos rfl, ms_cl (show f_X7_lowestMissing (v 0 3) 15 v = _ from c7), tS_cl, if_neg (by decide), ms_cl b2]
  · obtain ⟨c, hc, c7, c8⟩ := mn_num h.1 0 8 (by decide) (v 0 4) (by rw [t5]; exact u5) hn
    obtain ⟨k, v', w', b1, b2, b3, b4, b5⟩ := fin _ _ (mg_over h hc)
    refine Or.inr ⟨4, k, v', w', a2, by decide, b1, ?_, b4, b5, fun hx => ?_⟩
    · rw [ms_cl a2, if_neg (by decide), if_neg (by decide), if_neg (by decide), if_neg (by decide), if_pos rfl, ms_cl a2, if_neg (by decide), ms_cl a2, if_pos rfl, mr_g5, mr_n5, ← t5, ms_cl c8, tS_cl]
      exact b3
    · rw [if_neg hx, ms_cl a1, if_neg (by decide), if_neg (by decide), if_neg (by decide), if_pos rfl, ms_cl (show f_X7_lowestMissing (v 0 4) 8 v = _ from c7), tS_cl, if_neg (by decide), ms_cl b2]
  · obtain ⟨k, v', w', b1, b2, b3, b4, b5⟩ := fin _ _ (mR_reg (mg_lead h))
    refine Or.inr ⟨6, k, v', w', a2, by decide, b1, by rw [ms_cl a2]; exact b3, b4, b5, fun hx => ?_⟩
    rw [if_neg hx, ms_cl a1, if_neg (by decide), if_neg (by decide), if_neg (by decide), if_neg (by decide), tS_cl, if_neg (by decide), ms_cl b2]
  · obtain ⟨k, v', w', b1, b2, b3, b4, b5⟩ := fin _ _ (mR_reg (mg_finish h))
    refine Or.inr ⟨10, k, v', w', a2, by decide, b1, by rw [ms_cl a2]; exact b3, b4, b5, fun hx => ?_⟩
    rw [if_neg hx, ms_cl a1, if_neg (by decide), if_neg (by decide), if_neg (by decide), if_neg (by decide), tS_cl, if_neg (by decide), ms_cl b2]
theorem mg_adv {m : Nat} (hm : m < 61) : ∀ (d i F : Nat) (v w : tmM), d + i = m → d < F → mG B v bs w → w 0 0 = 0 → ∃ r v' w', f_X7_advance_21 (fun x8 v9 => some ((0, x8), v9)) F (nI m) (nI i) v = some ((0, r), v') ∧ f_X8_advance_30 (fun x8 v9 => some (x8, v9)) F (nI m) (nI i) w = some (r, w') ∧ mG B v' bs w' ∧ w' 0 0 = 0 := by
  intro d
  induction d with
  | zero =>
    intro i F v w hd hF h hw
    obtain ⟨F, rfl⟩ : ∃ G, F = G + 1 := ⟨F - 1, by omega⟩
    have e : nI m ≤ nI i := nI_le (by omega) (by omega)
    refine ⟨nI m, v, w, ?_, ?_, h, hw⟩
    · show f_X7_advance_21b _ _ (nI m) (nI i) v = _
      unfold f_X7_advance_21b
      rw [if_pos e]
    · show f_X8_advance_30b _ _ (nI m) (nI i) w = _
      unfold f_X8_advance_30b
      rw [if_pos e, show i = m by omega]
  | succ d ih =>
    intro i F v w hd hF h hw
    obtain ⟨F, rfl⟩ : ∃ G, F = G + 1 := ⟨F - 1, by omega⟩
    have e : ¬ nI m ≤ nI i := nI_ge (by omega) (by omega)
    show ∃ r v' w', f_X7_advance_21b _ _ (nI m) (nI i) v = _ ∧ f_X8_advance_30b _ _ (nI m) (nI i) w = _ ∧ _
    rcases mg_next h (fun x8 v9 => some ((0, x8), v9)) (f_X7_advance_21 (fun x8 v9 => some ((0, x8), v9)) F) (nI m) (nI i) with ⟨_, b1, _, b2⟩ | ⟨a, k, v1, w1, b1, b2, b3, b4, b5, b6, b7⟩
    · rw [b2 e]
      unfold f_X8_advance_30b
      rw [if_neg e, ms_cl b1, if_pos rfl]
      exact ⟨nI i, v, w, rfl, rfl, h, hw⟩
    · rw [b7 e]
      unfold f_X8_advance_30b
      rw [if_neg e, ms_cl b1, if_neg b2, ms_cl b4]
      by_cases z : nI k = 0
      · rw [if_pos z, if_pos z, nI_1]
        exact ih (i + 1) F v1 w1 (by omega) (by omega) b5 (b6.2.2.2 hw)
      · rw [if_neg z, if_neg z]
        exact ⟨nI i, v1, w1, rfl, rfl, b5, b6.2.2.2 hw⟩
theorem mt_advance (h : mG B v bs w) (x1 : Int32) : mAn B v bs w none (some 1) none (f_X7_advance x1 v) (f_X8_advance x1 w) := by
  have h0 := mG_0 h
  unfold f_X7_advance f_X8_advance f_X7_advance_15 f_X7_advance_16 f_X8_advance_16 f_X8_in
  by_cases h1 : x1 < 1
  · refine mE h (i := 1) (c := 1) ?_ (fun _ => rfl) (by decide) ?_
    · rw [if_pos h1, mx_a0]
    · rw [if_pos h1, tS_cl, if_pos rfl, tS_lt, if_neg mz_le1]
  · by_cases h2 : 60 < x1
    · refine mE h (i := 1) (c := 1) ?_ (fun _ => rfl) (by decide) ?_
      · rw [if_neg h1, if_pos h2, mx_a0]
      · rw [if_neg h1, if_pos h2, tS_cl, if_pos rfl, tS_lt, if_neg mz_le1]
    · have hn : ¬ x1 < 0 := fun q => h1 (by
        rw [Int32.lt_iff_toInt_lt] at q ⊢
        have e0 : (0 : Int32).toInt = 0 := rfl
        have e1 : (1 : Int32).toInt = 1 := rfl
        omega)
      obtain ⟨m, hm, rfl⟩ := nI_of hn
      have hm2 : m < 61 := by
        by_cases z : m < 61
        · exact z
        · exact absurd (show (60 : Int32) < nI m from nI_lt (a := 60) (by omega) hm) h2
      obtain ⟨r, v', w', a1, a2, a3, a4⟩ := mg_adv hm2 m 0 10000 v (tm_up w 0 0 0) rfl (by omega) h0 (mu_eq _ _ _ _)
      refine Or.inr ⟨r, v', w', ?_, ?_, a4, a3⟩
      · rw [if_neg h1, if_neg h2, mx_a1]; exact a1
      · rw [if_neg h1, if_neg h2, tS_cl, if_neg mr_10, tS_lt, if_pos mz_le0]; exact a2
end
