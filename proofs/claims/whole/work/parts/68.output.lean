/-! ===== what is written ===== -/
def mPr (w w' : tmM) : Prop := (∀ c, c ≠ 0 → c ≠ 6 → w' c = w c) ∧ ∀ j, j ≠ 13 → w' 0 j = w 0 j
theorem mPr.refl (w : tmM) : mPr w w := ⟨fun _ _ _ => rfl, fun _ _ => rfl⟩
theorem mPr.trans {w w1 w2 : tmM} (h : mPr w w1) (k : mPr w1 w2) : mPr w w2 := ⟨fun c a b => (k.1 c a b).trans (h.1 c a b), fun j a => (k.2 j a).trans (h.2 j a)⟩
theorem mb_asc : ∀ j, j < 128 → vp_nar .byte ((nI j).toInt8.toInt32) = nI j := by
  intro j hj
  rw [mb_bye]
  have : ∀ j, j < 128 → (nI j).toInt8.toInt32 = nI j := by decide
  exact this j hj
theorem mo_sign {bs : List Int32} {w : tmM} (h : gO bs w) (hl : bs.length + 1 ≤ 95) {j : Nat} (hj : j < 128) : ∃ w', f_X8_prints (nI j) w = some ((), w') ∧ gO (bs ++ [nI j]) w' ∧ mPr w w' := by
  obtain ⟨h1, h2, h3⟩ := h
  refine ⟨tm_up (tm_up w 6 bs.length (nI j)) 0 13 (nI (bs.length + 1)), ?_, ⟨?_, ?_, fun i hi => ?_⟩, ⟨fun c a b => ?_, fun i a => ?_⟩⟩
  · unfold f_X8_prints
    rw [h1, ms_gi (show bs.length < 96 by omega) (by decide), tS_lt, nI_clamp (by omega), mb_asc j hj, tS_lt, mu_ne (by omega), h1, nI_1]
  · rw [mu_eq, List.length_append]; rfl
  · rw [List.length_append]; exact hl
  · rw [List.length_append] at hi
    have hi : i < bs.length + 1 := hi
    rw [mu_ne (by omega), mu_if]
    by_cases q : i = bs.length
    · subst q
      rw [if_pos ⟨rfl, rfl⟩, List.getD_eq_getElem?_getD, List.getElem?_append_right (Nat.le_refl _), Nat.sub_self]
      rfl
    · rw [if_neg (by omega), List.getD_eq_getElem?_getD, List.getElem?_append_left (by omega), ← List.getD_eq_getElem?_getD]
      exact h3 i (by omega)
  · rw [tu_ne _ _ _ a, tu_ne _ _ _ b]
  · rw [mu_ne (by omega), mu_ne (by omega)]
theorem mo_app {bs : List Int32} {w w1 : tmM} {l l2 : List Int32} (h1 : gO (bs ++ l) w1) (hw : mPr w w1) {o : Option (Unit × tmM)} (h : ∃ w', o = some ((), w') ∧ gO ((bs ++ l) ++ l2) w' ∧ mPr w1 w') : ∃ w', o = some ((), w') ∧ gO (bs ++ (l ++ l2)) w' ∧ mPr w w' := by
  obtain ⟨w', a, b, c⟩ := h
  exact ⟨w', a, by rw [← List.append_assoc]; exact b, hw.trans c⟩
theorem mo_37 {bs : List Int32} {w : tmM} (h : gO bs w) (hl : bs.length + 1 ≤ 95) {k : Nat} (hk : k < 1000) : ∃ w', f_X8_putsNumber_37 (nI k) w = some ((), w') ∧ gO (bs ++ [nI (48 + k % 10)]) w' ∧ mPr w w' := by
  obtain ⟨w', a, b, c⟩ := mo_sign h hl (j := 48 + k % 10) (by omega)
  refine ⟨w', ?_, b, c⟩
  unfold f_X8_putsNumber_37
  rw [ms_gd (by decide), show nI k - nI k / 10 * 10 = nI (k % 10) from pk_rem (d := 10) (by omega) (by decide) (by decide), show (48 : Int32) + nI (k % 10) = nI (48 + k % 10) from nI_add 48 _, ms_cl a]
theorem mo_17 {bs : List Int32} {w : tmM} (h : gO bs w) (hl : bs.length + 2 ≤ 95) {k : Nat} (hk : k < 1000) : ∃ w', f_X8_putsNumber_17 (nI k) w = some ((), w') ∧ gO (bs ++ (if k < 10 then [nI (48 + k)] else [nI (48 + k / 10 % 10), nI (48 + k % 10)])) w' ∧ mPr w w' := by
  unfold f_X8_putsNumber_17
  by_cases q : k < 10
  · rw [if_pos (show nI k ≤ 9 from nI_le (b := 9) (by omega) (by decide)), if_pos q]
    have := mo_37 h (by omega) hk
    rw [show k % 10 = k by omega] at this
    exact this
  · rw [if_neg (show ¬ nI k ≤ 9 from nI_ge (a := 9) (by omega) (by omega)), if_neg q, ms_gd (by decide), ms_gd (by decide), show nI k / 10 = nI (k / 10) from pk_div (d := 10) (by omega) (by decide) (by decide), show nI (k / 10) - nI (k / 10) / 10 * 10 = nI (k / 10 % 10) from pk_rem (d := 10) (by omega) (by decide) (by decide), show (48 : Int32) + nI (k / 10 % 10) = nI (48 + k / 10 % 10) from nI_add 48 _]
    obtain ⟨w1, a, b, c⟩ := mo_sign h (by omega) (j := 48 + k / 10 % 10) (by omega)
    rw [ms_cl a]
    exact mo_app (l := [nI (48 + k / 10 % 10)]) (l2 := [nI (48 + k % 10)]) b c (mo_37 b (by rw [List.length_append]; show bs.length + 1 + 1 ≤ 95; omega) hk)
theorem mo_num {bs : List Int32} {w : tmM} (h : gO bs w) (hl : bs.length + 3 ≤ 95) {k : Nat} (hk : k < 1000) : ∃ w', f_X8_putsNumber (nI k) w = some ((), w') ∧ gO (bs ++ tm_dec k) w' ∧ mPr w w' := by
  unfold f_X8_putsNumber tm_dec
  by_cases q : k < 100
  · rw [if_pos (show nI k ≤ 99 from nI_le (b := 99) (by omega) (by decide))]
    have := mo_17 h (by omega) hk
    by_cases q2 : k < 10
    · rw [if_pos q2] at this ⊢; exact this
    · rw [if_neg q2, show k / 10 % 10 = k / 10 by omega] at this
      rw [if_neg q2, if_pos q]; exact this
  · rw [if_neg (show ¬ nI k ≤ 99 from nI_ge (a := 99) (by omega) (by omega)), if_neg (by omega), if_neg q, ms_gd (by decide), show nI k / 100 = nI (k / 100) from pk_div (d := 100) (by omega) (by decide) (by decide), show (48 : Int32) + nI (k / 100) = nI (48 + k / 100) from nI_add 48 _]
    obtain ⟨w1, a, b, c⟩ := mo_sign h (by omega) (j := 48 + k / 100) (by omega)
    rw [ms_cl a]
    have := mo_17 b (by rw [List.length_append]; show bs.length + 1 + 2 ≤ 95; omega) hk
    rw [if_neg (show ¬ k < 10 by omega), show k / 10 % 10 = k % 100 / 10 by omega] at this
    exact mo_app (l := [nI (48 + k / 100)]) (l2 := [nI (48 + k % 100 / 10), nI (48 + k % 10)]) b c this
theorem mo_len {k : Nat} : (tm_dec k).length ≤ 3 := by
  unfold tm_dec
  split
  · exact Nat.le_of_ble_eq_true rfl
  · split <;> exact Nat.le_of_ble_eq_true rfl
theorem mo_len2 {k : Nat} (hk : k < 100) : (tm_dec k).length ≤ 2 := by
  unfold tm_dec
  by_cases q : k < 10
  · rw [if_pos q]; exact Nat.le_of_ble_eq_true rfl
  · rw [if_neg q, if_pos hk]; exact Nat.le_of_ble_eq_true rfl
/-- a value, on both sides -/
def mDv (x : Int32) : List Int32 := if x = -1 then [45] else if x = -3 then [63] else tm_dec x.toNatClampNeg
theorem mo_val7 {x : Int32} (hx : x = -1 ∨ x = -3 ∨ ∃ j, j < 1000 ∧ x = nI j) (v : tmM) (bs : List Int32) (hl : bs.length + 3 ≤ 70) : f_X7_describeValue x v bs = some ((), (v, bs ++ mDv x)) ∧ (mDv x).length ≤ 3 := by
  unfold f_X7_describeValue mDv
  rcases hx with rfl | rfl | ⟨j, hj, rfl⟩
  · rw [if_pos rfl, if_pos rfl, ms_g (decide_eq_true (by omega)), tS_lt]; exact ⟨rfl, by decide⟩
  · rw [if_neg (show ¬ (-3 : Int32) = -1 by decide), if_neg (show ¬ (-3 : Int32) = -1 by decide), if_pos rfl, if_pos rfl, ms_g (decide_eq_true (by omega)), tS_lt]; exact ⟨rfl, by decide⟩
  · have e1 : ¬ nI j = -1 := mz_neg (by omega)
    have e3 : ¬ nI j = -3 := mr_n3 (Or.inr ⟨j, hj, rfl⟩)
    rw [if_neg e1, if_neg e1, if_neg e3, if_neg e3, nI_clamp (by omega), ms_g (decide_eq_true ⟨nI_pos (by omega), hj, hl⟩), tS_lt]
    exact ⟨rfl, mo_len⟩
theorem mo_val8 {x : Int32} (hx : x = -1 ∨ x = -3 ∨ ∃ j, j < 1000 ∧ x = nI j) {bs : List Int32} {w : tmM} (h : gO bs w) (hl : bs.length + 3 ≤ 95) : ∃ w', f_X8_putsValue x w = some ((), w') ∧ gO (bs ++ mDv x) w' ∧ mPr w w' := by
  unfold f_X8_putsValue f_X8_putsValue_17 mDv
  rcases hx with rfl | rfl | ⟨j, hj, rfl⟩
  · obtain ⟨w', a, b, c⟩ := mo_sign h (by omega) (j := 45) (by decide)
    rw [if_neg (show ¬ (0 : Int32) ≤ -1 by decide), if_pos rfl, if_pos rfl, ms_cl (show f_X8_prints 45 w = _ from a)]
    exact ⟨w', rfl, b, c⟩
  · obtain ⟨w', a, b, c⟩ := mo_sign h (by omega) (j := 63) (by decide)
    rw [if_neg (show ¬ (0 : Int32) ≤ -3 by decide), if_neg (show ¬ (-3 : Int32) = -1 by decide), if_neg (show ¬ (-3 : Int32) = -1 by decide), if_pos rfl, ms_cl (show f_X8_prints 63 w = _ from a)]
    exact ⟨w', rfl, b, c⟩
  · have e1 : ¬ nI j = -1 := mz_neg (by omega)
    have e3 : ¬ nI j = -3 := mr_n3 (Or.inr ⟨j, hj, rfl⟩)
    obtain ⟨w', a, b, c⟩ := mo_num h hl hj
    rw [if_pos (show (0 : Int32) ≤ nI j from nI_le (a := 0) (by omega) (by omega)), if_neg e1, if_neg e3, nI_clamp (by omega), ms_cl a]
    exact ⟨w', rfl, b, c⟩
theorem mo_signs {bs : List Int32} {w : tmM} {b : Nat} (hb : b ≤ 15) (K : tmM → Option (Unit × tmM)) : ∀ (d i F : Nat) (bs : List Int32) (w : tmM), d + i = b → d < F → gO bs w → gC w → bs.length + d ≤ 95 → ∃ w', f_X8_putsSigns_2 K F (nI b) (nI i) w = K w' ∧ gO (bs ++ (List.range' i d).map (fun i => tn_signs.getD i 0)) w' ∧ mPr w w' := by
  intro d
  induction d with
  | zero =>
    intro i F bs w hd hF h hc hl
    obtain ⟨F, rfl⟩ : ∃ G, F = G + 1 := ⟨F - 1, by omega⟩
    refine ⟨w, ?_, ?_, mPr.refl w⟩
    · show f_X8_putsSigns_2b _ _ (nI b) (nI i) w = _
      unfold f_X8_putsSigns_2b
      rw [if_pos (nI_le (by omega) (by omega))]
    · show gO (bs ++ []) w
      rw [List.append_nil]; exact h
  | succ d ih =>
    intro i F bs w hd hF h hc hl
    obtain ⟨F, rfl⟩ : ∃ G, F = G + 1 := ⟨F - 1, by omega⟩
    have hs : ∀ i, i < 15 → ∃ j, j < 128 ∧ tn_signs.getD i 0 = nI j := by
      intro i hi
      have : ∀ i, i < 15 → (tn_signs.getD i 0).toNatClampNeg < 128 ∧ tn_signs.getD i 0 = nI (tn_signs.getD i 0).toNatClampNeg := by decide
      exact ⟨_, (this i hi).1, (this i hi).2⟩
    obtain ⟨j, hj, hej⟩ := hs i (by omega)
    obtain ⟨w1, a1, a2, a3⟩ := mo_sign h (by omega) hj
    have hc1 : gC w1 := gC_ext (a3.1 7 (by decide) (by decide)) (a3.1 9 (by decide) (by decide)) hc
    obtain ⟨w', b1, b2, b3⟩ := ih (i + 1) F (bs ++ [nI j]) w1 (by omega) (by omega) a2 hc1 (by rw [List.length_append]; show bs.length + 1 + d ≤ 95; omega)
    refine ⟨w', ?_, ?_, a3.trans b3⟩
    · show f_X8_putsSigns_2b _ _ (nI b) (nI i) w = _
      unfold f_X8_putsSigns_2b
      rw [if_neg (nI_ge (by omega) (by omega)), ms_gi (show i < 15 by omega) (by decide), nI_clamp (by omega), hc.1 i (by omega), hej, ms_cl a1, nI_1, b1]
    · rw [List.range'_succ, List.map_cons, hej]
      rw [List.append_assoc] at b2
      exact b2
section
variable {B : Nat} {v w : tmM} {bs : List Int32}
theorem mo_word (h : gO bs w) (hc : gC w) (hl : bs.length ≤ 70) {a b : Nat} (hb : (a = 0 ∧ b = 0) ∨ (a = 0 ∧ b = 7) ∨ (a = 7 ∧ b = 7) ∨ (a = 7 ∧ b = 15)) : ∃ w', f_X8_putsSigns (nI a) (nI b) w = some ((), w') ∧ gO (bs ++ (if a = b then [] else if b = 7 then tm_wrd 13 else tm_wrd 14)) w' ∧ mPr w w' := by
  have key := fun b hb (d i : Nat) (e : d + i = b) (hd : d < 10) => mo_signs (b := b) (bs := bs) (w := w) hb (fun v3 => some ((), v3)) d i 10000 bs w e (by omega) h hc (by omega)
  rcases hb with ⟨rfl, rfl⟩ | ⟨rfl, rfl⟩ | ⟨rfl, rfl⟩ | ⟨rfl, rfl⟩
  · exact key 0 (by decide) 0 0 rfl (by decide)
  · exact key 7 (by decide) 7 0 rfl (by decide)
  · exact key 7 (by decide) 0 7 rfl (by decide)
  · exact key 15 (by decide) 8 7 rfl (by decide)
/-- one row -/
def mRow (v : tmM) (n k : Nat) : List Int32 := [32] ++ tm_dec k ++ [58] ++ mDv (mRd v 0 k) ++ [47] ++ mDv (mRd v 1 k) ++ (if mPl v n (nI k) = -1 then [] else [33])
theorem mRd_three (h : rP B v (w 1)) {s k : Nat} (hs : s < 2) (hk : k < 60) : mRd v s k = -1 ∨ mRd v s k = -3 ∨ ∃ j, j < 1000 ∧ mRd v s k = nI j := by
  rcases mRd_cases h hs hk with ⟨_, b⟩ | ⟨_, b⟩
  · exact Or.inl b
  · exact Or.inr b
theorem mRow_len (h : rP B v (w 1)) {n k : Nat} (hk : k < 60) : (mRow v n k).length ≤ 12 := by
  have a := (mo_val7 (mRd_three h (s := 0) (by decide) hk) v [] (by decide)).2
  have b := (mo_val7 (mRd_three h (s := 1) (by decide) hk) v [] (by decide)).2
  have c := mo_len2 (k := k) (by omega)
  unfold mRow
  simp only [List.length_append]
  have d : (if mPl v n (nI k) = -1 then ([] : List Int32) else [33]).length ≤ 1 := by split <;> decide
  have e : ([32] : List Int32).length = 1 := rfl
  have f : ([58] : List Int32).length = 1 := rfl
  have g : ([47] : List Int32).length = 1 := rfl
  omega
theorem mo_row7 (h : rP B v (w 1)) {n : Nat} (hQ : rQn n v (w 1)) {k : Nat} (hk : k < 60) (bs : List Int32) (hl : bs.length + 13 ≤ 70) : f_X7_describeRow (nI k) v bs = some ((), (v, bs ++ mRow v n k)) := by
  have va := mo_val7 (mRd_three h (s := 0) (by decide) hk) v
  have vb := mo_val7 (mRd_three h (s := 1) (by decide) hk) v
  have r0 := (mr_val h (s := 0) (by decide) hk).1
  have r1 := (mr_val h (s := 1) (by decide) hk).1
  have ho := mr_holds hQ (nI k)
  have c := mo_len2 (k := k) (by omega)
  unfold f_X7_describeRow
  have l1 : (bs ++ [32]).length = bs.length + 1 := by rw [List.length_append]; rfl
  have l2 : (bs ++ [32] ++ tm_dec k).length = bs.length + 1 + (tm_dec k).length := by rw [List.length_append, l1]
  have l3 : (bs ++ [32] ++ tm_dec k ++ [58]).length = bs.length + 1 + (tm_dec k).length + 1 := by rw [List.length_append, l2]; rfl
  obtain ⟨va1, va2⟩ := va (bs ++ [32] ++ tm_dec k ++ [58]) (by omega)
  have l4 : (bs ++ [32] ++ tm_dec k ++ [58] ++ mDv (mRd v 0 k)).length = bs.length + 1 + (tm_dec k).length + 1 + (mDv (mRd v 0 k)).length := by rw [List.length_append, l3]
  have l5 : (bs ++ [32] ++ tm_dec k ++ [58] ++ mDv (mRd v 0 k) ++ [47]).length = bs.length + 1 + (tm_dec k).length + 1 + (mDv (mRd v 0 k)).length + 1 := by rw [List.length_append, l4]; rfl
  obtain ⟨vb1, vb2⟩ := vb (bs ++ [32] ++ tm_dec k ++ [58] ++ mDv (mRd v 0 k) ++ [47]) (by omega)
  have l6 : (bs ++ [32] ++ tm_dec k ++ [58] ++ mDv (mRd v 0 k) ++ [47] ++ mDv (mRd v 1 k)).length = bs.length + 1 + (tm_dec k).length + 1 + (mDv (mRd v 0 k)).length + 1 + (mDv (mRd v 1 k)).length := by rw [List.length_append, l5]
  have cw : ∀ {β : Type} {o : Option (Unit × (tmM × List Int32))} {l : List Int32} {K : Unit → tmM → List Int32 → Option β}, o = some ((), (v, l)) → tm_cw o K = K () v l := fun e => by rw [e]; rfl
  rw [ms_g (decide_eq_true (by omega)), tS_lt, nI_clamp (by omega), ms_g (decide_eq_true ⟨nI_pos (by omega), by omega, by omega⟩), tS_lt, ms_g (decide_eq_true (by omega)), tS_lt, ms_cl (show f_X5_valueAt 0 (nI k) v = _ from r0), cw va1, ms_g (decide_eq_true (by omega)), tS_lt, ms_cl (show f_X5_valueAt 1 (nI k) v = _ from r1), cw vb1, ms_cl ho]
  unfold mRow
  simp only [← List.append_assoc]
  by_cases z : mPl v n (nI k) = -1
  · rw [if_pos z, if_pos rfl, if_pos z, List.append_nil]
  · rw [if_neg z, if_neg mr_10, if_neg z, ms_g (decide_eq_true (by omega)), tS_lt]
/-- what the reference does for a row -/
def mRow8 (k : Int32) (L : tmM → Option (Int32 × tmM)) (w : tmM) : Option (Int32 × tmM) := tm_cl (f_X8_prints 32 w) fun _ v18 => tm_cl (f_X8_putsNumber k v18) fun _ v20 => tm_cl (f_X8_prints 58 v20) fun _ v22 => tm_cl (f_X8_valueIn 0 k v22) fun r25 v24 => tm_cl (f_X8_putsValue r25 v24) fun _ v26 => tm_cl (f_X8_prints 47 v26) fun _ v28 => tm_cl (f_X8_valueIn 1 k v28) fun r31 v30 => tm_cl (f_X8_putsValue r31 v30) fun _ v32 => tm_cl (f_X8_placeOf k v32) fun r35 v34 => (if r35 = (-1) then L v34 else tm_cl (f_X8_prints 33 v34) fun _ v36 => L v36)
theorem mo_row8 (h : rP B v (w 1)) {n : Nat} (hQ : rQn n v (w 1)) {k : Nat} (hk : k < 60) (hO : gO bs w) (hl : bs.length + 13 ≤ 95) (L : tmM → Option (Int32 × tmM)) : ∃ w', mRow8 (nI k) L w = L w' ∧ gO (bs ++ mRow v n k) w' ∧ mPr w w' := by
  have c := mo_len2 (k := k) (by omega)
  have da := (mo_val7 (mRd_three h (s := 0) (by decide) hk) v [] (by decide)).2
  have db := (mo_val7 (mRd_three h (s := 1) (by decide) hk) v [] (by decide)).2
  obtain ⟨w1, a1, a2, a3⟩ := mo_sign hO (by omega) (j := 32) (by decide)
  have l1 : (bs ++ [nI 32]).length = bs.length + 1 := by rw [List.length_append]; rfl
  obtain ⟨w2, b1, b2, b3⟩ := mo_num a2 (by omega) (k := k) (by omega)
  have l2 : (bs ++ [nI 32] ++ tm_dec k).length = bs.length + 1 + (tm_dec k).length := by rw [List.length_append, l1]
  obtain ⟨w3, c1, c2, c3⟩ := mo_sign b2 (by omega) (j := 58) (by decide)
  have l3 : (bs ++ [nI 32] ++ tm_dec k ++ [nI 58]).length = bs.length + 1 + (tm_dec k).length + 1 := by rw [List.length_append, l2]; rfl
  have p3 : mPr w w3 := (a3.trans b3).trans c3
  have h3 : rP B v (w3 1) := by rw [p3.1 1 (by decide) (by decide)]; exact h
  have r0 := (mr_val h3 (s := 0) (by decide) hk).2
  obtain ⟨w4, d1, d2, d3⟩ := mo_val8 (mRd_three h (s := 0) (by decide) hk) c2 (by omega)
  have l4 : (bs ++ [nI 32] ++ tm_dec k ++ [nI 58] ++ mDv (mRd v 0 k)).length = bs.length + 1 + (tm_dec k).length + 1 + (mDv (mRd v 0 k)).length := by rw [List.length_append, l3]
  obtain ⟨w5, e1, e2, e3⟩ := mo_sign d2 (by omega) (j := 47) (by decide)
  have l5 : (bs ++ [nI 32] ++ tm_dec k ++ [nI 58] ++ mDv (mRd v 0 k) ++ [nI 47]).length = bs.length + 1 + (tm_dec k).length + 1 + (mDv (mRd v 0 k)).length + 1 := by rw [List.length_append, l4]; rfl
  have p5 : mPr w w5 := (p3.trans d3).trans e3
  have h5 : rP B v (w5 1) := by rw [p5.1 1 (by decide) (by decide)]; exact h
  have r1 := (mr_val h5 (s := 1) (by decide) hk).2
  obtain ⟨w6, f1, f2, f3⟩ := mo_val8 (mRd_three h (s := 1) (by decide) hk) e2 (by omega)
  have l6 : (bs ++ [nI 32] ++ tm_dec k ++ [nI 58] ++ mDv (mRd v 0 k) ++ [nI 47] ++ mDv (mRd v 1 k)).length = bs.length + 1 + (tm_dec k).length + 1 + (mDv (mRd v 0 k)).length + 1 + (mDv (mRd v 1 k)).length := by rw [List.length_append, l5]
  have p6 : mPr w w6 := p5.trans f3
  have hQ6 : rQn n v (w6 1) := by rw [p6.1 1 (by decide) (by decide)]; exact hQ
  have hpl := (mr_pl hQ6 (nI k)).2
  unfold mRow8
  rw [ms_cl (show f_X8_prints 32 w = _ from a1), ms_cl b1, ms_cl (show f_X8_prints 58 w2 = _ from c1), ms_cl (show f_X8_valueIn 0 (nI k) w3 = _ from r0), ms_cl d1, ms_cl (show f_X8_prints 47 w4 = _ from e1), ms_cl (show f_X8_valueIn 1 (nI k) w5 = _ from r1), ms_cl f1, ms_cl hpl]
  unfold mRow
  simp only [← List.append_assoc]
  by_cases z : mPl v n (nI k) = -1
  · rw [if_pos z, if_pos z, List.append_nil]
    exact ⟨w6, rfl, f2, p6⟩
  · obtain ⟨w7, g1, g2, g3⟩ := mo_sign f2 (by omega) (j := 33) (by decide)
    rw [if_neg z, if_neg z, ms_cl (show f_X8_prints 33 w6 = _ from g1)]
    exact ⟨w7, rfl, g2, p6.trans g3⟩
end
