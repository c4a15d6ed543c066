/-! ===== a growing text in its own words: what stands in it ===== -/
theorem tS_lt {α β : Type} (x : α) (f : α → β) : tm_lt x f = f x := Eq.trans rfl rfl
theorem tS_g {β : Type} (x : Option β) : tm_g true x = x := Eq.trans rfl rfl
theorem tS_cl {α β : Type} (a : α) (v : tmM) (k : α → tmM → Option β) : tm_cl (some (a, v)) k = k a v := Eq.trans rfl rfl
theorem tS_cb {α β : Type} (a : α) (κ : Nat) (v : tmM) (k : α → Nat → tmM → Option β) : tm_cb (some (a, (κ, v))) k = k a κ v := Eq.trans rfl rfl
def tm_asc (b : Int32) : Prop := ∃ c : Nat, c < 128 ∧ b = nI c
def tmTx (κ : Nat) (u : tmM) (bs : List Int32) : Prop := (κ = 16 ∨ κ = 34 ∨ κ = 70) ∧ bs.length ≤ κ ∧ u 0 1 = 0 ∧ u 0 3 = nI bs.length ∧ (∀ i, i < bs.length → u 1 i = bs.getD i 0) ∧ (∀ i, i < bs.length → tm_asc (bs.getD i 0)) ∧ (∀ i, i < κ → fits .byte (.int (u 1 i)) = true)
theorem tx_fit : ∀ c, c < 128 → fits .byte (.int (nI c)) = true := by decide +kernel
theorem tx_nar : ∀ c, c < 128 → vp_nar .byte (nI c) = nI c := by decide +kernel
theorem tx_i8 : ∀ c, c < 128 → (nI c).toInt8.toInt32 = nI c := by decide +kernel
theorem tx_len (x0 x1 x2 : Int32) (v : tmM) (y : Int32) (hy : x0 + (if x1 < x2 then x2 else x1) = y) (h1 : ¬ y ≤ 0) (h2 : ¬ 2147483639 < y) : f_J8_newLength_cabcc x0 x1 x2 v = some (y, v) := by
  unfold f_J8_newLength_cabcc
  rw [hy]
  show (if y ≤ 0 then _ else _) = _
  rw [if_neg h1, if_neg h2]
theorem tx_cap {κ q : Nat} (hκ : κ = 16 ∨ κ = 34) (h : κ < q ∧ q ≤ κ + 8) {u : tmM} (h0 : u 0 1 = 0) : f_J5_newCapacity_0f7a4 κ (nI q) u = some (nI (2 * κ + 2), u) := by
  unfold f_J5_newCapacity_0f7a4
  simp only [tS_lt, h0, sb_shl0, sb_shr0]
  have hq : q < 50 := by omega
  rcases hκ with rfl | rfl
  · rw [tx_len (y := nI 34) _ _ _ _ ((by decide : ∀ q, q < 50 → 16 < q ∧ q ≤ 24 → Int32.ofNat 16 + (if nI q - Int32.ofNat 16 < Int32.ofNat 16 + 2 then Int32.ofNat 16 + 2 else nI q - Int32.ofNat 16) = nI 34) q hq h) (by decide) (by decide)]
    simp only [tS_cl, h0, sb_shr0]
    rw [if_neg (by decide)]
  · rw [tx_len (y := nI 70) _ _ _ _ ((by decide : ∀ q, q < 50 → 34 < q ∧ q ≤ 42 → Int32.ofNat 34 + (if nI q - Int32.ofNat 34 < Int32.ofNat 34 + 2 then Int32.ofNat 34 + 2 else nI q - Int32.ofNat 34) = nI 70) q hq h) (by decide) (by decide)]
    simp only [tS_cl, h0, sb_shr0]
    rw [if_neg (by decide)]
theorem tx_fits0 : fits .byte (.int 0) = true := by decide
theorem tx_ens {κ : Nat} {u : tmM} {bs : List Int32} {q : Nat} (hT : tmTx κ u bs) (hq : q ≤ 70) (hw : q ≤ bs.length + 8) : ∃ gr κ1 u1, f_J5_ensureCapacityInternal_d00df gr κ (nI q) u = some ((), (κ1, u1)) ∧ tmTx κ1 u1 bs ∧ q ≤ κ1 ∧ gr ≤ 1 := by
  obtain ⟨hk, hl, h1, h3, hb, ha, hf⟩ := hT
  have hk70 : κ ≤ 70 := by omega
  have e1 : (nI q - Int32.ofNat κ).toInt = (q : Int) - κ := pk_sub_toInt (by omega) (by omega)
  by_cases h : q ≤ κ
  · refine ⟨0, κ, u, ?_, ⟨hk, hl, h1, h3, hb, ha, hf⟩, h, by omega⟩
    unfold f_J5_ensureCapacityInternal_d00df
    simp only [tS_lt, h1, sb_shr0]
    rw [if_pos (by rw [Int32.le_iff_toInt_le, e1, Int32.toInt_zero]; omega)]
  · have hk2 : κ = 16 ∨ κ = 34 := by omega
    have hn : (nI (2 * κ + 2)).toNatClampNeg = 2 * κ + 2 := nI_clamp (by omega)
    refine ⟨1, 2 * κ + 2, tm_gr u κ, ?_, ⟨by omega, by omega, h1, h3, fun i hi => ?_, ha, fun i hi => ?_⟩, by omega, ?_⟩
    · unfold f_J5_ensureCapacityInternal_d00df
      simp only [tS_lt, h1, sb_shr0]
      rw [if_neg (by rw [Int32.le_iff_toInt_le, e1, Int32.toInt_zero]; omega), tx_cap hk2 (by omega) h1]
      simp only [tS_cl, h1, sb_shl0]
      have hg : tm_enG 1 κ (nI (2 * κ + 2)) u = true := decide_eq_true ⟨rfl, ⟨by rw [hn], by rw [hn]; omega, by rw [hn]; omega⟩, hf⟩
      rw [hg, hn]
      rfl
    · show va_cpy (u 1) (fun _ => 0) 0 0 κ i = _
      rw [sb_cpy0 (by omega)]
      exact hb i hi
    · show fits .byte (.int (va_cpy (u 1) (fun _ => 0) 0 0 κ i)) = true
      by_cases hi2 : i < κ
      · rw [sb_cpy0 hi2]; exact hf i hi2
      · rw [pk_cpy_out (by omega)]; exact tx_fits0
    · exact Nat.le_refl 1
theorem tx_getD (bs ds : List Int32) (i : Nat) (h : i < bs.length) : (bs ++ ds).getD i 0 = bs.getD i 0 := by
  rw [List.getD_eq_getElem?_getD, List.getD_eq_getElem?_getD, List.getElem?_append_left h]
theorem tx_getD2 (bs ds : List Int32) (i : Nat) (h : bs.length ≤ i) : (bs ++ ds).getD i 0 = ds.getD (i - bs.length) 0 := by
  rw [List.getD_eq_getElem?_getD, List.getD_eq_getElem?_getD, List.getElem?_append_right h]
theorem tx_cat {κ : Nat} {u u1 : tmM} {bs ds : List Int32} (hT : tmTx κ u bs) (hl : bs.length + ds.length ≤ κ) (h1 : u1 0 1 = 0) (h3 : u1 0 3 = nI (bs.length + ds.length)) (hlo : ∀ i, i < bs.length → u1 1 i = u 1 i) (hmi : ∀ j, j < ds.length → u1 1 (bs.length + j) = ds.getD j 0) (hhi : ∀ i, bs.length + ds.length ≤ i → u1 1 i = u 1 i) (ha : ∀ j, j < ds.length → tm_asc (ds.getD j 0)) : tmTx κ u1 (bs ++ ds) := by
  obtain ⟨k1, k2, k3, k4, k5, k6, k7⟩ := hT
  have hlen : (bs ++ ds).length = bs.length + ds.length := List.length_append
  refine ⟨k1, by rw [hlen]; exact hl, h1, by rw [hlen]; exact h3, fun i hi => ?_, fun i hi => ?_, fun i hi => ?_⟩
  · rw [hlen] at hi
    by_cases hb : i < bs.length
    · rw [hlo i hb, tx_getD _ _ _ hb]; exact k5 i hb
    · have := hmi (i - bs.length) (by omega)
      rw [show bs.length + (i - bs.length) = i by omega] at this
      rw [this, tx_getD2 _ _ _ (by omega)]
  · rw [hlen] at hi
    by_cases hb : i < bs.length
    · rw [tx_getD _ _ _ hb]; exact k6 i hb
    · rw [tx_getD2 _ _ _ (by omega)]; exact ha _ (by omega)
  · by_cases hb : i < bs.length
    · rw [hlo i hb]; exact k7 i hi
    · by_cases hc : i < bs.length + ds.length
      · have := hmi (i - bs.length) (by omega)
        rw [show bs.length + (i - bs.length) = i by omega] at this
        rw [this]
        obtain ⟨c, hc1, hc2⟩ := ha (i - bs.length) (by omega)
        rw [hc2]; exact tx_fit c hc1
      · rw [hhi i (by omega)]; exact k7 i hi
theorem tx_lat {κ : Nat} {u : tmM} (h : u 0 1 = 0) : f_J5_isLatin1_aae02 κ u = some (1, u) := by
  unfold f_J5_isLatin1_aae02
  rw [if_neg (by decide), if_pos h]
theorem tx_enc {c : Nat} (h : c < 128) (u : tmM) : f_J1_canEncode_fc78d (nI c) u = some (1, u) := by
  unfold f_J1_canEncode_fc78d
  rw [if_neg (show ¬ (255 : Int32) < nI c from nI_nlt (a := 255) (b := c) (by omega) (by decide))]
theorem tx_ix {i κ : Nat} (h : i < κ) (hk : κ ≤ 100) : tm_ix (nI i) κ = true := decide_eq_true (nI_in h (by omega))
theorem tx_appc {κ c : Nat} {u : tmM} {bs : List Int32} (hT : tmTx κ u bs) (hc : c < 128) (hl : bs.length + 1 ≤ 70) : ∃ gr κ1 u1, f_J4_append_cf468 gr κ (nI c) u = some ((), (κ1, u1)) ∧ tmTx κ1 u1 (bs ++ [nI c]) ∧ gr ≤ 1 := by
  obtain ⟨gr, κ1, u1, e1, hT1, hq, hp⟩ := tx_ens (q := bs.length + 1) hT hl (by omega)
  have hk : κ1 ≤ 70 := by have := hT1.1; omega
  refine ⟨gr, κ1, tm_up (tm_up u1 0 3 (nI (bs.length + 1))) 1 bs.length (nI c), ?_, tx_cat hT1 hq hT1.2.2.1 rfl (fun i hi => ?_) (fun j hj => ?_) (fun i hi => ?_) (fun j hj => ?_), hp⟩
  · unfold f_J4_append_cf468 f_J5_append_3fe6f
    rw [hT.2.2.2.1, nI_1, e1]
    simp only [tS_cb, tS_cl, tS_lt, tx_lat hT1.2.2.1, tx_enc hc]
    rw [if_neg (by decide), if_neg (by decide), hT1.2.2.2.1, tx_ix (by omega) (by omega), nI_1, nI_clamp (by omega), tx_i8 c hc, tx_nar c hc]
    rfl
  · show upd (u1 1) bs.length (nI c) i = u1 1 i
    exact pk_un (by omega)
  · have : j = 0 := by simp at hj; omega
    subst this
    show upd (u1 1) bs.length (nI c) (bs.length + 0) = nI c
    rw [Nat.add_zero]; exact pk_us
  · show upd (u1 1) bs.length (nI c) i = u1 1 i
    simp at hi
    exact pk_un (by omega)
  · have : j = 0 := by simp at hj; omega
    subst this
    exact ⟨c, hc, rfl⟩
def tm_dec (n : Nat) : List Int32 := if n < 10 then [nI (48 + n)] else if n < 100 then [nI (48 + n / 10), nI (48 + n % 10)] else [nI (48 + n / 100), nI (48 + n % 100 / 10), nI (48 + n % 10)]
theorem tx_neg2 : ∀ n, n < 1000 → -(-nI n) = nI n := by decide +kernel
theorem tx_n100 : ∀ n, n < 1000 → (((-100 : Int32) < -nI n) ↔ n < 100) := by decide +kernel
theorem tx_n9 : ∀ n, n < 100 → (((-9 : Int32) ≤ -nI n) ↔ n < 10) := by decide +kernel
theorem tx_ndiv : ∀ n, n < 1000 → -nI n / 100 = -nI (n / 100) := by decide +kernel
theorem tx_nrem : ∀ n, n < 1000 → -nI (n / 100) * 100 - -nI n = nI (n % 100) := by decide +kernel
theorem tx_d1 : ∀ n, n < 100 → vp_nar .byte (tm_d1 n) = nI (48 + n % 10) := by decide +kernel
theorem tx_d10 : ∀ n, n < 100 → vp_nar .byte (tm_d10 n) = nI (48 + n / 10) := by decide +kernel
theorem tx_size (n : Nat) (hn : n < 1000) (u : tmM) : f_J6_stringSize_0f7a4 (nI n) u = some (nI (tm_dec n).length, u) := by
  have q1 : ∀ n, n < 1000 → (-nI n ≤ (-10 : Int32) ↔ 10 ≤ n) := by decide +kernel
  have q2 : ∀ n, n < 1000 → (-nI n ≤ (10 * (-10) : Int32) ↔ 100 ≤ n) := by decide +kernel
  have q3 : ∀ n, n < 1000 → ¬ (-nI n ≤ (10 * (10 * (-10)) : Int32)) := by decide +kernel
  unfold f_J6_stringSize_0f7a4 f_J6_stringSize_0f7a4_11
  rw [if_neg (nI_pos (by omega))]
  simp only [tS_lt]
  show f_J6_stringSize_0f7a4_16 _ (9997 + 1 + 1 + 1) _ _ _ _ _ = _
  unfold tm_dec
  rw [f_J6_stringSize_0f7a4_16]
  unfold f_J6_stringSize_0f7a4_16b
  rw [if_neg (by decide)]
  by_cases h1 : n < 10
  · rw [if_neg (by rw [q1 n hn]; omega), if_pos h1]; rfl
  · rw [if_pos ((q1 n hn).mpr (by omega)), if_neg h1]
    simp only [tS_lt]
    rw [f_J6_stringSize_0f7a4_16]
    unfold f_J6_stringSize_0f7a4_16b
    rw [if_neg (by decide)]
    by_cases h2 : n < 100
    · rw [if_neg (by rw [q2 n hn]; omega), if_pos h2]; rfl
    · rw [if_pos ((q2 n hn).mpr (by omega)), if_neg h2]
      simp only [tS_lt]
      rw [f_J6_stringSize_0f7a4_16]
      unfold f_J6_stringSize_0f7a4_16b
      rw [if_neg (by decide), if_neg (q3 n hn)]
      rfl

/-- the loop of getChars, one turn -/
theorem tx_gc1 (κ : Nat) (K : Int32 → Int32 → Int32 → tmM → Option (Int32 × tmM)) (m : Nat) (a b d : Int32) (v : tmM) : f_J6_getChars_ba4f3_22 κ K (m + 1) a b d v = f_J6_getChars_ba4f3_22b κ K (f_J6_getChars_ba4f3_22 κ K m) a b d v := rfl
theorem tx_p1 {p : Nat} (h : 0 < p) : nI p + (-1) = nI (p - 1) := by
  have := pk_m1 (p - 1)
  rwa [show p - 1 + 1 = p by omega] at this
theorem tx_22e (κ : Nat) (K0 : Int32 → Int32 → Int32 → tmM → Option (Int32 × tmM)) (L : Int32 → Int32 → Int32 → tmM → Option (Int32 × tmM)) (x0 x5 x6 : Int32) (v : tmM) : f_J6_getChars_ba4f3_22b κ K0 L x0 x5 x6 v = (if (-100) < x0 then K0 x0 x5 x6 v else tm_g (decide (¬ 100 = 0)) (tm_lt (x0 / 100) fun y1 => tm_lt ((y1 * 100) - x0) fun y2 => tm_g (tm_ix y2 100) (tm_g (tm_ix (x5 + (-1)) κ) (tm_lt (tm_up v 1 (x5 + (-1)).toNatClampNeg (vp_nar .byte (tm_d1 y2.toNatClampNeg))) fun v4 => tm_g (tm_ix y2 100) (tm_g (tm_ix ((x5 + (-1)) + (-1)) κ) (tm_lt (tm_up v4 1 ((x5 + (-1)) + (-1)).toNatClampNeg (vp_nar .byte (tm_d10 y2.toNatClampNeg))) fun v6 => L y1 ((x5 + (-1)) + (-1)) x6 v6)))))) := rfl
/-- the end of getChars: n < 100, behind it stands p -/
def tx_k0 (κ : Nat) : Int32 → Int32 → Int32 → tmM → Option (Int32 × tmM) := fun x17 x18 x19 v20 => tm_g (tm_ix (-x17) 100) (tm_g (tm_ix (x18 + (-1)) κ) (tm_lt (tm_up v20 1 (x18 + (-1)).toNatClampNeg (vp_nar .byte (tm_d1 (-x17).toNatClampNeg))) fun v22 => (if (-9) ≤ x17 then f_J6_getChars_ba4f3_104 κ (x18 + (-1)) x19 v22 else tm_g (tm_ix (-x17) 100) (tm_g (tm_ix ((x18 + (-1)) + (-1)) κ) (tm_lt (tm_up v22 1 ((x18 + (-1)) + (-1)).toNatClampNeg (vp_nar .byte (tm_d10 (-x17).toNatClampNeg))) fun v24 => f_J6_getChars_ba4f3_104 κ ((x18 + (-1)) + (-1)) x19 v24)))))
theorem tx_k0e (κ : Nat) (x17 x18 x19 : Int32) (v20 : tmM) : tx_k0 κ x17 x18 x19 v20 = (tm_g (tm_ix (-x17) 100) (tm_g (tm_ix (x18 + (-1)) κ) (tm_lt (tm_up v20 1 (x18 + (-1)).toNatClampNeg (vp_nar .byte (tm_d1 (-x17).toNatClampNeg))) fun v22 => (if (-9) ≤ x17 then f_J6_getChars_ba4f3_104 κ (x18 + (-1)) x19 v22 else tm_g (tm_ix (-x17) 100) (tm_g (tm_ix ((x18 + (-1)) + (-1)) κ) (tm_lt (tm_up v22 1 ((x18 + (-1)) + (-1)).toNatClampNeg (vp_nar .byte (tm_d10 (-x17).toNatClampNeg))) fun v24 => f_J6_getChars_ba4f3_104 κ ((x18 + (-1)) + (-1)) x19 v24)))))) := rfl
theorem tx_12e (κ : Nat) (x0 x5 : Int32) (v : tmM) : f_J6_getChars_ba4f3_12 κ x0 x5 0 v = f_J6_getChars_ba4f3_22 κ (tx_k0 κ) 10000 (-x0) x5 0 v := by
  unfold f_J6_getChars_ba4f3_12
  rw [if_pos rfl, tS_lt]
  rfl
theorem tx_104 (κ : Nat) (a : Int32) (v : tmM) : f_J6_getChars_ba4f3_104 κ a 0 v = some (a, v) := by
  unfold f_J6_getChars_ba4f3_104
  rw [if_pos rfl]
theorem tu_eq (v : tmM) (k j : Nat) (x : Int32) : tm_up v k j x k = upd (v k) j x := by unfold tm_up tm_set; exact if_pos rfl
theorem tu_ne (v : tmM) {k i : Nat} (j : Nat) (x : Int32) (h : i ≠ k) : tm_up v k j x i = v i := by unfold tm_up tm_set; exact if_neg h
theorem tx_k0a {κ n q : Nat} (v : tmM) (hn : n < 10) (hpk : q + 1 ≤ κ) (hk : κ ≤ 70) : tx_k0 κ (-nI n) (nI (q + 1)) 0 v = some (nI q, tm_up v 1 q (nI (48 + n))) := by
  rw [tx_k0e, tx_neg2 n (by omega), pk_m1, tx_ix (by omega) (by omega), tx_ix (by omega) (by omega), nI_clamp (by omega), nI_clamp (by omega), tx_d1 n (by omega)]
  simp only [tS_g, tS_lt]
  rw [if_pos ((tx_n9 n (by omega)).mpr hn), tx_104, Nat.mod_eq_of_lt hn]
theorem tx_k0b {κ n q : Nat} (v : tmM) (hn : n < 100) (h10 : ¬ n < 10) (hpk : q + 1 + 1 ≤ κ) (hk : κ ≤ 70) : tx_k0 κ (-nI n) (nI (q + 1 + 1)) 0 v = some (nI q, tm_up (tm_up v 1 (q + 1) (nI (48 + n % 10))) 1 q (nI (48 + n / 10))) := by
  rw [tx_k0e, tx_neg2 n (by omega), pk_m1, pk_m1, tx_ix (by omega) (by omega), tx_ix (by omega) (by omega), tx_ix (by omega) (by omega), nI_clamp (by omega), nI_clamp (by omega), nI_clamp (by omega), tx_d1 n (by omega), tx_d10 n (by omega)]
  simp only [tS_g, tS_lt]
  rw [if_neg (fun h => h10 ((tx_n9 n (by omega)).mp h)), tx_104]
theorem tx_gc0 {κ n p : Nat} (v : tmM) (hn : n < 1000) : ∃ F : Nat, f_J6_getChars_ba4f3 κ (nI n) (nI p) v = f_J6_getChars_ba4f3_22 κ (tx_k0 κ) (F + 1 + 1) (-nI n) (nI p) 0 v := by
  obtain ⟨F, hF⟩ : ∃ F : Nat, 10000 = F + 1 + 1 := ⟨9998, rfl⟩
  refine ⟨F, ?_⟩
  unfold f_J6_getChars_ba4f3
  rw [if_pos (nI_pos' (by omega)), tx_12e, hF]
theorem tx_ch1 {κ n q : Nat} (v : tmM) (h2 : n < 10) (hpk : q + 1 ≤ κ) (hk : κ ≤ 70) : f_J6_getChars_ba4f3 κ (nI n) (nI (q + 1)) v = some (nI q, tm_up v 1 q (nI (48 + n))) := by
  obtain ⟨F, e⟩ := tx_gc0 (κ := κ) (p := q + 1) v (show n < 1000 by omega)
  rw [e, tx_gc1, tx_22e, if_pos ((tx_n100 n (by omega)).mpr (by omega)), tx_k0a v h2 hpk hk]
theorem tx_ch2 {κ n q : Nat} (v : tmM) (h1 : n < 100) (h2 : ¬ n < 10) (hpk : q + 1 + 1 ≤ κ) (hk : κ ≤ 70) : f_J6_getChars_ba4f3 κ (nI n) (nI (q + 1 + 1)) v = some (nI q, tm_up (tm_up v 1 (q + 1) (nI (48 + n % 10))) 1 q (nI (48 + n / 10))) := by
  obtain ⟨F, e⟩ := tx_gc0 (κ := κ) (p := q + 1 + 1) v (show n < 1000 by omega)
  rw [e, tx_gc1, tx_22e, if_pos ((tx_n100 n (by omega)).mpr h1), tx_k0b v h1 h2 hpk hk]
theorem tx_ch3 {κ n q : Nat} (v : tmM) (hn : n < 1000) (h1 : ¬ n < 100) (hpk : q + 1 + 1 + 1 ≤ κ) (hk : κ ≤ 70) : f_J6_getChars_ba4f3 κ (nI n) (nI (q + 1 + 1 + 1)) v = some (nI q, tm_up (tm_up (tm_up v 1 (q + 1 + 1) (nI (48 + n % 100 % 10))) 1 (q + 1) (nI (48 + n % 100 / 10))) 1 q (nI (48 + n / 100))) := by
  obtain ⟨F, e⟩ := tx_gc0 (κ := κ) (p := q + 1 + 1 + 1) v hn
  have hr : n % 100 < 100 := by omega
  rw [e, tx_gc1, tx_22e, if_neg (fun h => h1 ((tx_n100 n hn).mp h))]
  have e1 : tm_g (decide (¬ (100 : Nat) = 0)) = (fun x : Option (Int32 × tmM) => x) := by
    funext x
    rw [show decide (¬ (100 : Nat) = 0) = true from by decide, tS_g]
  rw [e1]
  simp only [tS_lt]
  rw [tx_ndiv n hn, tx_nrem n hn, pk_m1, pk_m1, tx_ix hr (by omega), tx_ix (by omega) (by omega), tx_ix (by omega) (by omega), nI_clamp (by omega), nI_clamp (by omega), nI_clamp (by omega), tx_d1 _ hr, tx_d10 _ hr]
  simp only [tS_g, tS_lt]
  rw [tx_gc1, tx_22e, if_pos ((tx_n100 (n / 100) (by omega)).mpr (by omega)), tx_k0a _ (by omega) (by omega) hk]
theorem tx_chars {κ n q : Nat} (v : tmM) (hn : n < 1000) (hpk : q + (tm_dec n).length ≤ κ) (hk : κ ≤ 70) : ∃ v1, f_J6_getChars_ba4f3 κ (nI n) (nI (q + (tm_dec n).length)) v = some (nI q, v1) ∧ v1 0 = v 0 ∧ (∀ j, j < (tm_dec n).length → v1 1 (q + j) = (tm_dec n).getD j 0) ∧ ∀ i, (i < q ∨ q + (tm_dec n).length ≤ i) → v1 1 i = v 1 i := by
  by_cases h2 : n < 10
  · have hd : tm_dec n = [nI (48 + n)] := if_pos h2
    rw [hd] at hpk ⊢
    refine ⟨_, tx_ch1 v h2 hpk hk, tu_ne _ _ _ (by decide), fun j hj => ?_, fun i hi => ?_⟩
    · have : j = 0 := by simp at hj; omega
      subst this
      rw [tu_eq, show q + 0 = q from rfl, pk_us]
      rfl
    · simp at hi
      rw [tu_eq, pk_un (by omega)]
  · by_cases h1 : n < 100
    · have hd : tm_dec n = [nI (48 + n / 10), nI (48 + n % 10)] := by unfold tm_dec; rw [if_neg h2, if_pos h1]
      rw [hd] at hpk ⊢
      refine ⟨_, tx_ch2 v h1 h2 hpk hk, by rw [tu_ne _ _ _ (by decide), tu_ne _ _ _ (by decide)], fun j hj => ?_, fun i hi => ?_⟩
      · have : j = 0 ∨ j = 1 := by simp at hj; omega
        rcases this with rfl | rfl
        · rw [tu_eq, show q + 0 = q from rfl, pk_us]; rfl
        · rw [tu_eq, pk_un (by omega), tu_eq, pk_us]; rfl
      · simp at hi
        rw [tu_eq, pk_un (by omega), tu_eq, pk_un (by omega)]
    · have hd : tm_dec n = [nI (48 + n / 100), nI (48 + n % 100 / 10), nI (48 + n % 10)] := by unfold tm_dec; rw [if_neg h2, if_neg h1]
      rw [hd] at hpk ⊢
      refine ⟨_, tx_ch3 v hn h1 hpk hk, by rw [tu_ne _ _ _ (by decide), tu_ne _ _ _ (by decide), tu_ne _ _ _ (by decide)], fun j hj => ?_, fun i hi => ?_⟩
      · have h3 : n % 100 % 10 = n % 10 := by omega
        have : j = 0 ∨ j = 1 ∨ j = 2 := by simp at hj; omega
        rcases this with rfl | rfl | rfl
        · rw [tu_eq, show q + 0 = q from rfl, pk_us]; rfl
        · rw [tu_eq, pk_un (by omega), tu_eq, pk_us]; rfl
        · rw [tu_eq, pk_un (by omega), tu_eq, pk_un (by omega), tu_eq, pk_us, h3]; rfl
      · simp at hi
        rw [tu_eq, pk_un (by omega), tu_eq, pk_un (by omega), tu_eq, pk_un (by omega)]
theorem tx_u1 (v : tmM) (x : Int32) : tm_up v 0 3 x 0 1 = v 0 1 := rfl
theorem tx_u2 (v : tmM) (r : Nat → Int32) (x : Int32) (i : Nat) : tm_up (tm_set v 1 r) 0 3 x 1 i = r i := rfl
theorem tx_decA (n : Nat) (hn : n < 1000) : (tm_dec n).length ≤ 3 ∧ 1 ≤ (tm_dec n).length ∧ ∀ j, j < (tm_dec n).length → tm_asc ((tm_dec n).getD j 0) := by
  unfold tm_dec
  by_cases h1 : n < 10
  · rw [if_pos h1]
    refine ⟨Nat.le_of_ble_eq_true rfl, Nat.le_of_ble_eq_true rfl, fun j hj => ?_⟩
    have : j = 0 := by simp at hj; omega
    subst this
    exact ⟨48 + n, by omega, rfl⟩
  · rw [if_neg h1]
    by_cases h2 : n < 100
    · rw [if_pos h2]
      refine ⟨Nat.le_of_ble_eq_true rfl, Nat.le_of_ble_eq_true rfl, fun j hj => ?_⟩
      have : j = 0 ∨ j = 1 := by simp at hj; omega
      rcases this with rfl | rfl
      · exact ⟨48 + n / 10, by omega, rfl⟩
      · exact ⟨48 + n % 10, by omega, rfl⟩
    · rw [if_neg h2]
      refine ⟨Nat.le_of_ble_eq_true rfl, Nat.le_of_ble_eq_true rfl, fun j hj => ?_⟩
      have : j = 0 ∨ j = 1 ∨ j = 2 := by simp at hj; omega
      rcases this with rfl | rfl | rfl
      · exact ⟨48 + n / 100, by omega, rfl⟩
      · exact ⟨48 + n % 100 / 10, by omega, rfl⟩
      · exact ⟨48 + n % 10, by omega, rfl⟩
theorem tx_appi {κ n : Nat} {u : tmM} {bs : List Int32} (hT : tmTx κ u bs) (hn : n < 1000) (hl : bs.length + 3 ≤ 70) : ∃ gr κ1 u1, f_J4_append_bf812 gr κ (nI n) u = some ((), (κ1, u1)) ∧ tmTx κ1 u1 (bs ++ tm_dec n) ∧ gr ≤ 1 := by
  obtain ⟨hd3, hd1, hda⟩ := tx_decA n hn
  obtain ⟨gr, κ1, u1, e1, hT1, hq, hp⟩ := tx_ens (q := bs.length + (tm_dec n).length) hT (by omega) (by omega)
  have hk : κ1 ≤ 70 := by have := hT1.1; omega
  obtain ⟨v1, g1, g2, g3, g4⟩ := tx_chars (κ := κ1) (n := n) (q := bs.length) u1 hn hq hk
  refine ⟨gr, κ1, tm_up v1 0 3 (nI (bs.length + (tm_dec n).length)), ?_, tx_cat hT1 hq ?_ rfl (fun i hi => ?_) (fun j hj => ?_) (fun i hi => ?_) hda, hp⟩
  · unfold f_J4_append_bf812 f_J5_append_c97b9
    rw [hT.2.2.2.1]
    simp only [tS_lt, tx_size n hn, tS_cl, nI_add, e1, tS_cb, tx_lat hT1.2.2.1, g1]
    rw [if_neg (by decide), tS_cb]
  · rw [tx_u1, g2]; exact hT1.2.2.1
  · exact g4 i (Or.inl hi)
  · exact g3 j hj
  · exact g4 i (Or.inr hi)
def tm_wrd (o : Nat) : List Int32 := tm_byt.getD o []
theorem tx_apps {κ o : Nat} {u : tmM} {bs : List Int32} (hT : tmTx κ u bs) (ho : o = 13 ∨ o = 14) (hl : bs.length + 8 ≤ 70) : ∃ gr κ1 u1, f_J4_append_15ec4 gr κ o u = some ((), (κ1, u1)) ∧ tmTx κ1 u1 (bs ++ tm_wrd o) ∧ gr ≤ 1 := by
  have hw : (tm_wrd o).length = tm_len.getD o 0 ∧ tm_len.getD o 0 ≤ 8 := by rcases ho with rfl | rfl <;> decide
  have ha : ∀ j, j < (tm_wrd o).length → (tm_wrd o).getD j 0 = nI ((tm_wrd o).getD j 0).toNatClampNeg ∧ ((tm_wrd o).getD j 0).toNatClampNeg < 128 := by rcases ho with rfl | rfl <;> decide
  have hc : ∀ w, f_J0_coder_7d493 o w = some (0, w) := fun w => by
    unfold f_J0_coder_7d493
    rw [if_neg (by decide), decide_eq_true (by omega)]
    rfl
  have hL : ∀ w, f_J0_length_8abf5 o w = some (nI (tm_wrd o).length, w) := fun w => by
    unfold f_J0_length_8abf5
    rw [decide_eq_true (show o < 15 by omega), hc]
    simp only [tS_g, tS_cl]
    rw [sb_shr0, hw.1]
  obtain ⟨gr, κ1, u1, e1, hT1, hq, hp⟩ := tx_ens (q := bs.length + (tm_wrd o).length) hT (by omega) (by omega)
  have hk : κ1 ≤ 70 := by have := hT1.1; omega
  have hfit : ∀ i, i < (tm_wrd o).length → fits .byte (.int ((tm_wrd o).getD i 0)) = true := fun i hi => by
    rw [(ha i hi).1]; exact tx_fit _ (ha i hi).2
  have hn : (nI (tm_wrd o).length).toNatClampNeg = (tm_wrd o).length := nI_clamp (by omega)
  have hg : f_J0_getBytes_840e7 κ1 o (nI bs.length) 0 u1 = some ((), tm_set u1 1 (va_cpy (fun j => (tm_wrd o).getD j 0) (u1 1) 0 bs.length (tm_wrd o).length)) := by
    unfold f_J0_getBytes_840e7
    rw [decide_eq_true (show o < 15 by omega), hc]
    simp only [tS_g, tS_cl]
    rw [if_pos trivial, sb_shl0, ← hw.1]
    have h1 : tm_cok 0 (nI bs.length) (nI (tm_wrd o).length) (tm_wrd o).length κ1 = true := decide_eq_true ⟨by decide, nI_pos (by omega), nI_pos (by omega), by rw [hn, sb_cl0]; omega, by rw [hn, nI_clamp (by omega)]; exact hq⟩
    have h2 : tm_fit8 (fun i => (tm_byt.getD o []).getD ((0 : Int32).toNatClampNeg + i) 0) (nI (tm_wrd o).length).toNatClampNeg = true := decide_eq_true (fun i hi => by rw [hn] at hi; show fits .byte (.int ((tm_byt.getD o []).getD ((0 : Int32).toNatClampNeg + i) 0)) = true; rw [sb_cl0, Nat.zero_add]; exact hfit i hi)
    rw [h1, h2, hn, nI_clamp (by omega), sb_cl0]
    rfl
  refine ⟨gr, κ1, tm_up (tm_set u1 1 (va_cpy (fun j => (tm_wrd o).getD j 0) (u1 1) 0 bs.length (tm_wrd o).length)) 0 3 (nI (bs.length + (tm_wrd o).length)), ?_, tx_cat hT1 hq hT1.2.2.1 rfl (fun i hi => ?_) (fun j hj => ?_) (fun i hi => ?_) (fun j hj => ⟨_, (ha j hj).2, (ha j hj).1⟩), hp⟩
  · unfold f_J4_append_15ec4 f_J5_append_cf1ce
    rw [decide_eq_true (show o < 15 by omega), hL]
    simp only [tS_g, tS_cl, hT.2.2.2.1, nI_add, e1, tS_cb]
    have hp2 : f_J5_putStringAt_47b60 κ1 o (u1 0 3) u1 = some ((), tm_set u1 1 (va_cpy (fun j => (tm_wrd o).getD j 0) (u1 1) 0 bs.length (tm_wrd o).length)) := by
      unfold f_J5_putStringAt_47b60 f_J5_inflateIfNeededFor_a7421
      rw [if_neg (by decide), decide_eq_true (show o < 15 by omega), hc]
      simp only [tS_g, tS_cl]
      rw [if_pos hT1.2.2.1]
      simp only [tS_cl, hT1.2.2.1, hT1.2.2.2.1, hg]
    rw [hp2]
    show some ((), (κ1, tm_up _ 0 3 (u1 0 3 + _))) = _
    rw [hT1.2.2.2.1, nI_add]
  · rw [tx_u2]; exact pk_cpy_out (by omega)
  · rw [tx_u2, pk_cpy_in (by omega) (by omega), show 0 + (bs.length + j - bs.length) = j by omega]
  · rw [tx_u2]; exact pk_cpy_out (by omega)
theorem tx_set0 {κ : Nat} {u : tmM} {bs : List Int32} (hT : tmTx κ u bs) : ∃ u1, f_J4_setLength_d00df 0 κ 0 u = some ((), (κ, u1)) ∧ tmTx κ u1 [] := by
  obtain ⟨k1, k2, k3, k4, k5, k6, k7⟩ := hT
  have he : f_J5_ensureCapacityInternal_d00df 0 κ 0 u = some ((), (κ, u)) := by
    unfold f_J5_ensureCapacityInternal_d00df
    simp only [tS_lt, k3, sb_shr0]
    rw [if_pos]
    rcases k1 with rfl | rfl | rfl <;> decide
  unfold f_J4_setLength_d00df f_J5_setLength_d00df
  rw [if_pos (by decide), he]
  simp only [tS_cb, k4, tS_lt]
  rw [if_pos (nI_pos' (by omega))]
  have fin : ∀ u1 : tmM, u1 0 1 = 0 → u1 0 3 = 0 → u1 1 = u 1 → tmTx κ u1 [] := fun u1 h1 h2 h3 => ⟨k1, Nat.zero_le _, h1, h2, fun i hi => absurd hi (Nat.not_lt_zero _), fun i hi => absurd hi (Nat.not_lt_zero _), fun i hi => by rw [h3]; exact k7 i hi⟩
  by_cases h : nI bs.length ≤ 0
  · rw [if_pos h]
    exact ⟨_, rfl, fin _ k3 rfl rfl⟩
  · rw [if_neg h]
    exact ⟨_, rfl, fin _ k3 rfl rfl⟩
theorem tx_length {κ : Nat} {u : tmM} {bs : List Int32} (hT : tmTx κ u bs) : f_J4_length_8abf5 κ u = some (nI bs.length, u) := by
  unfold f_J4_length_8abf5 f_J5_length_8abf5
  rw [hT.2.2.2.1]
  rfl
theorem tx_and : ∀ c, c < 128 → (nI c &&& 255) = nI c := by decide +kernel
theorem tx_charAt {κ i : Nat} {u : tmM} {bs : List Int32} (hT : tmTx κ u bs) (hi : i < bs.length) : f_J4_charAt_5068e κ (nI i) u = some (bs.getD i 0, u) := by
  obtain ⟨k1, k2, k3, k4, k5, k6, k7⟩ := hT
  obtain ⟨c, hc, hb⟩ := k6 i hi
  have hk : κ ≤ 70 := by omega
  have hci : tm_ci (nI c) = true := decide_eq_true (by rw [nI_toInt (by omega)]; omega)
  have hch : ∀ w, f_J0_checkIndex_df160 (nI i) (nI bs.length) w = some ((), w) := fun w => by
    unfold f_J0_checkIndex_df160 f_J3_checkIndex_8e157
    rw [if_neg (nI_pos (by omega)), if_pos (nI_lt hi (by omega))]
    rfl
  unfold f_J4_charAt_5068e f_J5_charAt_5068e
  simp only [tS_lt, k3, k4, sb_shr0]
  rw [if_neg (show ¬ Int32.ofNat κ < nI bs.length from nI_nlt k2 (by omega)), hch]
  simp only [tS_cl]
  rw [if_pos trivial, tx_ix (by omega) (by omega), nI_clamp (by omega), k5 i hi, hb, tx_and c hc, (show ((nI c).toUInt32 % 65536).toInt32 = nI c by rw [pk_char, pk_tn (by omega), Nat.mod_eq_of_lt (by omega)]), hci]
  simp only [tS_g, tS_cl]
  rw [hci, tS_g]
