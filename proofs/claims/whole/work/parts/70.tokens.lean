/-! ===== the script: tokens ===== -/
theorem mu_self (v : tmM) (k j : Nat) : tm_up v k j (v k j) = v := by
  funext c i
  rw [mu_if]
  by_cases h : c = k ∧ i = j
  · rw [if_pos h, h.1, h.2]
  · rw [if_neg h]
theorem mu_mu (v : tmM) (k j : Nat) (x y : Int32) : tm_up (tm_up v k j x) k j y = tm_up v k j y := by
  funext c i
  rw [mu_if, mu_if, mu_if]
  by_cases h : c = k ∧ i = j
  · rw [if_pos h, if_pos h]
  · rw [if_neg h, if_neg h, if_neg h]
theorem mu_co (v : tmM) (k j c i : Nat) (x y : Int32) (h : k ≠ c ∨ j ≠ i) : tm_up (tm_up v k j x) c i y = tm_up (tm_up v c i y) k j x := by
  funext a b
  rw [mu_if, mu_if, mu_if, mu_if]
  by_cases h1 : a = c ∧ b = i
  · by_cases h2 : a = k ∧ b = j
    · omega
    · rw [if_pos h1, if_neg h2, if_pos h1]
  · by_cases h2 : a = k ∧ b = j
    · rw [if_neg h1, if_pos h2, if_pos h2]
    · rw [if_neg h1, if_neg h2, if_neg h2, if_neg h1]
def pT (t : Nat) (v w : tmM) : Prop := t ≤ 600 ∧ v 251 1 = nI t ∧ w 0 16 = nI t ∧ (∀ i, i < t → v 252 i = w 8 i &&& 255 ∧ mByt (w 8 i)) ∧ gC w
/-- the number that the reference reads -/
def g8 (v : tmM) (i : Nat) (a : Int32) : Int32 := if a ≤ 10000 then ((10 * a) + v 252 i) - 48 else a
def pK (t s e : Nat) (v w : tmM) : Prop := v 251 9 = nI s ∧ w 0 18 = nI s ∧ v 251 10 = nI e ∧ w 0 17 = nI e ∧ s ≤ e ∧ e ≤ t ∧ v 251 8 = w 0 19 ∧ (∃ k, k ≤ 4 ∧ w 0 19 = nI k) ∧ (w 0 19 = 2 → w 0 20 = mFold (g8 v) (e - s) s 0 ∧ ∀ i, s ≤ i → i < e → ∃ c, 48 ≤ c ∧ c ≤ 57 ∧ v 252 i = nI c)
def pN (v w v' w' : tmM) : Prop := (∀ c, c ≠ 251 → v' c = v c) ∧ (∀ j, j ≠ 8 → j ≠ 9 → j ≠ 10 → v' 251 j = v 251 j) ∧ (∀ c, c ≠ 0 → w' c = w c) ∧ ∀ j, (j < 17 ∨ 20 < j) → w' 0 j = w 0 j
theorem pN.trans {v w v1 w1 v2 w2 : tmM} (h : pN v w v1 w1) (k : pN v1 w1 v2 w2) : pN v w v2 w2 := ⟨fun c a => (k.1 c a).trans (h.1 c a), fun j a b c => (k.2.1 j a b c).trans (h.2.1 j a b c), fun c a => (k.2.2.1 c a).trans (h.2.2.1 c a), fun j a => (k.2.2.2 j a).trans (h.2.2.2 j a)⟩
theorem pT_ext {t : Nat} {v w v' w' : tmM} (h1 : v' 251 1 = v 251 1) (h2 : v' 252 = v 252) (h3 : w' 0 16 = w 0 16) (h4 : w' 8 = w 8) (h5 : w' 7 = w 7) (h6 : w' 9 = w 9) (h : pT t v w) : pT t v' w' := by
  obtain ⟨a, b, c, d, e⟩ := h
  exact ⟨a, h1.trans b, h3.trans c, fun i hi => by rw [h2, h4]; exact d i hi, gC_ext h5 h6 e⟩
/-- the kind of a sign -/
def mKd (c : Int32) : Nat := if 97 ≤ c ∧ c ≤ 122 then 1 else if 48 ≤ c ∧ c ≤ 57 then 2 else if c = 59 then 3 else 4
theorem mKd_le (c : Int32) : 1 ≤ mKd c ∧ mKd c ≤ 4 := by
  unfold mKd
  split
  · decide
  · split
    · decide
    · split <;> decide
theorem pk_kind (c : Int32) (v : tmM) : f_X3_kindOf c v = some (nI (mKd c), v) := by
  unfold f_X3_kindOf f_X3_kindOf_14 f_X3_kindOf_28 mKd
  by_cases h1 : c < 97
  · rw [if_pos h1, if_neg (show ¬ (97 ≤ c ∧ c ≤ 122) from fun q => Int32.not_le.mpr h1 q.1)]
    by_cases h2 : c < 48
    · rw [if_pos h2, if_neg (show ¬ (48 ≤ c ∧ c ≤ 57) from fun q => Int32.not_le.mpr h2 q.1)]
      split <;> rfl
    · by_cases h3 : 57 < c
      · rw [if_neg h2, if_pos h3, if_neg (show ¬ (48 ≤ c ∧ c ≤ 57) from fun q => Int32.not_le.mpr h3 q.2)]
        split <;> rfl
      · rw [if_neg h2, if_neg h3, if_pos ⟨Int32.not_lt.mp h2, Int32.not_lt.mp h3⟩]
        rfl
  · rw [if_neg h1]
    by_cases h4 : 122 < c
    · rw [if_pos h4, if_neg (show ¬ (97 ≤ c ∧ c ≤ 122) from fun q => Int32.not_le.mpr h4 q.2)]
      have h2 : ¬ c < 48 := fun q => by
        rw [Int32.lt_iff_toInt_lt] at q h4
        have e1 : (48 : Int32).toInt = 48 := rfl
        have e2 : (122 : Int32).toInt = 122 := rfl
        omega
      have h3 : 57 < c := by
        rw [Int32.lt_iff_toInt_lt] at h4 ⊢
        have e1 : (57 : Int32).toInt = 57 := rfl
        have e2 : (122 : Int32).toInt = 122 := rfl
        omega
      rw [if_neg h2, if_pos h3, if_neg (show ¬ (48 ≤ c ∧ c ≤ 57) from fun q => Int32.not_le.mpr h3 q.2)]
      split <;> rfl
    · rw [if_neg h4, if_pos ⟨Int32.not_lt.mp h1, Int32.not_lt.mp h4⟩]
      rfl
theorem pq_in (x a b : Int32) (w : tmM) : f_X8_in x a b w = some (if a ≤ x ∧ x ≤ b then 1 else 0, w) := by
  unfold f_X8_in
  by_cases h1 : x < a
  · rw [if_pos h1, if_neg (fun q => Int32.not_le.mpr h1 q.1)]
  · by_cases h2 : b < x
    · rw [if_neg h1, if_pos h2, if_neg (fun q => Int32.not_le.mpr h2 q.2)]
    · rw [if_neg h1, if_neg h2, if_pos ⟨Int32.not_lt.mp h1, Int32.not_lt.mp h2⟩]
section
variable {t : Nat} {v w : tmM}
/-- the sign at a place, -1 at the end -/
def mSe (t : Nat) (v : tmM) (i : Nat) : Int32 := if t ≤ i then -1 else v 252 i
theorem mSe_chr (h : pT t v w) {i : Nat} (hi : i < t) : ∃ c, c < 256 ∧ v 252 i = nI c := by
  obtain ⟨_, _, _, h4, _⟩ := h
  have h5 := (h4 i hi).1
  have e : w 8 i &&& 255 = nI ((w 8 i).toBitVec.toNat % 256) := by
    have : w 8 i = nI (w 8 i).toBitVec.toNat := by
      apply Int32.toBitVec_inj.mp
      show _ = BitVec.ofNat 32 _
      rw [BitVec.ofNat_toNat, BitVec.setWidth_eq]
    rw [this, show (255 : Int32) = nI 255 from rfl, mb_and, show 255 = 2 ^ 8 - 1 from rfl, Nat.and_two_pow_sub_one_eq_mod]
    congr 1
    show _ = (BitVec.ofNat 32 (w 8 i).toBitVec.toNat).toNat % 256
    rw [BitVec.ofNat_toNat, BitVec.setWidth_eq]
  exact ⟨_, Nat.mod_lt _ (by decide), h5.trans e⟩
theorem pk_see (h : pT t v w) {x : tmM} {i : Nat} (hi : i ≤ t) (e16 : x 0 16 = nI t) (e17 : x 0 17 = nI i) (e8 : x 8 = w 8) : f_X8_see x = some (mSe t v i, x) := by
  obtain ⟨h1, h2, h3, h4, h5⟩ := h
  unfold f_X8_see mSe
  rw [e16, e17]
  by_cases q : t ≤ i
  · rw [if_pos (nI_le q (by omega)), if_pos q]
  · rw [if_neg (nI_ge (by omega) (by omega)), if_neg q, ms_gi (show i < 600 by omega) (by decide), nI_clamp (by omega), e8, ← (h4 i (by omega)).1]
theorem pk_small (h : pT t v w) {x : tmM} {i : Nat} (hi : i ≤ t) (e16 : x 0 16 = nI t) (e17 : x 0 17 = nI i) (e8 : x 8 = w 8) : f_X8_isSmall x = some (if i < t ∧ mKd (v 252 i) = 1 then 1 else 0, x) := by
  unfold f_X8_isSmall
  rw [ms_cl (pk_see h hi e16 e17 e8), ms_cl (pq_in _ _ _ _)]
  have e : (if (97 : Int32) ≤ mSe t v i ∧ mSe t v i ≤ 122 then (1 : Int32) else 0) = if i < t ∧ mKd (v 252 i) = 1 then 1 else 0 := by
    unfold mSe mKd
    by_cases q : t ≤ i
    · rw [if_pos q, if_neg (by decide), if_neg (fun z => by omega)]
    · rw [if_neg q]
      by_cases z : 97 ≤ v 252 i ∧ v 252 i ≤ 122
      · rw [if_pos z, if_pos z, if_pos ⟨by omega, rfl⟩]
      · rw [if_neg z, if_neg z, if_neg]
        intro y
        have := y.2
        split at this
        · exact absurd this (by decide)
        · split at this <;> exact absurd this (by decide)
  rw [e, ms_g]
  by_cases q : i < t ∧ mKd (v 252 i) = 1
  · rw [if_pos q]; rfl
  · rw [if_neg q]; rfl
theorem pk_digit (h : pT t v w) {x : tmM} {i : Nat} (hi : i ≤ t) (e16 : x 0 16 = nI t) (e17 : x 0 17 = nI i) (e8 : x 8 = w 8) : f_X8_isDigit x = some (if i < t ∧ mKd (v 252 i) = 2 then 1 else 0, x) := by
  unfold f_X8_isDigit
  rw [ms_cl (pk_see h hi e16 e17 e8), ms_cl (pq_in _ _ _ _)]
  have e : (if (48 : Int32) ≤ mSe t v i ∧ mSe t v i ≤ 57 then (1 : Int32) else 0) = if i < t ∧ mKd (v 252 i) = 2 then 1 else 0 := by
    unfold mSe mKd
    by_cases q : t ≤ i
    · rw [if_pos q, if_neg (by decide), if_neg (fun z => by omega)]
    · rw [if_neg q]
      by_cases y : 97 ≤ v 252 i ∧ v 252 i ≤ 122
      · have z : ¬ (48 ≤ v 252 i ∧ v 252 i ≤ 57) := fun z => by
          have a := y.1
          have b := z.2
          rw [Int32.le_iff_toInt_le] at a b
          have e1 : (57 : Int32).toInt = 57 := rfl
          have e2 : (97 : Int32).toInt = 97 := rfl
          omega
        rw [if_neg z, if_pos y, if_neg (fun q => absurd q.2 (by decide))]
      · by_cases z : 48 ≤ v 252 i ∧ v 252 i ≤ 57
        · rw [if_pos z, if_neg y, if_pos z, if_pos ⟨by omega, rfl⟩]
        · rw [if_neg z, if_neg y, if_neg z, if_neg]
          intro x
          have := x.2
          split at this <;> exact absurd this (by decide)
  rw [e, ms_g]
  by_cases q : i < t ∧ mKd (v 252 i) = 2
  · rw [if_pos q]; rfl
  · rw [if_neg q]; rfl
/-- spaces and ends of lines are passed over -/
theorem pk_skip (h : pT t v w) : ∀ (d i F : Nat), d + i = t → d < F → ∃ s, i ≤ s ∧ s ≤ t ∧ (∀ K, f_X3_nextToken_8 K F (tm_up v 251 9 (nI i)) = K (tm_up v 251 9 (nI s))) ∧ ∀ K, f_X8_goesOn_0 K F (tm_up w 0 17 (nI i)) = K (tm_up w 0 17 (nI s)) := by
  intro d
  induction d with
  | zero =>
    intro i F hd hF
    obtain ⟨F, rfl⟩ : ∃ G, F = G + 1 := ⟨F - 1, by omega⟩
    have hs := pk_see h (x := tm_up w 0 17 (nI i)) (i := i) (by omega) ((mu_ne (by omega)).trans h.2.2.1) (mu_eq _ _ _ _) (tu_ne _ _ _ (by decide))
    have h3 := h.1
    refine ⟨i, Nat.le_refl _, by omega, fun K => ?_, fun K => ?_⟩
    · show f_X3_nextToken_8b _ _ _ = _
      unfold f_X3_nextToken_8b
      rw [mu_ne (by omega), h.2.1, mu_eq, if_pos (nI_le (by omega) (by omega))]
    · show f_X8_goesOn_0b _ _ _ = _
      unfold f_X8_goesOn_0b
      have e : mSe t v i = -1 := if_pos (by omega)
      rw [ms_cl hs, e, if_neg (by decide), ms_cl hs, e, if_neg (by decide)]
  | succ d ih =>
    intro i F hd hF
    obtain ⟨F, rfl⟩ : ∃ G, F = G + 1 := ⟨F - 1, by omega⟩
    have hs := pk_see h (x := tm_up w 0 17 (nI i)) (i := i) (by omega) ((mu_ne (by omega)).trans h.2.2.1) (mu_eq _ _ _ _) (tu_ne _ _ _ (by decide))
    have h3 := h.1
    have e : mSe t v i = v 252 i := if_neg (by omega)
    obtain ⟨s, s1, s2, s3, s4⟩ := ih (i + 1) F (by omega) (by omega)
    have c7 : ∀ K, f_X3_nextToken_8 K (F + 1) (tm_up v 251 9 (nI i)) = if v 252 i = 32 ∨ v 252 i = 10 then f_X3_nextToken_8 K F (tm_up v 251 9 (nI (i + 1))) else K (tm_up v 251 9 (nI i)) := fun K => by
      show f_X3_nextToken_8b _ _ _ = _
      unfold f_X3_nextToken_8b f_X3_nextToken_47
      rw [mu_ne (by omega), h.2.1, mu_eq, if_neg (nI_ge (by omega) (by omega)), ms_gi (show i < 600 by omega) (by decide), ms_gi (show i < 600 by omega) (by decide), nI_clamp (by omega), tu_ne _ _ _ (by decide), tS_lt, nI_1, mu_mu]
      by_cases q : v 252 i = 32
      · rw [if_pos q, if_pos (Or.inl q)]
      · rw [if_neg q]
        by_cases z : v 252 i = 10
        · rw [if_pos z, if_pos (Or.inr z)]
        · rw [if_neg z, if_neg (fun y => y.elim q z)]
    have c8 : ∀ K, f_X8_goesOn_0 K (F + 1) (tm_up w 0 17 (nI i)) = if v 252 i = 32 ∨ v 252 i = 10 then f_X8_goesOn_0 K F (tm_up w 0 17 (nI (i + 1))) else K (tm_up w 0 17 (nI i)) := fun K => by
      show f_X8_goesOn_0b _ _ _ = _
      unfold f_X8_goesOn_0b f_X8_goesOn_18
      rw [ms_cl hs, ms_cl hs, e, tS_lt, mu_eq, nI_1, mu_mu]
      by_cases q : v 252 i = 32
      · rw [if_pos q, if_pos (Or.inl q)]
      · rw [if_neg q]
        by_cases z : v 252 i = 10
        · rw [if_pos z, if_pos (Or.inr z)]
        · rw [if_neg z, if_neg (fun y => y.elim q z)]
    by_cases q : v 252 i = 32 ∨ v 252 i = 10
    · exact ⟨s, by omega, s2, fun K => by rw [c7, if_pos q, s3], fun K => by rw [c8, if_pos q, s4]⟩
    · exact ⟨i, Nat.le_refl _, by omega, fun K => by rw [c7, if_neg q], fun K => by rw [c8, if_neg q]⟩
/-- the class's loop over signs of one kind -/
theorem pk_run7 (h : pT t v w) {k : Nat} {u : tmM} (hu1 : u 251 1 = nI t) (hu2 : u 252 = v 252) (hk : k ≤ 4) (hu8 : u 251 8 = nI k) (K : tmM → Option (Unit × tmM)) : ∀ (d i F : Nat), d + i = t → d < F → ∃ e, i ≤ e ∧ e ≤ t ∧ (∀ j, i ≤ j → j < e → mKd (v 252 j) = k) ∧ (e < t → ¬ mKd (v 252 e) = k) ∧ f_X3_nextToken_115 K F (tm_up u 251 10 (nI i)) = K (tm_up u 251 10 (nI e)) := by
  intro d
  induction d with
  | zero =>
    intro i F hd hF
    obtain ⟨F, rfl⟩ : ∃ G, F = G + 1 := ⟨F - 1, by omega⟩
    have h3 := h.1
    refine ⟨i, Nat.le_refl _, by omega, fun j a b => absurd b (by omega), fun q => absurd q (by omega), ?_⟩
    show f_X3_nextToken_115b _ _ _ = _
    unfold f_X3_nextToken_115b
    rw [mu_ne (by omega), hu1, mu_eq, if_pos (nI_le (by omega) (by omega))]
  | succ d ih =>
    intro i F hd hF
    obtain ⟨F, rfl⟩ : ∃ G, F = G + 1 := ⟨F - 1, by omega⟩
    have h3 := h.1
    obtain ⟨e, e1, e2, e3, e4, e5⟩ := ih (i + 1) F (by omega) (by omega)
    have c7 : f_X3_nextToken_115 K (F + 1) (tm_up u 251 10 (nI i)) = if mKd (v 252 i) = k then f_X3_nextToken_115 K F (tm_up u 251 10 (nI (i + 1))) else K (tm_up u 251 10 (nI i)) := by
      show f_X3_nextToken_115b _ _ _ = _
      unfold f_X3_nextToken_115b
      have hl := mKd_le (v 252 i)
      rw [mu_ne (by omega), hu1, mu_eq, if_neg (nI_ge (by omega) (by omega)), ms_gi (show i < 600 by omega) (by decide), nI_clamp (by omega), tu_ne _ _ _ (by decide), hu2, ms_cl (pk_kind _ _), mu_ne (by omega), hu8, tS_lt, mu_eq, nI_1, mu_mu]
      by_cases q : mKd (v 252 i) = k
      · rw [if_pos (by rw [q]), if_pos q]
      · rw [if_neg (fun z => q ((nI_eq (by omega) (by omega)).mp z)), if_neg q]
    by_cases q : mKd (v 252 i) = k
    · refine ⟨e, by omega, e2, fun j a b => ?_, e4, by rw [c7, if_pos q, e5]⟩
      by_cases z : j = i
      · rw [z]; exact q
      · exact e3 j (by omega) b
    · exact ⟨i, Nat.le_refl _, by omega, fun j a b => absurd b (by omega), fun _ => q, by rw [c7, if_neg q]⟩
/-- the reference's loop over small letters, to the same end -/
theorem pk_run8 (h : pT t v w) {u : tmM} (hu1 : u 0 16 = nI t) (hu2 : u 8 = w 8) (hu8 : u 0 19 = 1) (K : tmM → Option (Unit × tmM)) {e : Nat} (he : e ≤ t) (h4 : e < t → ¬ mKd (v 252 e) = 1) : ∀ (d i F : Nat), d + i = e → d < F → (∀ j, i ≤ j → j < e → mKd (v 252 j) = 1) → f_X8_goesOn_118 K F (tm_up u 0 17 (nI i)) = K (tm_up u 0 17 (nI e)) := by
  intro d
  induction d with
  | zero =>
    intro i F hd hF hj
    obtain ⟨F, rfl⟩ : ∃ G, F = G + 1 := ⟨F - 1, by omega⟩
    have hs := pk_small h (x := tm_up u 0 17 (nI i)) (i := i) (by omega) ((mu_ne (by omega)).trans hu1) (mu_eq _ _ _ _) ((tu_ne _ _ _ (by decide)).trans hu2)
    show f_X8_goesOn_118b _ _ _ = _
    unfold f_X8_goesOn_118b
    have hie : i = e := by omega
    subst hie
    rw [mu_ne (by omega), hu8, if_pos rfl, ms_cl hs, if_neg (show ¬ (i < t ∧ mKd (v 252 i) = 1) from fun q => h4 q.1 q.2), if_pos rfl]
  | succ d ih =>
    intro i F hd hF hj
    obtain ⟨F, rfl⟩ : ∃ G, F = G + 1 := ⟨F - 1, by omega⟩
    have hs := pk_small h (x := tm_up u 0 17 (nI i)) (i := i) (by omega) ((mu_ne (by omega)).trans hu1) (mu_eq _ _ _ _) ((tu_ne _ _ _ (by decide)).trans hu2)
    show f_X8_goesOn_118b _ _ _ = _
    unfold f_X8_goesOn_118b
    rw [mu_ne (by omega), hu8, if_pos rfl, ms_cl hs, if_pos (show i < t ∧ mKd (v 252 i) = 1 from ⟨by omega, hj i (Nat.le_refl _) (by omega)⟩), if_neg mr_10, tS_lt, mu_eq, nI_1, mu_mu]
    exact ih (i + 1) F (by omega) (by omega) (fun j a b => hj j (by omega) b)
/-- and over digits, with the number -/
theorem pk_run9 (h : pT t v w) {u : tmM} (hu1 : u 0 16 = nI t) (hu2 : u 8 = w 8) (hu8 : u 0 19 = 2) (K : tmM → Option (Unit × tmM)) {e : Nat} (he : e ≤ t) (h4 : e < t → ¬ mKd (v 252 e) = 2) : ∀ (d i F : Nat) (a : Int32), d + i = e → d < F → (∀ j, i ≤ j → j < e → mKd (v 252 j) = 2) → f_X8_goesOn_146 K F (tm_up (tm_up u 0 20 a) 0 17 (nI i)) = K (tm_up (tm_up u 0 20 (mFold (g8 v) d i a)) 0 17 (nI e)) := by
  intro d
  induction d with
  | zero =>
    intro i F a hd hF hj
    obtain ⟨F, rfl⟩ : ∃ G, F = G + 1 := ⟨F - 1, by omega⟩
    have hs := pk_digit h (x := tm_up (tm_up u 0 20 a) 0 17 (nI i)) (i := i) (by omega) ((mu_ne (by omega)).trans ((mu_ne (by omega)).trans hu1)) (mu_eq _ _ _ _) ((tu_ne _ _ _ (by decide)).trans ((tu_ne _ _ _ (by decide)).trans hu2))
    show f_X8_goesOn_146b _ _ _ = _
    unfold f_X8_goesOn_146b
    have hie : i = e := by omega
    subst hie
    rw [mu_ne (by omega), mu_ne (by omega), hu8, if_pos rfl, ms_cl hs, if_neg (show ¬ (i < t ∧ mKd (v 252 i) = 2) from fun q => h4 q.1 q.2), if_pos rfl]
    rfl
  | succ d ih =>
    intro i F a hd hF hj
    obtain ⟨F, rfl⟩ : ∃ G, F = G + 1 := ⟨F - 1, by omega⟩
    have x16 : tm_up (tm_up u 0 20 a) 0 17 (nI i) 0 16 = nI t := (mu_ne (by omega)).trans ((mu_ne (by omega)).trans hu1)
    have x8 : tm_up (tm_up u 0 20 a) 0 17 (nI i) 8 = w 8 := (tu_ne _ _ _ (by decide)).trans ((tu_ne _ _ _ (by decide)).trans hu2)
    have hs := pk_digit h (x := tm_up (tm_up u 0 20 a) 0 17 (nI i)) (i := i) (by omega) x16 (mu_eq _ _ _ _) x8
    have hse := pk_see h (x := tm_up (tm_up u 0 20 a) 0 17 (nI i)) (i := i) (by omega) x16 (mu_eq _ _ _ _) x8
    have e20 : tm_up (tm_up u 0 20 a) 0 17 (nI i) 0 20 = a := by rw [mu_ne (by omega), mu_eq]
    have es : mSe t v i = v 252 i := if_neg (by omega)
    have up : ∀ b, tm_up (tm_up (tm_up (tm_up u 0 20 a) 0 17 (nI i)) 0 20 b) 0 17 (nI (i + 1)) = tm_up (tm_up u 0 20 b) 0 17 (nI (i + 1)) := fun b => by
      rw [mu_co (tm_up u 0 20 a) 0 17 0 20 (nI i) b (by omega), mu_mu, mu_mu]
    show f_X8_goesOn_146b _ _ _ = _
    unfold f_X8_goesOn_146b f_X8_goesOn_194
    rw [mu_ne (by omega), mu_ne (by omega), hu8, if_pos rfl, ms_cl hs, if_pos (show i < t ∧ mKd (v 252 i) = 2 from ⟨by omega, hj i (Nat.le_refl _) (by omega)⟩), if_neg mr_10, e20, ms_cl hse, es]
    simp only [tS_lt]
    have e17 : ∀ b, tm_up (tm_up (tm_up u 0 20 a) 0 17 (nI i)) 0 20 b 0 17 = nI i := fun b => by rw [mu_ne (by omega), mu_eq]
    simp only [e17, nI_1, up]
    have e9 : (if a ≤ 10000 then f_X8_goesOn_146 K F (tm_up (tm_up u 0 20 (((10 * a) + v 252 i) - 48)) 0 17 (nI (i + 1))) else f_X8_goesOn_146 K F (tm_up (tm_up u 0 20 a) 0 17 (nI (i + 1)))) = f_X8_goesOn_146 K F (tm_up (tm_up u 0 20 (g8 v i a)) 0 17 (nI (i + 1))) := by
      unfold g8
      split <;> rfl
    rw [e9]
    exact ih (i + 1) F _ (by omega) (by omega) (fun j a b => hj j (by omega) b)
end
