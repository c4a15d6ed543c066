/-! ===== THE MATHEMATICS: finding and folding, small checks on both sides ===== -/
def mFind (p : Nat → Prop) [DecidablePred p] : Nat → Nat → Int32
  | 0, _ => -1
  | d + 1, i => if p i then nI i else mFind p d (i + 1)
def mFold {α : Type} (g : Nat → α → α) : Nat → Nat → α → α
  | 0, _, a => a
  | d + 1, i, a => mFold g d (i + 1) (g i a)
theorem mFind_t {p : Nat → Prop} [DecidablePred p] {d i : Nat} (h : p i) : mFind p (d + 1) i = nI i := if_pos h
theorem mFind_f {p : Nat → Prop} [DecidablePred p] {d i : Nat} (h : ¬ p i) : mFind p (d + 1) i = mFind p d (i + 1) := if_neg h
theorem mFind_congr {p q : Nat → Prop} [DecidablePred p] [DecidablePred q] : ∀ (d i : Nat), (∀ j, i ≤ j → j < i + d → (p j ↔ q j)) → mFind p d i = mFind q d i
  | 0, _, _ => rfl
  | d + 1, i, h => by
    show (if p i then nI i else mFind p d (i + 1)) = if q i then nI i else mFind q d (i + 1)
    have h0 := h i (Nat.le_refl _) (by omega)
    have h1 := mFind_congr d (i + 1) (fun j a b => h j (by omega) (by omega))
    by_cases hp : p i
    · rw [if_pos hp, if_pos (h0.mp hp)]
    · rw [if_neg hp, if_neg (fun q => hp (h0.mpr q)), h1]
theorem mFold_congr {α : Type} {f g : Nat → α → α} : ∀ (d i : Nat) (a : α), (∀ j, i ≤ j → j < i + d → ∀ x, f j x = g j x) → mFold f d i a = mFold g d i a
  | 0, _, _, _ => rfl
  | d + 1, i, a, h => by
    show mFold f d (i + 1) (f i a) = mFold g d (i + 1) (g i a)
    rw [h i (Nat.le_refl _) (by omega)]
    exact mFold_congr d (i + 1) _ (fun j a b => h j (by omega) (by omega))
/-- what is found: -1 and none has it, or the first that has it -/
theorem mFind_spec (p : Nat → Prop) [DecidablePred p] : ∀ (d i : Nat), (mFind p d i = -1 ∧ ∀ j, i ≤ j → j < i + d → ¬ p j) ∨ ∃ j, i ≤ j ∧ j < i + d ∧ mFind p d i = nI j ∧ p j ∧ ∀ x, i ≤ x → x < j → ¬ p x
  | 0, i => Or.inl ⟨rfl, fun j a b => absurd b (by omega)⟩
  | d + 1, i => by
    by_cases hp : p i
    · exact Or.inr ⟨i, Nat.le_refl _, by omega, if_pos hp, hp, fun x a b => absurd b (by omega)⟩
    · have e : mFind p (d + 1) i = mFind p d (i + 1) := if_neg hp
      rcases mFind_spec p d (i + 1) with ⟨h1, h2⟩ | ⟨j, h1, h2, h3, h4, h5⟩
      · refine Or.inl ⟨e.trans h1, fun j a b => ?_⟩
        by_cases hj : j = i
        · rw [hj]; exact hp
        · exact h2 j (by omega) (by omega)
      · refine Or.inr ⟨j, by omega, by omega, e.trans h3, h4, fun x a b => ?_⟩
        by_cases hx : x = i
        · rw [hx]; exact hp
        · exact h5 x (by omega) b
theorem mz_neg {j : Nat} (h : j < 2147483648) : ¬ nI j = -1 := fun q => nI_pos (n := j) h (by rw [q]; decide)
theorem mz_ix {k n : Nat} (h : k < n) (hn : n < 2147483648) : tm_ix (nI k) n = true := decide_eq_true (nI_in h hn)
/-! a step of a walk over two numbers' worlds -/
theorem ms_cl {α β : Type} {o : Option (α × tmM)} {a : α} {v : tmM} {k : α → tmM → Option β} (h : o = some (a, v)) : tm_cl o k = k a v := by rw [h, tS_cl]
theorem ms_g {β : Type} {b : Bool} {x : Option β} (h : b = true) : tm_g b x = x := by rw [h, tS_g]
theorem ms_gi {β : Type} {k n : Nat} {x : Option β} (h : k < n) (hn : n < 2147483648) : tm_g (tm_ix (nI k) n) x = x := ms_g (mz_ix h hn)
theorem ms_gd {β : Type} {p : Prop} [Decidable p] {x : Option β} (h : p) : tm_g (decide p) x = x := ms_g (decide_eq_true h)
/-! ranges -/
theorem mk_in0 (x : Int32) (n : Nat) (hn : n < 2147483647) (w : tmM) : (x < 0 → f_X8_in x 0 (nI n) w = some (0, w)) ∧ (nI (n + 1) ≤ x → f_X8_in x 0 (nI n) w = some (0, w)) ∧ ∀ k, k ≤ n → x = nI k → f_X8_in x 0 (nI n) w = some (1, w) := by
  unfold f_X8_in
  refine ⟨fun h => if_pos h, fun h => ?_, fun k hk hx => ?_⟩
  · by_cases h0 : x < 0
    · exact if_pos h0
    · rw [if_neg h0]
      obtain ⟨j, hj, rfl⟩ := nI_of h0
      exact if_pos ((nI_ltI (by omega) hj).mpr (by have := (nI_leI (a := n + 1) (b := j) (by omega) hj).mp h; omega))
  · rw [hx, if_neg (nI_pos (by omega)), if_neg (nI_nlt hk (by omega))]
theorem mk_key (x : Int32) : (∀ v w, f_X7_isKey x v = some (0, v) ∧ f_X8_isKey x w = some (0, w)) ∨ ∃ k, k < 60 ∧ x = nI k ∧ ∀ v w, f_X7_isKey x v = some (1, v) ∧ f_X8_isKey x w = some (1, w) := by
  rcases pk_ix x (n := 60) (by decide) with h | h | ⟨k, hk, rfl⟩
  · refine Or.inl fun v w => ⟨if_pos h, ?_⟩
    have e : f_X8_in x 0 59 w = some (0, w) := (mk_in0 x 59 (by decide) w).1 h
    unfold f_X8_isKey
    rw [ms_cl e]
    rfl
  · refine Or.inl fun v w => ⟨?_, ?_⟩
    · unfold f_X7_isKey
      by_cases h0 : x < 0
      · exact if_pos h0
      · rw [if_neg h0]; exact if_pos h
    · have e : f_X8_in x 0 59 w = some (0, w) := (mk_in0 x 59 (by decide) w).2.1 h
      unfold f_X8_isKey
      rw [ms_cl e]
      rfl
  · refine Or.inr ⟨k, hk, rfl, fun v w => ⟨?_, ?_⟩⟩
    · unfold f_X7_isKey
      rw [if_neg (nI_pos (by omega)), if_neg (show ¬ (60 : Int32) ≤ nI k from nI_ge hk (by decide))]
    · have e : f_X8_in (nI k) 0 59 w = some (1, w) := (mk_in0 (nI k) 59 (by decide) w).2.2 k (by omega) rfl
      unfold f_X8_isKey
      rw [ms_cl e]
      rfl
theorem mk_chunk (x : Int32) : (∀ v w, f_X7_isChunk x v = some (0, v) ∧ f_X8_isChunk x w = some (0, w)) ∨ ∃ k, k < 15 ∧ x = nI k ∧ ∀ v w, f_X7_isChunk x v = some (1, v) ∧ f_X8_isChunk x w = some (1, w) := by
  rcases pk_ix x (n := 15) (by decide) with h | h | ⟨k, hk, rfl⟩
  · refine Or.inl fun v w => ⟨if_pos h, ?_⟩
    have e : f_X8_in x 0 14 w = some (0, w) := (mk_in0 x 14 (by decide) w).1 h
    unfold f_X8_isChunk
    rw [ms_cl e]
    rfl
  · refine Or.inl fun v w => ⟨?_, ?_⟩
    · unfold f_X7_isChunk
      by_cases h0 : x < 0
      · exact if_pos h0
      · rw [if_neg h0]; exact if_pos h
    · have e : f_X8_in x 0 14 w = some (0, w) := (mk_in0 x 14 (by decide) w).2.1 h
      unfold f_X8_isChunk
      rw [ms_cl e]
      rfl
  · refine Or.inr ⟨k, hk, rfl, fun v w => ⟨?_, ?_⟩⟩
    · unfold f_X7_isChunk
      rw [if_neg (nI_pos (by omega)), if_neg (show ¬ (15 : Int32) ≤ nI k from nI_ge hk (by decide))]
    · have e : f_X8_in (nI k) 0 14 w = some (1, w) := (mk_in0 (nI k) 14 (by decide) w).2.2 k (by omega) rfl
      unfold f_X8_isChunk
      rw [ms_cl e]
      rfl
theorem mk_reader (x : Int32) : (∀ v w, f_X7_isReader x v = some (0, v) ∧ f_X8_isReader x w = some (0, w)) ∨ ∃ k, k < 8 ∧ x = nI k ∧ ∀ v w, f_X7_isReader x v = some (1, v) ∧ f_X8_isReader x w = some (1, w) := by
  rcases pk_ix x (n := 8) (by decide) with h | h | ⟨k, hk, rfl⟩
  · refine Or.inl fun v w => ⟨if_pos h, ?_⟩
    have e : f_X8_in x 0 7 w = some (0, w) := (mk_in0 x 7 (by decide) w).1 h
    unfold f_X8_isReader
    rw [ms_cl e]
    rfl
  · refine Or.inl fun v w => ⟨?_, ?_⟩
    · unfold f_X7_isReader
      by_cases h0 : x < 0
      · exact if_pos h0
      · rw [if_neg h0]; exact if_pos h
    · have e : f_X8_in x 0 7 w = some (0, w) := (mk_in0 x 7 (by decide) w).2.1 h
      unfold f_X8_isReader
      rw [ms_cl e]
      rfl
  · refine Or.inr ⟨k, hk, rfl, fun v w => ⟨?_, ?_⟩⟩
    · unfold f_X7_isReader
      rw [if_neg (nI_pos (by omega)), if_neg (show ¬ (8 : Int32) ≤ nI k from nI_ge hk (by decide))]
    · have e : f_X8_in (nI k) 0 7 w = some (1, w) := (mk_in0 (nI k) 7 (by decide) w).2.2 k (by omega) rfl
      unfold f_X8_isReader
      rw [ms_cl e]
      rfl
theorem mk_side (x : Int32) : (∀ v w, f_X7_isSide x v = some (0, v) ∧ f_X7_isSlot x v = some (0, v) ∧ f_X8_isSide x w = some (0, w) ∧ f_X8_in x 0 1 w = some (0, w)) ∨ ∃ k, k < 2 ∧ x = nI k ∧ ∀ v w, f_X7_isSide x v = some (1, v) ∧ f_X7_isSlot x v = some (1, v) ∧ f_X8_isSide x w = some (1, w) ∧ f_X8_in x 0 1 w = some (1, w) := by
  have h7 : ∀ v, ¬ x = 0 → ¬ x = 1 → f_X7_isSide x v = some (0, v) := fun v a b => by
    unfold f_X7_isSide
    rw [if_neg a, if_neg b]
  have h8 : ∀ w r, (r = 0 ∨ r = 1) → f_X8_in x 0 1 w = some (r, w) → f_X8_isSide x w = some (r, w) := fun w r hr e => by
    unfold f_X8_isSide
    rw [ms_cl e]
    rcases hr with rfl | rfl <;> rfl
  rcases pk_ix x (n := 2) (by decide) with h | h | ⟨k, hk, rfl⟩
  · have e : ∀ w, f_X8_in x 0 1 w = some (0, w) := fun w => (mk_in0 x 1 (by decide) w).1 h
    refine Or.inl fun v w => ⟨h7 v (fun q => by rw [q] at h; exact absurd h (by decide)) (fun q => by rw [q] at h; exact absurd h (by decide)), if_pos h, h8 w 0 (Or.inl rfl) (e w), e w⟩
  · have e : ∀ w, f_X8_in x 0 1 w = some (0, w) := fun w => (mk_in0 x 1 (by decide) w).2.1 h
    refine Or.inl fun v w => ⟨h7 v (fun q => by rw [q] at h; exact absurd h (by decide)) (fun q => by rw [q] at h; exact absurd h (by decide)), ?_, h8 w 0 (Or.inl rfl) (e w), e w⟩
    unfold f_X7_isSlot
    by_cases h0 : x < 0
    · exact if_pos h0
    · rw [if_neg h0]; exact if_pos h
  · have e : ∀ w, f_X8_in (nI k) 0 1 w = some (1, w) := fun w => (mk_in0 (nI k) 1 (by decide) w).2.2 k (by omega) rfl
    refine Or.inr ⟨k, hk, rfl, fun v w => ⟨?_, ?_, h8 w 1 (Or.inr rfl) (e w), e w⟩⟩
    · rcases (show k = 0 ∨ k = 1 by omega) with rfl | rfl <;> rfl
    · unfold f_X7_isSlot
      rw [if_neg (nI_pos (by omega)), if_neg (show ¬ (2 : Int32) ≤ nI k from nI_ge hk (by decide))]
theorem mk_value (x : Int32) : (∀ v w, f_X7_isValue x v = some (0, v) ∧ f_X8_in x 0 999 w = some (0, w)) ∨ ∃ k, k < 1000 ∧ x = nI k ∧ ∀ v w, f_X7_isValue x v = some (1, v) ∧ f_X8_in x 0 999 w = some (1, w) := by
  rcases pk_ix x (n := 1000) (by decide) with h | h | ⟨k, hk, rfl⟩
  · exact Or.inl fun v w => ⟨if_pos h, (mk_in0 x 999 (by decide) w).1 h⟩
  · refine Or.inl fun v w => ⟨?_, (mk_in0 x 999 (by decide) w).2.1 h⟩
    unfold f_X7_isValue
    by_cases h0 : x < 0
    · exact if_pos h0
    · rw [if_neg h0]
      obtain ⟨j, hj, rfl⟩ := nI_of h0
      exact if_pos ((nI_ltI (a := 999) (by decide) hj).mpr (by have := (nI_leI (a := 1000) (b := j) (by decide) hj).mp h; omega))
  · refine Or.inr ⟨k, hk, rfl, fun v w => ⟨?_, (mk_in0 (nI k) 999 (by decide) w).2.2 k (by omega) rfl⟩⟩
    unfold f_X7_isValue
    rw [if_neg (nI_pos (by omega)), if_neg (show ¬ (999 : Int32) < nI k from nI_nlt (a := 999) (b := k) (by omega) (by decide))]
theorem mk_range (x y : Int32) : (∀ v w, f_X7_isRange x y v = some (0, v) ∧ f_X8_isRange x y w = some (0, w)) ∨ ∃ a b, a ≤ b ∧ b < 60 ∧ x = nI a ∧ y = nI b ∧ ∀ v w, f_X7_isRange x y v = some (1, v) ∧ f_X8_isRange x y w = some (1, w) := by
  rcases mk_key x with h | ⟨a, ha, rfl, h⟩
  · refine Or.inl fun v w => ⟨?_, ?_⟩
    · unfold f_X7_isRange; rw [ms_cl (h v w).1]; rfl
    · unfold f_X8_isRange; rw [ms_cl (h v w).2]; rfl
  · rcases mk_key y with h2 | ⟨b, hb, rfl, h2⟩
    · refine Or.inl fun v w => ⟨?_, ?_⟩
      · unfold f_X7_isRange; rw [ms_cl (h v w).1, if_neg (by decide), ms_cl (h2 v w).1]; rfl
      · unfold f_X8_isRange; rw [ms_cl (h v w).2, if_neg (by decide), ms_cl (h2 v w).2]; rfl
    · by_cases hab : a ≤ b
      · refine Or.inr ⟨a, b, hab, hb, rfl, rfl, fun v w => ⟨?_, ?_⟩⟩
        · unfold f_X7_isRange; rw [ms_cl (h v w).1, if_neg (by decide), ms_cl (h2 v w).1, if_neg (by decide), if_neg (nI_nlt hab (by omega))]
        · unfold f_X8_isRange; rw [ms_cl (h v w).2, if_neg (by decide), ms_cl (h2 v w).2, if_neg (by decide), if_neg (nI_nlt hab (by omega))]
      · refine Or.inl fun v w => ⟨?_, ?_⟩
        · unfold f_X7_isRange; rw [ms_cl (h v w).1, if_neg (by decide), ms_cl (h2 v w).1, if_neg (by decide), if_pos (nI_lt (by omega) (by omega))]
        · unfold f_X8_isRange; rw [ms_cl (h v w).2, if_neg (by decide), ms_cl (h2 v w).2, if_neg (by decide), if_pos (nI_lt (by omega) (by omega))]
/-! bits -/
def mHas (a x : Int32) : Int32 := if ((a >>> (x &&& 31)) &&& 1) = 1 then 1 else 0
theorem mh_7 (a x : Int32) (v : tmM) : f_X7_has a x v = some (mHas a x, v) := by
  unfold f_X7_has mHas
  split <;> rfl
theorem mh_8 (a x : Int32) (w : tmM) : f_X8_has a x w = some (mHas a x, w) := by
  unfold f_X8_has mHas
  split <;> rfl
theorem mh_01 (a x : Int32) : mHas a x = 0 ∨ mHas a x = 1 := by
  unfold mHas
  split
  · exact Or.inr rfl
  · exact Or.inl rfl
theorem mh_bi (a x : Int32) : tm_bi (mHas a x) = true := decide_eq_true (mh_01 a x)
/-! values -/
def mCell (f a x : Int32) : Int32 := if f = 1 then x + a else if f = 2 then x * a else if f = 3 then 999 - x else x
def mIn (y : Int32) : Int32 := if y < 0 then -3 else if 999 < y then -3 else y
def mVal (f a c : Int32) : Int32 := if c = -1 then -1 else if f = 1 then mIn (c - a) else if f = 2 then (if c - c / a * a = 0 then mIn (c / a) else -3) else if f = 3 then mIn (999 - c) else mIn c
/-- a form and its amount -/
def mForm (f a : Int32) : Prop := (f = 0 ∧ a = 0) ∨ (f = 1 ∧ ∃ k, k < 1000 ∧ a = nI k) ∨ (f = 2 ∧ ∃ k, 1 ≤ k ∧ k < 10 ∧ a = nI k) ∨ (f = 3 ∧ a = 0)
theorem mv_cell7 (x : Int32) (v : tmM) : f_X5_cellOf x v = some (mCell (v 1 0) (v 1 1) x, v) := by
  unfold f_X5_cellOf mCell
  rw [tS_lt]
  by_cases h1 : v 1 0 = 1
  · rw [if_pos h1, if_pos h1]
  · rw [if_neg h1, if_neg h1]
    by_cases h2 : v 1 0 = 2
    · rw [if_pos h2, if_pos h2]
    · rw [if_neg h2, if_neg h2]
      by_cases h3 : v 1 0 = 3
      · rw [if_pos h3, if_pos h3]
      · rw [if_neg h3, if_neg h3]
theorem mv_in7 (y : Int32) (v : tmM) : f_X5_valueAt_97 y v = some (mIn y, v) := by
  unfold f_X5_valueAt_97 mIn
  by_cases h1 : y < 0
  · rw [if_pos h1, if_pos h1]
  · rw [if_neg h1, if_neg h1]
    by_cases h2 : 999 < y
    · rw [if_pos h2, if_pos h2]
    · rw [if_neg h2, if_neg h2]
theorem mv_in8 (y : Int32) (w : tmM) : f_X8_valueOf_74 y w = some (mIn y, w) := by
  unfold f_X8_valueOf_74 mIn f_X8_in
  by_cases h1 : y < 0
  · rw [if_pos h1, if_pos h1, tS_cl, if_pos rfl]
  · rw [if_neg h1, if_neg h1]
    by_cases h2 : 999 < y
    · rw [if_pos h2, if_pos h2, tS_cl, if_pos rfl]
    · rw [if_neg h2, if_neg h2, tS_cl, if_neg (by decide)]
theorem mh_shr : ∀ i, i < 16 → ∀ k, k < 2147483648 → nI k >>> (nI i &&& 31) = nI (k / 2 ^ i) := by
  intro i hi k hk
  have key : ∀ s : Int32, (s.toBitVec.smod 32).toNat = i → nI k >>> s = nI (k / 2 ^ i) := fun s hs => by
    apply Int32.toInt_inj.mp
    have hd : k / 2 ^ i < 2147483648 := Nat.lt_of_le_of_lt (Nat.div_le_self _ _) hk
    rw [pk_shr (nI k) s i hs, nI_toInt hk, nI_toInt hd, Int.shiftRight_eq_div_pow]
    rfl
  apply key
  have : ∀ i, i < 16 → ((nI i &&& 31).toBitVec.smod 32).toNat = i := by decide
  exact this i hi
theorem mh_nat (k i : Nat) (hi : i < 16) (hk : k < 2147483648) : mHas (nI k) (nI i) = if k / 2 ^ i % 2 = 1 then 1 else 0 := by
  unfold mHas
  have hd : k / 2 ^ i < 2147483648 := Nat.lt_of_le_of_lt (Nat.div_le_self _ _) hk
  rw [mh_shr i hi k hk, pk_andN (n := k / 2 ^ i) (by omega) (m := 1) 1 (by decide)]
  have h2 : k / 2 ^ i % 2 ^ 1 = k / 2 ^ i % 2 := rfl
  rw [h2]
  have hb : k / 2 ^ i % 2 < 2 := Nat.mod_lt _ (by decide)
  by_cases h : k / 2 ^ i % 2 = 1
  · rw [if_pos h, h]; rfl
  · rw [if_neg h, show k / 2 ^ i % 2 = 0 by omega]; rfl
