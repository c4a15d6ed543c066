/-! ===== THE RELATION OF ONE STATE: v: the class's nineteen cells, r: the reference's row of 491 numbers ===== -/
def mCl (x : Int32) : Prop := x = -1 ∨ ∃ j, j < 1000 ∧ x = nI j
def rS (v : tmM) (r : Nat → Int32) : Prop := v 0 0 = r 0 ∧ v 0 1 = r 6 ∧ v 0 2 = r 3 ∧ v 0 3 = r 4 ∧ v 0 4 = r 5 ∧ v 1 0 = r 1 ∧ v 1 1 = r 2
def rT (v : tmM) (r : Nat → Int32) : Prop := (∀ k, k < 60 → v 3 k = r (11 + k)) ∧ (∀ k, k < 60 → v 4 k = r (71 + k)) ∧ ∀ k, k < 60 → v 18 k = r (431 + k)
def rA (v : tmM) (r : Nat → Int32) : Prop := r 0 = 2 → (∀ k, k < 60 → v 6 k = r (191 + k) ∧ mCl (r (191 + k))) ∧ ∀ k, k < 60 → v 7 k = r (251 + k)
/-- the queue: n stale keys -/
def rQn (n : Nat) (v : tmM) (r : Nat → Int32) : Prop := n ≤ 60 ∧ v 8 1 = nI n ∧ r 7 = nI n ∧ (∀ i, i < n → v 9 i = r (131 + i)) ∧ (∀ i, i < n → ∃ k, k < 60 ∧ r (131 + i) = nI k ∧ mHas (r 4) (nI (k / 4)) = 0) ∧ ∀ i j, i < n → j < n → r (131 + i) = r (131 + j) → i = j
def rEn (n : Nat) (v : tmM) (r : Nat → Int32) : Prop := n ≤ 30 ∧ v 10 2 = nI n ∧ r 10 = nI n ∧ ∀ i, i < n → v 11 i = r (371 + 2 * i) ∧ v 12 i = r (371 + 2 * i + 1)
def rWn (B a : Nat) (v : tmM) (r : Nat → Int32) : Prop := a ≤ B ∧ v 13 1 = nI a ∧ r 8 = nI a ∧ r 9 = nI (min a 20) ∧ ∀ i, i < min a 20 → v 15 i = r (311 + 3 * (min a 20 - 1 - i)) ∧ v 16 i = r (311 + 3 * (min a 20 - 1 - i) + 1) ∧ v 17 i = r (311 + 3 * (min a 20 - 1 - i) + 2)
def rI (r : Nat → Int32) : Prop := (r 0 = 0 ∨ r 0 = 1 ∨ r 0 = 2 ∨ r 0 = 3) ∧ (∃ k, k < 4 ∧ r 6 = nI k) ∧ (∃ k, k < 32768 ∧ r 3 = nI k) ∧ (∃ k, k < 32768 ∧ r 4 = nI k) ∧ (∃ k, k < 256 ∧ r 5 = nI k) ∧ mForm (r 1) (r 2) ∧ (∀ k, k < 60 → mCl (r (11 + k))) ∧ (r 0 = 0 ∨ r 0 = 3 → r 7 = 0 ∧ r 3 = 0 ∧ r 4 = 0)
def rP (B : Nat) (v : tmM) (r : Nat → Int32) : Prop := rS v r ∧ rT v r ∧ rA v r ∧ (∃ n, rQn n v r) ∧ (∃ n, rEn n v r) ∧ (r 0 = 2 → ∃ a, rWn B a v r) ∧ rI r
/-- which of the class's numbers a state is made of -/
def mU (c j : Nat) : Prop := (c = 0 ∧ j < 5) ∨ (c = 1 ∧ j < 2) ∨ ((c = 3 ∨ c = 4 ∨ c = 6 ∨ c = 7 ∨ c = 9 ∨ c = 18) ∧ j < 60) ∨ (c = 8 ∧ j = 1) ∨ (c = 10 ∧ j = 2) ∨ ((c = 11 ∨ c = 12) ∧ j < 30) ∨ (c = 13 ∧ j = 1) ∨ ((c = 15 ∨ c = 16 ∨ c = 17) ∧ j < 20)
theorem rP_ext {B : Nat} {v v' : tmM} {r r' : Nat → Int32} (hv : ∀ c j, mU c j → v' c j = v c j) (hr : ∀ j, j < 491 → r' j = r j) (h : rP B v r) : rP B v' r' := by
  obtain ⟨⟨s1, s2, s3, s4, s5, s6, s7⟩, ⟨t1, t2, t3⟩, ha, ⟨n, q1, q2, q3, q4, q5, q6⟩, ⟨e, e1, e2, e3, e4⟩, hw, ⟨i1, i2, i3, i4, i5, i6, i7, i8⟩⟩ := h
  have r0 := hr 0 (by decide)
  have r1 := hr 1 (by decide)
  have r2 := hr 2 (by decide)
  have r3 := hr 3 (by decide)
  have r4 := hr 4 (by decide)
  have r5 := hr 5 (by decide)
  have r6 := hr 6 (by decide)
  have r7 := hr 7 (by decide)
  have r8 := hr 8 (by decide)
  have r9 := hr 9 (by decide)
  have r10 := hr 10 (by decide)
  refine ⟨⟨?_, ?_, ?_, ?_, ?_, ?_, ?_⟩, ⟨fun k hk => ?_, fun k hk => ?_, fun k hk => ?_⟩, fun h2 => ?_, ⟨n, q1, ?_, ?_, fun i hi => ?_, fun i hi => ?_, fun i j hi hj he => ?_⟩, ⟨e, e1, ?_, ?_, fun i hi => ?_⟩, fun h2 => ?_, ⟨?_, ?_, ?_, ?_, ?_, ?_, fun k hk => ?_, ?_⟩⟩
  · rw [hv 0 0 (by unfold mU; omega), r0]; exact s1
  · rw [hv 0 1 (by unfold mU; omega), r6]; exact s2
  · rw [hv 0 2 (by unfold mU; omega), r3]; exact s3
  · rw [hv 0 3 (by unfold mU; omega), r4]; exact s4
  · rw [hv 0 4 (by unfold mU; omega), r5]; exact s5
  · rw [hv 1 0 (by unfold mU; omega), r1]; exact s6
  · rw [hv 1 1 (by unfold mU; omega), r2]; exact s7
  · rw [hv 3 k (by unfold mU; omega), hr _ (by omega)]; exact t1 k hk
  · rw [hv 4 k (by unfold mU; omega), hr _ (by omega)]; exact t2 k hk
  · rw [hv 18 k (by unfold mU; omega), hr _ (by omega)]; exact t3 k hk
  · rw [r0] at h2
    refine ⟨fun k hk => ?_, fun k hk => ?_⟩
    · rw [hv 6 k (by unfold mU; omega), hr _ (by omega)]; exact (ha h2).1 k hk
    · rw [hv 7 k (by unfold mU; omega), hr _ (by omega)]; exact (ha h2).2 k hk
  · rw [hv 8 1 (by unfold mU; omega)]; exact q2
  · rw [r7]; exact q3
  · rw [hv 9 i (by unfold mU; omega), hr _ (by omega)]; exact q4 i hi
  · rw [hr _ (by omega), r4]; exact q5 i hi
  · rw [hr _ (by omega), hr _ (by omega)] at he; exact q6 i j hi hj he
  · rw [hv 10 2 (by unfold mU; omega)]; exact e2
  · rw [r10]; exact e3
  · rw [hv 11 i (by unfold mU; omega), hv 12 i (by unfold mU; omega), hr _ (by omega), hr _ (by omega)]; exact e4 i hi
  · rw [r0] at h2
    obtain ⟨a, w1, w2, w3, w4, w5⟩ := hw h2
    refine ⟨a, w1, ?_, ?_, ?_, fun i hi => ?_⟩
    · rw [hv 13 1 (by unfold mU; omega)]; exact w2
    · rw [r8]; exact w3
    · rw [r9]; exact w4
    · rw [hv 15 i (by unfold mU; omega), hv 16 i (by unfold mU; omega), hv 17 i (by unfold mU; omega), hr _ (by omega), hr _ (by omega), hr _ (by omega)]; exact w5 i hi
  · rw [r0]; exact i1
  · rw [r6]; exact i2
  · rw [r3]; exact i3
  · rw [r4]; exact i4
  · rw [r5]; exact i5
  · rw [r1, r2]; exact i6
  · rw [hr _ (by omega)]; exact i7 k hk
  · rw [r0, r7, r3, r4]; exact i8
theorem rP_mono {B B' : Nat} (hB : B ≤ B') {v : tmM} {r : Nat → Int32} (h : rP B v r) : rP B' v r := by
  obtain ⟨h1, h2, h3, h4, h5, h6, h7⟩ := h
  exact ⟨h1, h2, h3, h4, h5, fun h0 => by obtain ⟨a, w1, w2⟩ := h6 h0; exact ⟨a, Nat.le_trans w1 hB, w2⟩, h7⟩
/-! reading -/
theorem mz_a (a k : Nat) : nI a + nI k = nI (a + k) := nI_add a k
theorem mz_11 (k : Nat) : (11 : Int32) + nI k = nI (11 + k) := nI_add 11 k
theorem mz_71 (k : Nat) : (71 : Int32) + nI k = nI (71 + k) := nI_add 71 k
theorem mz_131 (k : Nat) : (131 : Int32) + nI k = nI (131 + k) := nI_add 131 k
theorem mz_431 (k : Nat) : (431 : Int32) + nI k = nI (431 + k) := nI_add 431 k
theorem mz_g1 {β : Type} {j n : Nat} {x : Int32} {o : Option β} (hx : x = nI j) (h : j < n) (hn : n < 2147483648) : tm_g (tm_ix x n) o = o := by rw [hx]; exact ms_gi h hn
theorem mz_cl {x : Int32} {j : Nat} (hx : x = nI j) (h : j < 2147483648) : x.toNatClampNeg = j := by rw [hx]; exact nI_clamp h
theorem mr_val0 {k : Nat} (hk : k < 60) (v : tmM) : f_X5_valueAt 0 (nI k) v = some (v 3 k, v) := by
  unfold f_X5_valueAt
  rw [ms_g (by decide), tS_lt, ms_gi hk (by decide), tS_lt, nI_clamp (by omega), show ([3, 4] : List Nat).getD (0 : Int32).toNatClampNeg 0 = 3 from rfl]
  by_cases h : v 3 k = -1
  · rw [if_pos h]
  · rw [if_neg h, if_pos rfl]
theorem mr_val1 {k : Nat} (hk : k < 60) (v : tmM) (hf : mForm (v 1 0) (v 1 1)) : f_X5_valueAt 1 (nI k) v = some (mVal (v 1 0) (v 1 1) (v 4 k), v) := by
  unfold f_X5_valueAt
  rw [ms_g (by decide), tS_lt, ms_gi hk (by decide), tS_lt, nI_clamp (by omega), show ([3, 4] : List Nat).getD (1 : Int32).toNatClampNeg 0 = 4 from rfl]
  unfold mVal
  by_cases h : v 4 k = -1
  · rw [if_pos h, if_pos h, h]
  · rw [if_neg h, if_neg h, if_neg (by decide)]
    by_cases h1 : v 1 0 = 1
    · rw [if_pos h1, if_pos h1, tS_lt, mv_in7]
    · rw [if_neg h1, if_neg h1]
      by_cases h2 : v 1 0 = 2
      · rw [if_pos h2, if_pos h2]
        obtain ⟨a, ha0, ha, he⟩ : ∃ a, 1 ≤ a ∧ a < 10 ∧ v 1 1 = nI a := by
          rcases hf with ⟨q, _⟩ | ⟨q, _⟩ | ⟨_, q⟩ | ⟨q, _⟩
          · rw [q] at h2; exact absurd h2 (by decide)
          · rw [q] at h2; exact absurd h2 (by decide)
          · exact q
          · rw [q] at h2; exact absurd h2 (by decide)
        have hz : ¬ v 1 1 = 0 := by rw [he]; exact nI_ne0 (by omega) (by omega)
        have hz2 : ¬ v 1 1 ≤ 0 := by rw [he]; exact nI_nle (by omega) (by omega)
        rw [if_neg hz2, ms_gd hz]
        by_cases h3 : v 4 k - v 4 k / v 1 1 * v 1 1 = 0
        · rw [if_pos h3, if_pos h3, ms_gd hz]
          unfold f_X5_valueAt_77
          rw [mv_in7]
        · rw [if_neg h3, if_neg h3]
          unfold f_X5_valueAt_75 f_X5_valueAt_77
          rw [mv_in7]
          rfl
      · rw [if_neg h2, if_neg h2]
        by_cases h3 : v 1 0 = 3
        · rw [if_pos h3, if_pos h3, tS_lt, mv_in7]
        · rw [if_neg h3, if_neg h3, mv_in7]
theorem mr_ref0 {k : Nat} (hk : k < 60) (w : tmM) : f_X8_valueIn 0 (nI k) w = some (w 1 (11 + k), w) := by
  unfold f_X8_valueIn
  rw [if_pos rfl, mz_11, ms_gi (by omega) (by decide), nI_clamp (by omega)]
theorem mr_of {c : Int32} (w : tmM) (hf : mForm (w 1 1) (w 1 2)) : f_X8_valueOf c w = some (mVal (w 1 1) (w 1 2) c, w) := by
  unfold f_X8_valueOf
  have g1 : ∀ {β : Type} (x : Option β), tm_g (tm_ix 1 491) x = x := fun x => ms_g (by decide)
  rw [ms_g (by decide), tS_lt, g1, g1, g1, show (2 : Int32).toNatClampNeg = 2 from rfl, show (1 : Int32).toNatClampNeg = 1 from rfl]
  unfold mVal
  by_cases h : c = -1
  · rw [if_pos h, if_pos h]
  · rw [if_neg h, if_neg h]
    by_cases h0 : w 1 1 = 0
    · rw [if_pos h0, mv_in8, if_neg (by rw [h0]; decide), if_neg (by rw [h0]; decide), if_neg (by rw [h0]; decide)]
    · rw [if_neg h0]
      by_cases h1 : w 1 1 = 1
      · rw [if_pos h1, if_pos h1, mv_in8]
      · rw [if_neg h1, if_neg h1]
        by_cases h2 : w 1 1 = 2
        · rw [if_pos h2, if_pos h2]
          have hz : ¬ w 1 2 = 0 := by
            rcases hf with ⟨q, _⟩ | ⟨q, _⟩ | ⟨_, a, ha0, ha, he⟩ | ⟨q, _⟩
            · rw [q] at h2; exact absurd h2 (by decide)
            · rw [q] at h2; exact absurd h2 (by decide)
            · rw [he]; exact nI_ne0 (by omega) (by omega)
            · rw [q] at h2; exact absurd h2 (by decide)
          rw [ms_gd hz]
          by_cases h3 : c - c / w 1 2 * w 1 2 = 0
          · rw [if_pos h3, if_pos h3, ms_gd hz, mv_in8]
          · rw [if_neg h3, if_neg h3, mv_in8]
            rfl
        · rw [if_neg h2, if_neg h2]
          have h3 : w 1 1 = 3 := by
            rcases hf with ⟨q, _⟩ | ⟨q, _⟩ | ⟨q, _⟩ | ⟨q, _⟩
            · exact absurd q h0
            · exact absurd q h1
            · exact absurd q h2
            · exact q
          rw [if_pos h3, mv_in8]
theorem mr_ref1 {k : Nat} (hk : k < 60) (w : tmM) (hf : mForm (w 1 1) (w 1 2)) : f_X8_valueIn 1 (nI k) w = some (mVal (w 1 1) (w 1 2) (w 1 (71 + k)), w) := by
  unfold f_X8_valueIn
  rw [if_neg (by decide), mz_71, ms_gi (by omega) (by decide), nI_clamp (by omega), ms_cl (mr_of w hf)]
/-- the value that a side gives for a key -/
def mRd (v : tmM) (s k : Nat) : Int32 := if s = 0 then v 3 k else mVal (v 1 0) (v 1 1) (v 4 k)
theorem mr_form {B : Nat} {v : tmM} {r : Nat → Int32} (h : rP B v r) : mForm (v 1 0) (v 1 1) ∧ mForm (r 1) (r 2) := by
  obtain ⟨⟨s1, s2, s3, s4, s5, s6, s7⟩, _, _, _, _, _, ⟨_, _, _, _, _, i6, _⟩⟩ := h
  exact ⟨by rw [s6, s7]; exact i6, i6⟩
theorem mr_val {B : Nat} {v w : tmM} (h : rP B v (w 1)) {s k : Nat} (hs : s < 2) (hk : k < 60) : f_X5_valueAt (nI s) (nI k) v = some (mRd v s k, v) ∧ f_X8_valueIn (nI s) (nI k) w = some (mRd v s k, w) := by
  have hf := mr_form h
  obtain ⟨⟨s1, s2, s3, s4, s5, s6, s7⟩, ⟨t1, t2, t3⟩, _⟩ := h
  rcases (show s = 0 ∨ s = 1 by omega) with rfl | rfl
  · exact ⟨mr_val0 hk v, (mr_ref0 hk w).trans (by rw [← t1 k hk]; rfl)⟩
  · exact ⟨mr_val1 hk v hf.1, (mr_ref1 hk w hf.2).trans (by rw [← t2 k hk, ← s6, ← s7]; rfl)⟩
