/-! ===== pigeons; bits; the queue ===== -/
theorem mp_pig : ∀ (m n : Nat) (f : Nat → Nat), (∀ i, i < n → f i < m) → (∀ i j, i < n → j < n → f i = f j → i = j) → n ≤ m
  | 0, n, f, h, _ => by
    by_cases hn : n = 0
    · omega
    · exact absurd (h 0 (by omega)) (by omega)
  | m + 1, n, f, h, hi => by
    by_cases hx : ∃ i, i < n ∧ f i = m
    · obtain ⟨p, hp, hpm⟩ := hx
      have hlt : ∀ i, i < n → i ≠ p → f i < m := fun i h1 h2 => by
        have h3 := h i h1
        have h4 : f i ≠ m := fun e => h2 (hi i p h1 hp (e.trans hpm.symm))
        omega
      have := mp_pig m (n - 1) (fun j => if j = p then f (n - 1) else f j) (fun i h1 => by
        show (if i = p then f (n - 1) else f i) < m
        by_cases q : i = p
        · rw [if_pos q]; exact hlt _ (by omega) (by omega)
        · rw [if_neg q]; exact hlt _ (by omega) q) (fun i j h1 h2 he => by
        have he : (if i = p then f (n - 1) else f i) = if j = p then f (n - 1) else f j := he
        by_cases q : i = p
        · by_cases s : j = p
          · omega
          · rw [if_pos q, if_neg s] at he
            have := hi _ _ (by omega) (by omega) he
            omega
        · by_cases s : j = p
          · rw [if_neg q, if_pos s] at he
            have := hi _ _ (by omega) (by omega) he
            omega
          · rw [if_neg q, if_neg s] at he
            exact hi _ _ (by omega) (by omega) he)
      omega
    · have := mp_pig m n f (fun i h1 => by
        have h2 := h i h1
        have h3 : f i ≠ m := fun e => hx ⟨i, h1, e⟩
        omega) hi
      omega
theorem mb_and (a b : Nat) : nI a &&& nI b = nI (a &&& b) := by
  apply Int32.toBitVec_inj.mp
  show BitVec.ofNat 32 a &&& BitVec.ofNat 32 b = BitVec.ofNat 32 (a &&& b)
  rw [BitVec.ofNat_and]
theorem mb_or (a b : Nat) : nI a ||| nI b = nI (a ||| b) := by
  apply Int32.toBitVec_inj.mp
  show BitVec.ofNat 32 a ||| BitVec.ofNat 32 b = BitVec.ofNat 32 (a ||| b)
  rw [BitVec.ofNat_or]
theorem mb_clr {k c : Nat} (hk : k < 32768) (hc : c < 15) : nI k &&& ((1 <<< (nI c &&& 31)) ^^^ (-1)) = nI (k &&& (32767 - 2 ^ c)) := by
  have h1 : ∀ c, c < 15 → nI 32767 &&& ((1 <<< (nI c &&& 31)) ^^^ (-1)) = nI (32767 - 2 ^ c) := by decide
  have h2 : nI k = nI k &&& nI 32767 := by
    rw [mb_and, show 32767 = 2 ^ 15 - 1 from rfl, Nat.and_two_pow_sub_one_eq_mod, Nat.mod_eq_of_lt hk]
  rw [h2, Int32.and_assoc, h1 c hc, mb_and]
theorem mb_set {k c : Nat} (hc : c < 15) : nI k ||| (1 <<< (nI c &&& 31)) = nI (k ||| 2 ^ c) := by
  have h1 : ∀ c, c < 15 → (1 : Int32) <<< (nI c &&& 31) = nI (2 ^ c) := by decide
  rw [h1 c hc, mb_or]
theorem mb_has {k i : Nat} (hk : k < 32768) (hi : i < 15) : mHas (nI k) (nI i) = if k.testBit i = true then 1 else 0 := by
  rw [mh_nat k i (by omega) (by omega), Nat.testBit_eq_decide_div_mod_eq]
  by_cases h : k / 2 ^ i % 2 = 1
  · rw [if_pos h, if_pos (decide_eq_true h)]
  · rw [if_neg h, if_neg (fun q => h (of_decide_eq_true q))]
theorem mb_hclr {k c i : Nat} (hk : k < 32768) (hc : c < 15) (hi : i < 15) : mHas (nI (k &&& (32767 - 2 ^ c))) (nI i) = if i = c then 0 else mHas (nI k) (nI i) := by
  have h1 : ∀ c, c < 15 → ∀ i, i < 15 → (32767 - 2 ^ c).testBit i = decide (¬ i = c) := by decide
  rw [mb_has (Nat.lt_of_le_of_lt Nat.and_le_left hk) hi, mb_has hk hi, Nat.testBit_and, h1 c hc i hi]
  by_cases h : i = c
  · rw [if_pos h, decide_eq_false (fun q => q h), Bool.and_false, if_neg (by decide)]
  · rw [if_neg h, decide_eq_true h, Bool.and_true]
theorem mb_hset {k c i : Nat} (hk : k < 32768) (hc : c < 15) (hi : i < 15) : mHas (nI (k ||| 2 ^ c)) (nI i) = if i = c then 1 else mHas (nI k) (nI i) := by
  have h1 : ∀ c, c < 15 → ∀ i, i < 15 → (2 ^ c).testBit i = decide (i = c) := by decide
  have h2 : 2 ^ c < 2 ^ 15 := Nat.pow_lt_pow_right (by decide) hc
  rw [mb_has (Nat.or_lt_two_pow (n := 15) hk h2) hi, mb_has hk hi, Nat.testBit_or, h1 c hc i hi]
  by_cases h : i = c
  · rw [if_pos h, decide_eq_true h, Bool.or_true, if_pos rfl]
  · rw [if_neg h, decide_eq_false h, Bool.or_false]
/-- a bit of a number is cleared, or set -/
theorem mb_clrI {a : Int32} {N c : Nat} (hN : N ≤ 32768) (h : ∃ k, k < N ∧ a = nI k) (hc : c < 15) : (∃ k, k < N ∧ a &&& ((1 <<< (nI c &&& 31)) ^^^ (-1)) = nI k) ∧ ∀ i, i < 15 → mHas (a &&& ((1 <<< (nI c &&& 31)) ^^^ (-1))) (nI i) = if i = c then 0 else mHas a (nI i) := by
  obtain ⟨k, hk, rfl⟩ := h
  rw [mb_clr (by omega) hc]
  exact ⟨⟨_, Nat.lt_of_le_of_lt Nat.and_le_left hk, rfl⟩, fun i hi => mb_hclr (by omega) hc hi⟩
theorem mb_setI {a : Int32} {m c : Nat} (hm : m ≤ 15) (h : ∃ k, k < 2 ^ m ∧ a = nI k) (hc : c < m) : (∃ k, k < 2 ^ m ∧ a ||| (1 <<< (nI c &&& 31)) = nI k) ∧ ∀ i, i < 15 → mHas (a ||| (1 <<< (nI c &&& 31))) (nI i) = if i = c then 1 else mHas a (nI i) := by
  obtain ⟨k, hk, rfl⟩ := h
  have h15 : 2 ^ m ≤ 2 ^ 15 := Nat.pow_le_pow_right (by decide) hm
  have h15 : 2 ^ m ≤ 32768 := h15
  rw [mb_set (by omega)]
  exact ⟨⟨_, Nat.or_lt_two_pow hk (Nat.pow_lt_pow_right (by decide) hc), rfl⟩, fun i hi => mb_hset (by omega) (by omega) hi⟩
/-- to clear a bit that is not there changes nothing -/
theorem mb_clr0 {a : Int32} {c : Nat} (h : ∃ k, k < 32768 ∧ a = nI k) (hc : c < 15) (h0 : mHas a (nI c) = 0) : a &&& ((1 <<< (nI c &&& 31)) ^^^ (-1)) = a := by
  obtain ⟨k, hk, rfl⟩ := h
  rw [mb_clr hk hc]
  have h1 : ∀ c, c < 15 → ∀ i, i < 15 → (32767 - 2 ^ c).testBit i = decide (¬ i = c) := by decide
  have e : k &&& (32767 - 2 ^ c) = k := by
    apply Nat.eq_of_testBit_eq
    intro i
    rw [Nat.testBit_and]
    by_cases hi : i < 15
    · rw [h1 c hc i hi]
      by_cases q : i = c
      · rw [q, mb_has hk hc] at *
        have hb : k.testBit c = false := by
          cases hq : k.testBit c
          · rfl
          · rw [hq, if_pos rfl] at h0; exact absurd h0 (by decide)
        rw [hb]
        rfl
      · rw [decide_eq_true q, Bool.and_true]
    · have : k.testBit i = false := Nat.testBit_lt_two_pow (Nat.lt_of_lt_of_le (show k < 2 ^ 15 from hk) (Nat.pow_le_pow_right (by decide) (show 15 ≤ i by omega)))
      rw [this]
      rfl
  rw [e]
/-! the queue loses a key -/
theorem mq_loop (K0 : tmM → Option (Unit × tmM)) {n : Nat} (hn : n ≤ 60) : ∀ (d i F : Nat) (w : tmM), d + i + 1 = n → w 1 7 = nI n → d < F → f_X8_isStaleNoMore_14 K0 F (nI i) w = K0 (mSh w 1 (131 + i) (131 + n - 1) 1) := by
  intro d
  induction d with
  | zero =>
    intro i F w hd hw hF
    obtain ⟨F, rfl⟩ : ∃ G, F = G + 1 := ⟨F - 1, by omega⟩
    show f_X8_isStaleNoMore_14b _ _ (nI i) w = _
    unfold f_X8_isStaleNoMore_14b
    rw [mr_g7, mr_n7, hw, nI_1, if_pos (nI_le (by omega) (by omega)), show 131 + n - 1 = 131 + i by omega, mSh_end]
  | succ d ih =>
    intro i F w hd hw hF
    obtain ⟨F, rfl⟩ : ∃ G, F = G + 1 := ⟨F - 1, by omega⟩
    show f_X8_isStaleNoMore_14b _ _ (nI i) w = _
    unfold f_X8_isStaleNoMore_14b
    rw [mr_g7, mr_n7, hw, nI_1, if_neg (nI_ge (by omega) (by omega)), mz_131, nI_1, ms_gi (show 131 + i + 1 < 491 by omega) (by decide), ms_gi (show 131 + i < 491 by omega) (by decide), tS_lt, nI_clamp (by omega), nI_clamp (by omega), ih (i + 1) F _ (by omega) ((mu_ne (by omega)).trans hw) (by omega)]
    congr 1
    exact mSh_step w 1 (131 + i) (131 + n - 1) 1 (by omega) (by decide)
theorem mq_drop {B : Nat} {v w : tmM} (h : rP B v (w 1)) (x : Int32) : ∃ v' w', f_X2_drop x v = some ((), v') ∧ f_X8_isStaleNoMore x w = some ((), w') ∧ rP B v' (w' 1) ∧ mFr v w v' w' ∧ ∀ c, c ≠ 8 → c ≠ 9 → v' c = v c := by
  obtain ⟨hS, hT, hA, ⟨n, hQ⟩, ⟨e, hE⟩, hW, hI⟩ := h
  have hpl := mr_pl hQ x
  obtain ⟨q1, q2, q3, q4, q5, q6⟩ := hQ
  rcases mFind_spec (fun i => v 9 i = x) n 0 with ⟨h1, _⟩ | ⟨p, _, hp, h1, h2, _⟩
  · refine ⟨v, w, ?_, ?_, ⟨hS, hT, hA, ⟨n, q1, q2, q3, q4, q5, q6⟩, ⟨e, hE⟩, hW, hI⟩, mFr.refl v w, fun _ _ _ => rfl⟩
    · unfold f_X2_drop
      rw [ms_cl hpl.1, if_pos (show mPl v n x = -1 from h1)]
    · unfold f_X8_isStaleNoMore
      rw [ms_cl hpl.2, if_pos (show mPl v n x = -1 from h1)]
  · have h1 : mPl v n x = nI p := h1
    obtain ⟨m, rfl⟩ : ∃ m, n = m + 1 := ⟨n - 1, by omega⟩
    have hp : p < m + 1 := by omega
    refine ⟨tm_set (tm_up v 8 1 (nI m)) 9 (va_cpy (v 9) (v 9) (p + 1) p (m - p)), tm_up (mSh w 1 (131 + p) (131 + m) 1) 1 7 (nI m), ?_, ?_, ?_, ((mFr.refl v w).upL (by decide)).setL (by decide) |>.trans ⟨fun _ _ => rfl, fun c hc => (tu_ne _ _ _ hc).trans (mSh_ne hc)⟩, fun c a b => (mt_ne b).trans (tu_ne _ _ _ a)⟩
    · unfold f_X2_drop
      rw [ms_cl hpl.1, h1, if_neg (mz_neg (by omega)), tS_lt, q2, nI_pred, mu_eq, nI_1, pk_sub (by omega)]
      have hc : tm_cok (nI (p + 1)) (nI p) (nI (m - p)) 60 60 = true := decide_eq_true ⟨nI_pos (by omega), nI_pos (by omega), nI_pos (by omega), by rw [nI_clamp (by omega), nI_clamp (by omega)]; omega, by rw [nI_clamp (by omega), nI_clamp (by omega)]; omega⟩
      rw [ms_g hc, tS_lt, nI_clamp (by omega), nI_clamp (by omega), nI_clamp (by omega), tu_ne _ _ _ (show 9 ≠ 8 by decide)]
    · unfold f_X8_isStaleNoMore
      rw [ms_cl hpl.2, h1, if_neg (mz_neg (by omega)), mq_loop _ q1 (m - p) p 10000 w (by omega) q3 (by omega), mr_g7, mr_g7, tS_lt, mr_n7, mSh_at, if_neg (by omega), q3, nI_pred]
      rfl
    · have hr : ∀ j, (j < 131 ∨ 191 ≤ j) → j ≠ 7 → tm_up (mSh w 1 (131 + p) (131 + m) 1) 1 7 (nI m) 1 j = w 1 j := fun j a b => by rw [mu_ne (Or.inr b), mSh_at, if_neg (by omega)]
      have hq : ∀ i, i < m → tm_up (mSh w 1 (131 + p) (131 + m) 1) 1 7 (nI m) 1 (131 + i) = w 1 (131 + if i < p then i else i + 1) := fun i hi => by
        rw [mu_ne (by omega), mSh_at]
        by_cases s : i < p
        · rw [if_neg (by omega), if_pos s]
        · rw [if_pos (by omega), if_neg s]; congr 1
      have r4 := hr 4 (by omega) (by omega)
      refine ⟨rS_ext (fun c j hc => by rw [mt_ne (by omega)]; exact mu_ne (by omega)) (fun j hj => hr j (by omega) (by omega)) hS, rT_ext (fun c j hc _ => by rw [mt_ne (by omega)]; exact mu_ne (by omega)) (fun j hj => hr j (by omega) (by omega)) hT, rA_ext (fun c j hc _ => by rw [mt_ne (by omega)]; exact mu_ne (by omega)) (fun j hj => hr j (by omega) (by omega)) hA, ⟨m, by omega, ?_, ?_, fun i hi => ?_, fun i hi => ?_, fun i j hi hj he => ?_⟩, ⟨e, rEn_ext (fun c j hc => by rw [mt_ne (by omega)]; exact mu_ne (by omega)) (fun j hj => hr j (by omega) (by omega)) hE⟩, rW_ext (fun c j hc => by rw [mt_ne (by omega)]; exact mu_ne (by omega)) (fun j hj => hr j (by omega) (by omega)) hW, ?_⟩
      · rw [mt_ne (by decide), mu_eq]
      · rw [mu_eq]
      · rw [hq i hi, mt_eq]
        unfold va_cpy
        by_cases s : i < p
        · rw [if_neg (by omega), if_pos s]; exact q4 i (by omega)
        · rw [if_pos (by omega), if_neg s, show p + 1 + (i - p) = i + 1 by omega]; exact q4 (i + 1) (by omega)
      · rw [hq i hi, r4]; exact q5 _ (by split <;> omega)
      · rw [hq i hi, hq j hj] at he
        have := q6 _ _ (by split <;> omega) (by split <;> omega) he
        by_cases s : i < p <;> by_cases t : j < p
        · rw [if_pos s, if_pos t] at this; exact this
        · rw [if_pos s, if_neg t] at this; omega
        · rw [if_neg s, if_pos t] at this; omega
        · rw [if_neg s, if_neg t] at this; omega
      · obtain ⟨i1, i2, i3, i4, i5, i6, i7, i8⟩ := hI
        rw [show rI (tm_up (mSh w 1 (131 + p) (131 + m) 1) 1 7 (nI m) 1) = ((tm_up (mSh w 1 (131 + p) (131 + m) 1) 1 7 (nI m) 1 0 = 0 ∨ tm_up (mSh w 1 (131 + p) (131 + m) 1) 1 7 (nI m) 1 0 = 1 ∨ tm_up (mSh w 1 (131 + p) (131 + m) 1) 1 7 (nI m) 1 0 = 2 ∨ tm_up (mSh w 1 (131 + p) (131 + m) 1) 1 7 (nI m) 1 0 = 3) ∧ _) from rfl]
        refine ⟨?_, ?_, ?_, ?_, ?_, ?_, fun k hk => ?_, fun h0 => ?_⟩
        · rw [hr 0 (by omega) (by omega)]; exact i1
        · rw [hr 6 (by omega) (by omega)]; exact i2
        · rw [hr 3 (by omega) (by omega)]; exact i3
        · rw [r4]; exact i4
        · rw [hr 5 (by omega) (by omega)]; exact i5
        · rw [hr 1 (by omega) (by omega), hr 2 (by omega) (by omega)]; exact i6
        · rw [hr _ (by omega) (by omega)]; exact i7 k hk
        · rw [hr 0 (by omega) (by omega)] at h0
          have h7 := (i8 h0).1
          rw [q3] at h7
          exact absurd h7 (nI_ne0 (by omega) (by omega))
/-- what a key added to the queue leaves -/
theorem mq_new {n : Nat} {v w : tmM} (h : rQn n v (w 1)) {k : Nat} (hk : k < 60) (h0 : mPl v n (nI k) = -1) : n < 60 := by
  obtain ⟨q1, q2, q3, q4, q5, q6⟩ := h
  have hno : ∀ i, i < n → ¬ v 9 i = nI k := by
    rcases mFind_spec (fun i => v 9 i = nI k) n 0 with ⟨_, h2⟩ | ⟨p, _, _, h1, _⟩
    · exact fun i hi => h2 i (Nat.zero_le _) (by omega)
    · exact absurd ((show mPl v n (nI k) = nI p from h1).symm.trans h0) (mz_neg (by omega))
  have hv : ∀ i, i < n → ∃ a, a < 60 ∧ w 1 (131 + i) = nI a := fun i hi => by
    obtain ⟨a, h1, h2, _⟩ := q5 i hi
    exact ⟨a, h1, h2⟩
  have := mp_pig 60 (n + 1) (fun i => if i = n then k else (w 1 (131 + i)).toNatClampNeg) (fun i hi => by
    show (if i = n then k else (w 1 (131 + i)).toNatClampNeg) < 60
    by_cases s : i = n
    · rw [if_pos s]; exact hk
    · obtain ⟨a, h1, h2⟩ := hv i (by omega)
      rw [if_neg s, h2, nI_clamp (by omega)]; exact h1) (fun i j hi hj he => by
    have he : (if i = n then k else (w 1 (131 + i)).toNatClampNeg) = if j = n then k else (w 1 (131 + j)).toNatClampNeg := he
    by_cases s : i = n
    · by_cases t : j = n
      · omega
      · obtain ⟨a, h1, h2⟩ := hv j (by omega)
        rw [if_pos s, if_neg t, h2, nI_clamp (by omega)] at he
        exact absurd ((q4 j (by omega)).trans (h2.trans (by rw [he]))) (hno j (by omega))
    · obtain ⟨a, h1, h2⟩ := hv i (by omega)
      by_cases t : j = n
      · rw [if_neg s, if_pos t, h2, nI_clamp (by omega)] at he
        exact absurd ((q4 i (by omega)).trans (h2.trans (by rw [he]))) (hno i (by omega))
      · obtain ⟨b, h3, h4⟩ := hv j (by omega)
        rw [if_neg s, if_neg t, h2, h4, nI_clamp (by omega), nI_clamp (by omega)] at he
        exact q6 i j (by omega) (by omega) (by rw [h2, h4, he]))
  omega
