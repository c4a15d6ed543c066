/-! ===== words of the script ===== -/
def pL (o : Nat) : Nat := tm_len.getD o 0
def pW (o j : Nat) : Int32 := (tm_byt.getD o []).getD j 0
def pO (o : Nat) : Nat := ([0, 4, 11, 17, 22, 29, 35, 42, 47, 52, 59, 64, 71, 79] : List Nat).getD o 0
theorem pw_len {o : Nat} (ho : o < 15) (v : tmM) : f_J0_length_8abf5 o v = some (nI (pL o), v) := by
  have h1 : ∀ o, o < 15 → (nI (tm_len.getD o 0)) >>> ((0 : Int32) &&& 31) = nI (tm_len.getD o 0) := by decide
  have hg : decide (o < 15) = true := decide_eq_true ho
  have hc : f_J0_coder_7d493 o v = some (0, v) := by
    unfold f_J0_coder_7d493
    rw [if_neg mr_10, ms_g hg]
  unfold f_J0_length_8abf5
  rw [ms_g hg, ms_g hg, ms_g hg, ms_cl hc, h1 o ho]
  rfl
theorem pw_chr {o j : Nat} (ho : o < 15) (hj : j < pL o) (v : tmM) : f_J0_charAt_5068e o (nI j) v = some (pW o j, v) := by
  have h1 : ∀ o, o < 15 → ∀ j, j < pL o → ((((pW o j) &&& 255).toUInt32 % 65536).toInt32) = pW o j := by decide
  have h2 : ∀ o, o < 15 → ∀ j, j < pL o → tm_ci (pW o j) = true := by decide
  have h3 : ∀ o, o < 15 → pL o < 9 := by decide
  have hl := h3 o ho
  have hg : decide (o < 15) = true := decide_eq_true ho
  have hc : f_J0_isLatin1_aae02 o v = some (1, v) := by
    unfold f_J0_isLatin1_aae02
    rw [if_neg mr_10, ms_g hg, if_pos rfl]
  have hi : f_J0_checkIndex_df160 (nI j) (nI (tm_len.getD o 0)) v = some ((), v) := by
    unfold f_J0_checkIndex_df160 f_J3_checkIndex_8e157
    rw [if_neg (nI_pos (by omega)), if_pos (show nI j < nI (tm_len.getD o 0) from nI_lt hj (show pL o < 2 ^ 31 by omega)), tS_cl]
  have hx : f_J1_charAt_3b067 o (nI j) v = some (pW o j, v) := by
    unfold f_J1_charAt_3b067
    rw [ms_g hg, ms_cl hi, ms_g hg, ms_gi (show j < tm_len.getD o 0 from hj) (show pL o < 2147483648 by omega), nI_clamp (by omega)]
    rw [show (((((tm_byt.getD o []).getD j 0) &&& 255).toUInt32 % 65536).toInt32) = pW o j from h1 o ho j hj, ms_g (h2 o ho j hj)]
  unfold f_J0_charAt_5068e
  rw [ms_g hg, ms_cl hc, if_neg mr_10, ms_g hg, ms_cl hx, ms_g (h2 o ho j hj)]
/-- the token is the word o -/
def mTE (v : tmM) (s e o : Nat) : Bool := decide (e - s = pL o ∧ ∀ j, j < pL o → v 252 (s + j) = pW o j)
theorem mTE_iff {v : tmM} {s e o : Nat} : mTE v s e o = true ↔ (e - s = pL o ∧ ∀ j, j < pL o → v 252 (s + j) = pW o j) := ⟨of_decide_eq_true, fun h => decide_eq_true h⟩
theorem pb_cmp {y : Int32} (h : mByt y) {l : Nat} (hl : l < 128) : y = nI l ↔ y &&& 255 = nI l := by
  obtain ⟨h1, h2⟩ := h
  have hy : y = nI y.toBitVec.toNat := by
    apply Int32.toBitVec_inj.mp
    show _ = BitVec.ofNat 32 _
    rw [BitVec.ofNat_toNat, BitVec.setWidth_eq]
  have hlt : y.toBitVec.toNat < 4294967296 := y.toBitVec.isLt
  have ht : y.toInt = if 2 * y.toBitVec.toNat < 4294967296 then (y.toBitVec.toNat : Int) else (y.toBitVec.toNat : Int) - 4294967296 := BitVec.toInt_eq_toNat_cond y.toBitVec
  generalize y.toBitVec.toNat = m at hy hlt ht
  have e255 : y &&& 255 = nI (m % 256) := by
    rw [hy, show (255 : Int32) = nI 255 from rfl, mb_and, show 255 = 2 ^ 8 - 1 from rfl, Nat.and_two_pow_sub_one_eq_mod]
  rw [e255]
  by_cases q : 2 * m < 4294967296
  · rw [if_pos q] at ht
    have hm : m < 128 := by omega
    rw [hy, show m % 256 = m by omega]
  · rw [if_neg q] at ht
    have hm : 4294967168 ≤ m := by omega
    constructor
    · intro z
      have hb : (nI m).toBitVec.toNat = (nI l).toBitVec.toNat := by rw [← z, ← hy]
      have b1 : (nI m).toBitVec.toNat = m % 4294967296 := BitVec.toNat_ofNat m 32
      have b2 : (nI l).toBitVec.toNat = l % 4294967296 := BitVec.toNat_ofNat l 32
      omega
    · intro z
      have := (nI_eq (a := m % 256) (b := l) (by omega) (by omega)).mp z
      omega
section
variable {t s e : Nat} {v w : tmM}
theorem pw_is (hT : pT t v w) (hK : pK t s e v w) {o : Nat} (ho : o < 15) : f_X3_isHere o v = some (if mTE v s e o = true then 1 else 0, v) := by
  have ht := hT.1
  obtain ⟨a1, a2, a3, a4, a5, a6, _⟩ := hK
  have hg : decide (o < 15) = true := decide_eq_true ho
  have h3 : ∀ o, o < 15 → pL o < 9 := by decide
  have hl := h3 o ho
  unfold f_X3_isHere
  rw [ms_g hg, ms_cl (pw_len ho v), a1, a3, pk_sub a5]
  by_cases q : e - s = pL o
  · have L : ∀ (d i F : Nat), d + i = e → s ≤ i → d < F → ∃ r : Int32, f_X3_isHere_23 o (fun v8 => some (1, v8)) F (nI i) v = some (r, v) ∧ ((r = 1 ∧ ∀ m, i ≤ m → m < e → v 252 m = pW o (m - s)) ∨ (r = 0 ∧ ∃ m, i ≤ m ∧ m < e ∧ ¬ v 252 m = pW o (m - s))) := by
      intro d
      induction d with
      | zero =>
        intro i F hd hi hF
        obtain ⟨F, rfl⟩ : ∃ G, F = G + 1 := ⟨F - 1, by omega⟩
        refine ⟨1, ?_, Or.inl ⟨rfl, fun m p1 p2 => absurd p2 (by omega)⟩⟩
        show f_X3_isHere_23b _ _ _ (nI i) v = _
        unfold f_X3_isHere_23b
        rw [a3, if_pos (nI_le (by omega) (by omega))]
      | succ d ih =>
        intro i F hd hi hF
        obtain ⟨F, rfl⟩ : ∃ G, F = G + 1 := ⟨F - 1, by omega⟩
        show ∃ r : Int32, f_X3_isHere_23b _ _ _ (nI i) v = _ ∧ _
        unfold f_X3_isHere_23b
        rw [a3, if_neg (nI_ge (by omega) (by omega)), ms_gi (show i < 600 by omega) (by decide), ms_g hg, a1, pk_sub hi, ms_cl (pw_chr ho (show i - s < pL o by omega) v), nI_clamp (by omega), nI_1]
        by_cases z : v 252 i = pW o (i - s)
        · rw [if_pos z]
          obtain ⟨r, r1, r2⟩ := ih (i + 1) F (by omega) (by omega) (by omega)
          refine ⟨r, r1, ?_⟩
          rcases r2 with ⟨r2, r3⟩ | ⟨r2, m, r3, r4, r5⟩
          · refine Or.inl ⟨r2, fun m p1 p2 => ?_⟩
            by_cases y : m = i
            · rw [y]; exact z
            · exact r3 m (by omega) p2
          · exact Or.inr ⟨r2, m, by omega, r4, r5⟩
        · rw [if_neg z]
          exact ⟨0, rfl, Or.inr ⟨rfl, i, Nat.le_refl _, by omega, z⟩⟩
    obtain ⟨r, r1, r2⟩ := L (e - s) s 10000 (by omega) (Nat.le_refl _) (by omega)
    rw [if_pos (by rw [q]), tS_lt, r1]
    rcases r2 with ⟨r2, r3⟩ | ⟨r2, m, r3, r4, r5⟩
    · have : mTE v s e o = true := mTE_iff.mpr ⟨q, fun j hj => by
        have := r3 (s + j) (by omega) (by omega)
        rw [Nat.add_sub_cancel_left] at this
        exact this⟩
      rw [if_pos this, r2]
    · have : ¬ mTE v s e o = true := fun y => r5 (by
        have := (mTE_iff.mp y).2 (m - s) (by omega)
        rw [show s + (m - s) = m by omega] at this
        exact this)
      rw [if_neg this, r2]
  · rw [if_neg (fun y => q ((nI_eq (by omega) (by omega)).mp y)), if_neg (fun y => q (mTE_iff.mp y).1)]
theorem pw_cmd (hT : pT t v w) (hK : pK t s e v w) : ∃ r, f_X3_commandHere v = some (r, v) ∧ ((r = none ∧ ∀ o, o < 12 → ¬ mTE v s e o = true) ∨ ∃ o, o < 12 ∧ r = some o ∧ mTE v s e o = true ∧ ∀ x, x < o → ¬ mTE v s e x = true) := by
  have L : ∀ (d i F : Nat), d + i = 12 → d < F → ∃ r, f_X3_commandHere_9 (fun v4 => some (none, v4)) F 12 (nI i) v = some (r, v) ∧ ((r = none ∧ ∀ o, i ≤ o → o < 12 → ¬ mTE v s e o = true) ∨ ∃ o, i ≤ o ∧ o < 12 ∧ r = some o ∧ mTE v s e o = true ∧ ∀ x, i ≤ x → x < o → ¬ mTE v s e x = true) := by
    intro d
    induction d with
    | zero =>
      intro i F hd hF
      obtain ⟨F, rfl⟩ : ∃ G, F = G + 1 := ⟨F - 1, by omega⟩
      refine ⟨none, ?_, Or.inl ⟨rfl, fun o p1 p2 => absurd p2 (by omega)⟩⟩
      show f_X3_commandHere_9b _ _ 12 (nI i) v = _
      unfold f_X3_commandHere_9b
      rw [if_pos (show (12 : Int32) ≤ nI i from nI_le (a := 12) (by omega) (by omega))]
    | succ d ih =>
      intro i F hd hF
      obtain ⟨F, rfl⟩ : ∃ G, F = G + 1 := ⟨F - 1, by omega⟩
      show ∃ r, f_X3_commandHere_9b _ _ 12 (nI i) v = _ ∧ _
      unfold f_X3_commandHere_9b
      rw [if_neg (show ¬ (12 : Int32) ≤ nI i from nI_ge (b := 12) (by omega) (by decide)), ms_gi (show i < 12 by omega) (by decide), nI_clamp (by omega), ms_g (decide_eq_true (show i < 12 by omega)), ms_cl (pw_is hT hK (o := i) (by omega))]
      by_cases z : mTE v s e i = true
      · rw [if_pos z, if_neg mr_10]
        exact ⟨some i, rfl, Or.inr ⟨i, Nat.le_refl _, by omega, rfl, z, fun x p1 p2 => absurd p2 (by omega)⟩⟩
      · rw [if_neg z, if_pos rfl, nI_1]
        obtain ⟨r, r1, r2⟩ := ih (i + 1) F (by omega) (by omega)
        refine ⟨r, r1, ?_⟩
        rcases r2 with ⟨r2, r3⟩ | ⟨o, r2, r3, r4, r5, r6⟩
        · refine Or.inl ⟨r2, fun o p1 p2 => ?_⟩
          by_cases y : o = i
          · rw [y]; exact z
          · exact r3 o (by omega) p2
        · refine Or.inr ⟨o, by omega, r3, r4, r5, fun x p1 p2 => ?_⟩
          by_cases y : x = i
          · rw [y]; exact z
          · exact r6 x (by omega) p2
  obtain ⟨r, r1, r2⟩ := L 12 0 10000 rfl (by decide)
  refine ⟨r, r1, ?_⟩
  rcases r2 with ⟨r2, r3⟩ | ⟨o, r2, r3, r4, r5, r6⟩
  · exact Or.inl ⟨r2, fun o p => r3 o (Nat.zero_le _) p⟩
  · exact Or.inr ⟨o, r3, r4, r5, fun x p => r6 x (Nat.zero_le _) p⟩
/-- the reference compares one word -/
theorem pw_one (hT : pT t v w) (hK : pK t s e v w) {o : Nat} (ho : o < 13) (K : Int32 → Int32 → Int32 → Int32 → tmM → Option (Int32 × tmM)) (x2 : Int32) : ∃ g', f_X8_wordHere_23 K 10000 (nI (pO o)) x2 0 1 w = K (nI (pO o)) x2 (nI (pL o)) g' w ∧ ((g' = 1 ∧ ∀ m, m < pL o → s + m < e ∧ v 252 (s + m) = pW o m) ∨ (g' = 0 ∧ ∃ m, m < pL o ∧ ¬ (s + m < e ∧ v 252 (s + m) = pW o m))) := by
  obtain ⟨ht, h1, h2, h4, hC⟩ := hT
  obtain ⟨a1, a2, a3, a4, a5, a6, _⟩ := hK
  have h3 : ∀ o, o < 15 → pL o < 9 := by decide
  have hl := h3 o (by omega)
  have f1 : ∀ o, o < 13 → pO o + pL o < 79 := by decide
  have f2 : ∀ o, o < 13 → tn_words.getD (pO o + pL o) 0 = 32 := by decide
  have f3 : ∀ o, o < 13 → ∀ j, j < pL o → tn_words.getD (pO o + j) 0 = pW o j ∧ ¬ pW o j = 32 := by decide
  have f4 : ∀ o, o < 13 → ∀ j, j < pL o → (pW o j).toNatClampNeg < 128 ∧ pW o j = nI (pW o j).toNatClampNeg := by decide
  have L : ∀ (d j F : Nat) (g : Int32), (g = 0 ∨ g = 1) → d + j = pL o → d < F → ∃ g', f_X8_wordHere_23 K F (nI (pO o)) x2 (nI j) g w = K (nI (pO o)) x2 (nI (pL o)) g' w ∧ ((g' = 1 ∧ g = 1 ∧ ∀ m, j ≤ m → m < pL o → s + m < e ∧ v 252 (s + m) = pW o m) ∨ (g' = 0 ∧ (g = 0 ∨ ∃ m, j ≤ m ∧ m < pL o ∧ ¬ (s + m < e ∧ v 252 (s + m) = pW o m)))) := by
    intro d
    induction d with
    | zero =>
      intro j F g hg hd hF
      obtain ⟨F, rfl⟩ : ∃ G, F = G + 1 := ⟨F - 1, by omega⟩
      have hj : j = pL o := by omega
      subst hj
      refine ⟨g, ?_, ?_⟩
      · show f_X8_wordHere_23b _ _ (nI (pO o)) x2 (nI (pL o)) g w = _
        unfold f_X8_wordHere_23b
        have := f1 o ho
        rw [nI_add, ms_gi (show pO o + pL o < 79 from this) (by decide), nI_clamp (by omega), hC.2 _ this, f2 o ho, if_pos rfl]
      · rcases hg with rfl | rfl
        · exact Or.inr ⟨rfl, Or.inl rfl⟩
        · exact Or.inl ⟨rfl, rfl, fun m p1 p2 => absurd p2 (by omega)⟩
    | succ d ih =>
      intro j F g hg hd hF
      obtain ⟨F, rfl⟩ : ∃ G, F = G + 1 := ⟨F - 1, by omega⟩
      have b1 := f1 o ho
      have b3 := f3 o ho j (by omega)
      have b4 := f4 o ho j (by omega)
      show ∃ g', f_X8_wordHere_23b _ _ (nI (pO o)) x2 (nI j) g w = _ ∧ _
      unfold f_X8_wordHere_23b f_X8_wordHere_80 f_X8_wordHere_81
      have g79 : ∀ {β : Type} (x : Option β), tm_g (tm_ix (nI (pO o + j)) 79) x = x := fun x => ms_gi (by omega) (by decide)
      rw [nI_add, g79, g79, nI_clamp (by omega), hC.2 _ (by omega), b3.1, if_neg b3.2, nI_1]
      rcases hg with rfl | rfl
      · rw [if_pos rfl]
        obtain ⟨g', c1, c2⟩ := ih (j + 1) F 0 (Or.inl rfl) (by omega) (by omega)
        refine ⟨g', c1, ?_⟩
        rcases c2 with ⟨_, c3, _⟩ | ⟨c2, _⟩
        · exact absurd c3 (by decide)
        · exact Or.inr ⟨c2, Or.inl rfl⟩
      · rw [if_neg mr_10, a2, a4, nI_add]
        by_cases q : e ≤ s + j
        · rw [if_pos (nI_le q (by omega))]
          obtain ⟨g', c1, c2⟩ := ih (j + 1) F 0 (Or.inl rfl) (by omega) (by omega)
          refine ⟨g', c1, ?_⟩
          rcases c2 with ⟨_, c3, _⟩ | ⟨c2, _⟩
          · exact absurd c3 (by decide)
          · exact Or.inr ⟨c2, Or.inr ⟨j, Nat.le_refl _, by omega, fun y => by omega⟩⟩
        · rw [if_neg (nI_ge (by omega) (by omega)), ms_gi (show s + j < 600 by omega) (by decide), nI_clamp (by omega)]
          have b5 := h4 (s + j) (by omega)
          have hcmp : w 8 (s + j) = pW o j ↔ v 252 (s + j) = pW o j := by
            rw [b5.1, b4.2]
            exact pb_cmp b5.2 b4.1
          by_cases z : w 8 (s + j) = pW o j
          · rw [if_pos z]
            obtain ⟨g', c1, c2⟩ := ih (j + 1) F 1 (Or.inr rfl) (by omega) (by omega)
            refine ⟨g', c1, ?_⟩
            rcases c2 with ⟨c2, _, c3⟩ | ⟨c2, c3 | ⟨m, c3, c4, c5⟩⟩
            · refine Or.inl ⟨c2, rfl, fun m p1 p2 => ?_⟩
              by_cases y : m = j
              · rw [y]; exact ⟨by omega, hcmp.mp z⟩
              · exact c3 m (by omega) p2
            · exact absurd c3 (by decide)
            · exact Or.inr ⟨c2, Or.inr ⟨m, by omega, c4, c5⟩⟩
          · rw [if_neg z]
            obtain ⟨g', c1, c2⟩ := ih (j + 1) F 0 (Or.inl rfl) (by omega) (by omega)
            refine ⟨g', c1, ?_⟩
            rcases c2 with ⟨_, c3, _⟩ | ⟨c2, _⟩
            · exact absurd c3 (by decide)
            · exact Or.inr ⟨c2, Or.inr ⟨j, Nat.le_refl _, by omega, fun y => z (hcmp.mpr y.2)⟩⟩
  obtain ⟨g', c1, c2⟩ := L (pL o) 0 10000 1 (Or.inr rfl) (by omega) (by omega)
  refine ⟨g', c1, ?_⟩
  rcases c2 with ⟨c2, _, c3⟩ | ⟨c2, c3 | ⟨m, c3, c4, c5⟩⟩
  · exact Or.inl ⟨c2, fun m p => c3 m (Nat.zero_le _) p⟩
  · exact absurd c3 (by decide)
  · exact Or.inr ⟨c2, m, c4, c5⟩
theorem pw_word (hT : pT t v w) (hK : pK t s e v w) : ∃ r : Int32, f_X8_wordHere w = some (r, w) ∧ ((¬ w 0 19 = 1 ∧ r = -1) ∨ (w 0 19 = 1 ∧ ((r = -1 ∧ ∀ o, o < 13 → ¬ mTE v s e o = true) ∨ ∃ o, o < 13 ∧ r = nI o ∧ mTE v s e o = true ∧ ∀ x, x < o → ¬ mTE v s e x = true))) := by
  have hK0 := hK
  obtain ⟨a1, a2, a3, a4, a5, a6, _⟩ := hK
  have ht := hT.1
  by_cases k1 : w 0 19 = 1
  · have f5 : ∀ o, o < 13 → pO o + (pL o + 1) = pO (o + 1) := by decide
    have h3 : ∀ o, o < 15 → pL o < 9 := by decide
    have L : ∀ (d i F : Nat), d + i = 13 → d < F → ∃ r : Int32, f_X8_wordHere_4 (fun v7 => some ((-1), v7)) F (nI (pO i)) (nI i) w = some (r, w) ∧ ((r = -1 ∧ ∀ o, i ≤ o → o < 13 → ¬ mTE v s e o = true) ∨ ∃ o, i ≤ o ∧ o < 13 ∧ r = nI o ∧ mTE v s e o = true ∧ ∀ x, i ≤ x → x < o → ¬ mTE v s e x = true) := by
      intro d
      induction d with
      | zero =>
        intro i F hd hF
        obtain ⟨F, rfl⟩ : ∃ G, F = G + 1 := ⟨F - 1, by omega⟩
        refine ⟨-1, ?_, Or.inl ⟨rfl, fun o p1 p2 => absurd p2 (by omega)⟩⟩
        show f_X8_wordHere_4b _ _ (nI (pO i)) (nI i) w = _
        unfold f_X8_wordHere_4b
        rw [if_pos k1, if_pos (show (13 : Int32) ≤ nI i from nI_le (a := 13) (by omega) (by omega))]
      | succ d ih =>
        intro i F hd hF
        obtain ⟨F, rfl⟩ : ∃ G, F = G + 1 := ⟨F - 1, by omega⟩
        show ∃ r : Int32, f_X8_wordHere_4b _ _ (nI (pO i)) (nI i) w = _ ∧ _
        unfold f_X8_wordHere_4b f_X8_wordHere_109
        have hl := h3 i (by omega)
        obtain ⟨g', c1, c2⟩ := pw_one hT hK0 (o := i) (by omega) (fun x1 x2 x3 x4 v5 => (if x4 = 0 then tm_lt (x1 + (x3 + 1)) fun y6 => f_X8_wordHere_4 (fun v7 => some ((-1), v7)) F y6 (x2 + 1) v5 else (if ((v5 0 17) - (v5 0 18)) = x3 then some (x2, v5) else tm_lt (x1 + (x3 + 1)) fun y6 => f_X8_wordHere_4 (fun v7 => some ((-1), v7)) F y6 (x2 + 1) v5))) (nI i)
        rw [if_pos k1, if_neg (show ¬ (13 : Int32) ≤ nI i from nI_ge (b := 13) (by omega) (by decide)), c1]
        have nxt : nI (pO i) + (nI (pL i) + 1) = nI (pO (i + 1)) := by rw [nI_1, nI_add, f5 i (by omega)]
        have more : ¬ mTE v s e i = true → ∃ r : Int32, f_X8_wordHere_4 (fun v7 => some ((-1), v7)) F (nI (pO (i + 1))) (nI (i + 1)) w = some (r, w) ∧ ((r = -1 ∧ ∀ o, i ≤ o → o < 13 → ¬ mTE v s e o = true) ∨ ∃ o, i ≤ o ∧ o < 13 ∧ r = nI o ∧ mTE v s e o = true ∧ ∀ x, i ≤ x → x < o → ¬ mTE v s e x = true) := fun z => by
          obtain ⟨r, r1, r2⟩ := ih (i + 1) F (by omega) (by omega)
          refine ⟨r, r1, ?_⟩
          rcases r2 with ⟨r2, r3⟩ | ⟨o, r2, r3, r4, r5, r6⟩
          · refine Or.inl ⟨r2, fun o p1 p2 => ?_⟩
            by_cases y : o = i
            · rw [y]; exact z
            · exact r3 o (by omega) p2
          · refine Or.inr ⟨o, by omega, r3, r4, r5, fun x p1 p2 => ?_⟩
            by_cases y : x = i
            · rw [y]; exact z
            · exact r6 x (by omega) p2
        show ∃ r : Int32, (if g' = 0 then tm_lt (nI (pO i) + (nI (pL i) + 1)) (fun y6 => f_X8_wordHere_4 (fun v7 => some ((-1), v7)) F y6 (nI i + 1) w) else (if (w 0 17) - (w 0 18) = nI (pL i) then some (nI i, w) else tm_lt (nI (pO i) + (nI (pL i) + 1)) fun y6 => f_X8_wordHere_4 (fun v7 => some ((-1), v7)) F y6 (nI i + 1) w)) = some (r, w) ∧ _
        rw [nxt, tS_lt, nI_1, a2, a4, pk_sub a5]
        rcases c2 with ⟨c2, c3⟩ | ⟨c2, m, c3, c4⟩
        · rw [c2, if_neg mr_10]
          by_cases q : e - s = pL i
          · rw [if_pos (by rw [q])]
            exact ⟨nI i, rfl, Or.inr ⟨i, Nat.le_refl _, by omega, rfl, mTE_iff.mpr ⟨q, fun j hj => (c3 j hj).2⟩, fun x p1 p2 => absurd p2 (by omega)⟩⟩
          · rw [if_neg (fun y => q ((nI_eq (by omega) (by omega)).mp y))]
            exact more (fun y => q (mTE_iff.mp y).1)
        · rw [c2, if_pos rfl]
          refine more (fun y => c4 ?_)
          obtain ⟨y1, y2⟩ := mTE_iff.mp y
          exact ⟨by omega, y2 m c3⟩
    obtain ⟨r, r1, r2⟩ := L 13 0 10000 rfl (by decide)
    refine ⟨r, r1, Or.inr ⟨k1, ?_⟩⟩
    rcases r2 with ⟨r2, r3⟩ | ⟨o, r2, r3, r4, r5, r6⟩
    · exact Or.inl ⟨r2, fun o p => r3 o (Nat.zero_le _) p⟩
    · exact Or.inr ⟨o, r3, r4, r5, fun x p => r6 x (Nat.zero_le _) p⟩
  · refine ⟨-1, ?_, Or.inl ⟨k1, rfl⟩⟩
    have k : ∀ (K : tmM → Option (Int32 × tmM)) (F : Nat), f_X8_wordHere_4 K (F + 1) 0 0 w = K w := fun K F => by
      show f_X8_wordHere_4b _ _ 0 0 w = _
      unfold f_X8_wordHere_4b
      rw [if_neg k1]
    unfold f_X8_wordHere
    exact k (fun v7 => some ((-1), v7)) 9999
end
