/-! ===== failing; numbers; words ===== -/
def pE (v w : tmM) : Prop := v 251 6 = w 0 21 ∧ v 251 7 = w 0 22 ∧ ∃ k, k < 4 ∧ w 0 21 = nI k
/-- commands, as each side keeps them -/
def mCm (a f s c x y : Int32) : Prop := (∃ k p, k < 60 ∧ p < 1000 ∧ a = 11 ∧ f = nI k ∧ s = nI p ∧ c = 0 ∧ x = nI k ∧ y = nI p) ∨ (∃ k, k < 60 ∧ a = 12 ∧ f = nI k ∧ c = 1 ∧ x = nI k) ∨ (a = 0 ∧ f = 0 ∧ c = 2) ∨ (∃ m, m < 16 ∧ a = 1 ∧ f = nI m ∧ c = 3 ∧ x = nI m) ∨ (∃ m, m < 16 ∧ a = 2 ∧ f = nI m ∧ c = 4 ∧ x = nI m) ∨ (∃ m, m < 15 ∧ a = 3 ∧ f = nI m ∧ c = 5 ∧ x = nI m) ∨ (∃ m, m < 8 ∧ a = 4 ∧ f = nI m ∧ c = 6 ∧ x = nI m) ∨ (∃ m, m < 8 ∧ a = 5 ∧ f = nI m ∧ c = 7 ∧ x = nI m) ∨ (a = 6 ∧ f = 0 ∧ c = 8) ∨ (a = 7 ∧ f = 0 ∧ c = 9 ∧ x = 0) ∨ (a = 8 ∧ f = 0 ∧ c = 9 ∧ x = 1) ∨ (a = 9 ∧ f = 0 ∧ c = 10) ∨ (a = 10 ∧ f = 0 ∧ c = 11)
def pC (n : Nat) (v w : tmM) : Prop := n ≤ 30 ∧ v 251 5 = nI n ∧ w 0 24 = nI n ∧ ∀ i, i < n → mCm (v 253 i) (v 254 i) (v 255 i) (w 10 i) (w 11 i) (w 12 i)
def pS (t n : Nat) (v w : tmM) : Prop := pT t v w ∧ pC n v w ∧ pE v w ∧ ∃ s e, pK t s e v w
def pF (v w v' w' : tmM) : Prop := (∀ c, c ≠ 251 → c ≠ 253 → c ≠ 254 → c ≠ 255 → v' c = v c) ∧ v' 251 1 = v 251 1 ∧ (∀ c, c ≠ 0 → c ≠ 10 → c ≠ 11 → c ≠ 12 → w' c = w c) ∧ ∀ j, (j < 17 ∨ 24 < j) → w' 0 j = w 0 j
theorem pF.refl (v w : tmM) : pF v w v w := ⟨fun _ _ _ _ _ => rfl, rfl, fun _ _ _ _ _ => rfl, fun _ _ => rfl⟩
theorem pF.trans {v w v1 w1 v2 w2 : tmM} (h : pF v w v1 w1) (k : pF v1 w1 v2 w2) : pF v w v2 w2 := ⟨fun c a b d e => (k.1 c a b d e).trans (h.1 c a b d e), k.2.1.trans h.2.1, fun c a b d e => (k.2.2.1 c a b d e).trans (h.2.2.1 c a b d e), fun j a => (k.2.2.2 j a).trans (h.2.2.2 j a)⟩
theorem pN.toF {v w v' w' : tmM} (h : pN v w v' w') : pF v w v' w' := ⟨fun c a _ _ _ => h.1 c a, h.2.1 1 (by decide) (by decide) (by decide), fun c a _ _ _ => h.2.2.1 c a, fun j a => h.2.2.2 j (by omega)⟩
theorem pE_ext {v w v' w' : tmM} (h1 : v' 251 6 = v 251 6) (h2 : v' 251 7 = v 251 7) (h3 : w' 0 21 = w 0 21) (h4 : w' 0 22 = w 0 22) (h : pE v w) : pE v' w' := by
  obtain ⟨a, b, k, c, d⟩ := h
  exact ⟨h1.trans (a.trans h3.symm), h2.trans (b.trans h4.symm), k, c, h3.trans d⟩
theorem pC_ext {n : Nat} {v w v' w' : tmM} (h1 : v' 251 5 = v 251 5) (h2 : w' 0 24 = w 0 24) (h3 : ∀ i, i < n → v' 253 i = v 253 i ∧ v' 254 i = v 254 i ∧ v' 255 i = v 255 i ∧ w' 10 i = w 10 i ∧ w' 11 i = w 11 i ∧ w' 12 i = w 12 i) (h : pC n v w) : pC n v' w' := by
  obtain ⟨a, b, c, d⟩ := h
  refine ⟨a, h1.trans b, h2.trans c, fun i hi => ?_⟩
  obtain ⟨e1, e2, e3, e4, e5, e6⟩ := h3 i hi
  rw [e1, e2, e3, e4, e5, e6]
  exact d i hi
theorem pK_ext {t s e : Nat} {v w v' w' : tmM} (h1 : ∀ j, (j = 8 ∨ j = 9 ∨ j = 10) → v' 251 j = v 251 j) (h2 : v' 252 = v 252) (h3 : ∀ j, 17 ≤ j → j ≤ 20 → w' 0 j = w 0 j) (h : pK t s e v w) : pK t s e v' w' := by
  obtain ⟨a1, a2, a3, a4, a5, a6, a7, a8, a9⟩ := h
  have e19 := h3 19 (by decide) (by decide)
  refine ⟨(h1 9 (by omega)).trans a1, (h3 18 (by decide) (by decide)).trans a2, (h1 10 (by omega)).trans a3, (h3 17 (by decide) (by decide)).trans a4, a5, a6, by rw [h1 8 (by omega), e19]; exact a7, by rw [e19]; exact a8, fun q => ?_⟩
  rw [e19] at q
  rw [h3 20 (by decide) (by decide), h2]
  obtain ⟨b1, b2⟩ := a9 q
  refine ⟨?_, b2⟩
  rw [b1]
  apply mFold_congr
  intro j _ _ x
  unfold g8
  rw [h2]
section
variable {t n : Nat} {v w : tmM}
/-- the next token -/
theorem ps_tok (h : pS t n v w) : ∃ v' w', f_X3_nextToken v = some ((), v') ∧ f_X8_goesOn w = some ((), w') ∧ pS t n v' w' ∧ pN v w v' w' := by
  obtain ⟨hT, hC, hE, s, e, hK⟩ := h
  obtain ⟨s', e', v', w', a1, a2, a3, a4⟩ := pk_tok hT hK.2.2.1 hK.2.2.2.1 hK.2.2.2.2.2.1
  refine ⟨v', w', a1, a2, ⟨pT_ext (a4.2.1 1 (by decide) (by decide) (by decide)) (a4.1 252 (by decide)) (a4.2.2.2 16 (by decide)) (a4.2.2.1 8 (by decide)) (a4.2.2.1 7 (by decide)) (a4.2.2.1 9 (by decide)) hT, pC_ext (a4.2.1 5 (by decide) (by decide) (by decide)) (a4.2.2.2 24 (by decide)) (fun i _ => ⟨by rw [a4.1 253 (by decide)], by rw [a4.1 254 (by decide)], by rw [a4.1 255 (by decide)], by rw [a4.2.2.1 10 (by decide)], by rw [a4.2.2.1 11 (by decide)], by rw [a4.2.2.1 12 (by decide)]⟩) hC, pE_ext (a4.2.1 6 (by decide) (by decide) (by decide)) (a4.2.1 7 (by decide) (by decide) (by decide)) (a4.2.2.2 21 (by decide)) (a4.2.2.2 22 (by decide)) hE, s', e', a3⟩, a4⟩
/-- a failure -/
def pD (v w v' w' : tmM) : Prop := (∀ c, c ≠ 251 → v' c = v c) ∧ (∀ j, j ≠ 6 → j ≠ 7 → v' 251 j = v 251 j) ∧ (∀ c, c ≠ 0 → w' c = w c) ∧ ∀ j, j ≠ 21 → j ≠ 22 → w' 0 j = w 0 j
theorem pD.toF {v w v' w' : tmM} (h : pD v w v' w') : pF v w v' w' := ⟨fun c a _ _ _ => h.1 c a, h.2.1 1 (by decide) (by decide), fun c a _ _ _ => h.2.2.1 c a, fun j a => h.2.2.2 j (by omega) (by omega)⟩
theorem ps_fail (h : pS t n v w) {k : Nat} (hk : 1 ≤ k) (hk4 : k < 4) : ∃ v' w', f_X3_fail (nI k) v = some ((), v') ∧ f_X8_fails (nI k) w = some ((), w') ∧ pS t n v' w' ∧ pD v w v' w' ∧ ¬ v' 251 6 = 0 ∧ ¬ w' 0 21 = 0 := by
  obtain ⟨hT, hC, hE, s, e, hK⟩ := h
  obtain ⟨e1, e2, k0, e3, e4⟩ := hE
  unfold f_X3_fail f_X8_fails
  rw [e1]
  by_cases z : w 0 21 = 0
  · rw [if_pos z, if_pos z, tS_lt, tS_lt, tS_lt, tS_lt]
    have d : pD v w (tm_up (tm_up v 251 6 (nI k)) 251 7 (tm_up v 251 6 (nI k) 251 9)) (tm_up (tm_up w 0 21 (nI k)) 0 22 (tm_up w 0 21 (nI k) 0 18)) := ⟨fun c hc => by rw [tu_ne _ _ _ hc, tu_ne _ _ _ hc], fun j a b => by rw [mu_ne (by omega), mu_ne (by omega)], fun c hc => by rw [tu_ne _ _ _ hc, tu_ne _ _ _ hc], fun j a b => by rw [mu_ne (by omega), mu_ne (by omega)]⟩
    refine ⟨_, _, rfl, rfl, ⟨pT_ext (d.2.1 1 (by decide) (by decide)) (d.1 252 (by decide)) (d.2.2.2 16 (by decide) (by decide)) (d.2.2.1 8 (by decide)) (d.2.2.1 7 (by decide)) (d.2.2.1 9 (by decide)) hT, pC_ext (d.2.1 5 (by decide) (by decide)) (d.2.2.2 24 (by decide) (by decide)) (fun i _ => ⟨by rw [d.1 253 (by decide)], by rw [d.1 254 (by decide)], by rw [d.1 255 (by decide)], by rw [d.2.2.1 10 (by decide)], by rw [d.2.2.1 11 (by decide)], by rw [d.2.2.1 12 (by decide)]⟩) hC, ⟨?_, ?_, k, hk4, ?_⟩, s, e, pK_ext (fun j hj => d.2.1 j (by omega) (by omega)) (d.1 252 (by decide)) (fun j a b => d.2.2.2 j (by omega) (by omega)) hK⟩, d, ?_, ?_⟩
    · rw [mu_ne (by omega), mu_eq, mu_ne (by omega), mu_eq]
    · rw [mu_eq, mu_eq, mu_ne (by omega), mu_ne (by omega), hK.1, hK.2.1]
    · rw [mu_ne (by omega), mu_eq]
    · rw [mu_ne (by omega), mu_eq]; exact nI_ne0 (by omega) (by omega)
    · rw [mu_ne (by omega), mu_eq]; exact nI_ne0 (by omega) (by omega)
  · rw [if_neg z, if_neg z]
    exact ⟨v, w, rfl, rfl, ⟨hT, hC, ⟨e1, e2, k0, e3, e4⟩, s, e, hK⟩, ⟨fun _ _ => rfl, fun _ _ _ => rfl, fun _ _ => rfl, fun _ _ _ => rfl⟩, by rw [e1]; exact z, z⟩
/-- the number that the class reads -/
def g7 (v : tmM) (i : Nat) (a : Int32) : Int32 := if 100000 < ((a * 10) + v 252 i) - 48 then 100000 else ((a * 10) + v 252 i) - 48
theorem pn_two {v : tmM} : ∀ (d i a b : Nat), (∀ j, i ≤ j → j < i + d → ∃ c, 48 ≤ c ∧ c ≤ 57 ∧ v 252 j = nI c) → ((a = b ∧ a ≤ 10000) ∨ (10000 < a ∧ 10000 < b)) → a ≤ 100000 → b ≤ 100009 → ∃ x y, mFold (g7 v) d i (nI a) = nI x ∧ mFold (g8 v) d i (nI b) = nI y ∧ ((x = y ∧ x ≤ 10000) ∨ (10000 < x ∧ 10000 < y)) ∧ x ≤ 100000 ∧ y ≤ 100009
  | 0, i, a, b, _, h, h1, h2 => ⟨a, b, rfl, rfl, h, h1, h2⟩
  | d + 1, i, a, b, hd, h, h1, h2 => by
    obtain ⟨c, c1, c2, c3⟩ := hd i (Nat.le_refl _) (by omega)
    have ea : ((nI a * 10) + nI c) - 48 = nI (a * 10 + (c - 48)) := by
      rw [show nI a * 10 = nI (a * 10) from pk_mul a 10, nI_add, show (48 : Int32) = nI 48 from rfl, pk_sub (by omega)]
      congr 1; omega
    have eb : ((10 * nI b) + nI c) - 48 = nI (10 * b + (c - 48)) := by
      rw [show 10 * nI b = nI (10 * b) from pk_mul 10 b, nI_add, show (48 : Int32) = nI 48 from rfl, pk_sub (by omega)]
      congr 1; omega
    have s7 : g7 v i (nI a) = nI (if 100000 < a * 10 + (c - 48) then 100000 else a * 10 + (c - 48)) := by
      unfold g7
      rw [c3, ea]
      by_cases q : 100000 < a * 10 + (c - 48)
      · rw [if_pos (show (100000 : Int32) < nI (a * 10 + (c - 48)) from nI_lt (a := 100000) q (by omega)), if_pos q]; rfl
      · rw [if_neg (show ¬ (100000 : Int32) < nI (a * 10 + (c - 48)) from nI_nlt (a := 100000) (by omega) (by omega)), if_neg q]
    have s8 : g8 v i (nI b) = nI (if b ≤ 10000 then 10 * b + (c - 48) else b) := by
      unfold g8
      rw [c3, eb]
      by_cases q : b ≤ 10000
      · rw [if_pos (show nI b ≤ 10000 from nI_le (b := 10000) q (by decide)), if_pos q]
      · rw [if_neg (show ¬ nI b ≤ 10000 from nI_ge (a := 10000) (by omega) (by omega)), if_neg q]
    have := pn_two (v := v) d (i + 1) (if 100000 < a * 10 + (c - 48) then 100000 else a * 10 + (c - 48)) (if b ≤ 10000 then 10 * b + (c - 48) else b) (fun j p q => hd j (by omega) (by omega)) (by split <;> split <;> omega) (by split <;> omega) (by split <;> omega)
    rw [← s7, ← s8] at this
    exact this
theorem pn_here (hT : pT t v w) {s e : Nat} (hK : pK t s e v w) : f_X3_numberHere v = some (mFold (g7 v) (e - s) s 0, v) := by
  have ht := hT.1
  obtain ⟨a1, a2, a3, a4, a5, a6, _⟩ := hK
  have L : ∀ (d i F : Nat) (a : Int32), d + i = e → d < F → f_X3_numberHere_7 (fun x3 v4 => some (x3, v4)) F a (nI i) v = some (mFold (g7 v) d i a, v) := by
    intro d
    induction d with
    | zero =>
      intro i F a hd hF
      obtain ⟨F, rfl⟩ : ∃ G, F = G + 1 := ⟨F - 1, by omega⟩
      show f_X3_numberHere_7b _ _ a (nI i) v = _
      unfold f_X3_numberHere_7b
      rw [a3, if_pos (nI_le (by omega) (by omega))]
      rfl
    | succ d ih =>
      intro i F a hd hF
      obtain ⟨F, rfl⟩ : ∃ G, F = G + 1 := ⟨F - 1, by omega⟩
      show f_X3_numberHere_7b _ _ a (nI i) v = _
      unfold f_X3_numberHere_7b
      rw [a3, if_neg (nI_ge (by omega) (by omega)), ms_gi (show i < 600 by omega) (by decide), nI_clamp (by omega), tS_lt, nI_1]
      exact ih (i + 1) F _ (by omega) (by omega)
  unfold f_X3_numberHere
  rw [tS_lt, a1]
  exact L (e - s) s 10000 0 (by omega) (by omega)
/-- a number is read, or it fails -/
theorem ps_num (h : pS t n v w) {lo hi : Nat} (hl : lo ≤ hi) (hh : hi ≤ 999) : ∃ r7 r8 v' w', f_X3_parseNumber (nI lo) (nI hi) v = some (r7, v') ∧ f_X8_reads (nI lo) (nI hi) w = some (r8, w') ∧ pS t n v' w' ∧ pF v w v' w' ∧ (v' 253 = v 253 ∧ v' 254 = v 254 ∧ v' 255 = v 255 ∧ w' 10 = w 10 ∧ w' 11 = w 11 ∧ w' 12 = w 12 ∧ w' 0 24 = w 0 24) ∧ (v' 251 6 = 0 → v 251 6 = 0 ∧ ∃ m, lo ≤ m ∧ m ≤ hi ∧ r7 = nI m ∧ r8 = nI m) := by
  have h0 := h
  obtain ⟨hT, hC, hE, s, e, hK⟩ := h
  have hK0 := hK
  obtain ⟨a1, a2, a3, a4, a5, a6, a7, a8, a9⟩ := hK
  have e6 := hE.1
  have e2 : (2 : Int32) = nI 2 := rfl
  have e1 : (1 : Int32) = nI 1 := rfl
  -- the error that is there already
  by_cases z : v 251 6 = 0
  · have z8 : w 0 21 = 0 := by rw [← e6]; exact z
    unfold f_X3_parseNumber f_X8_reads f_X3_parseNumber_39 f_X8_reads_33
    rw [if_pos z, a7]
    by_cases k2 : w 0 19 = 2
    · obtain ⟨b1, b2⟩ := a9 k2
      obtain ⟨x, y, x1, x2, x3, x4, x5⟩ := pn_two (v := v) (e - s) s 0 0 (fun j p q => b2 j p (by omega)) (Or.inl ⟨rfl, by decide⟩) (by decide) (by decide)
      rw [if_pos k2, if_pos k2, ms_cl (pn_here hT hK0), b1, show mFold (g7 v) (e - s) s 0 = nI x from x1, show mFold (g8 v) (e - s) s 0 = nI y from x2, ms_cl (pq_in _ _ _ _)]
      have er : w 0 20 = nI y := b1.trans x2
      by_cases q : lo ≤ x ∧ x ≤ hi
      · have hxy : x = y := by omega
        subst hxy
        obtain ⟨v', w', c1, c2, c3, c4⟩ := ps_tok h0
        rw [if_neg (nI_nlt q.1 (by omega)), if_pos (nI_le q.2 (by omega)), if_pos (show nI lo ≤ nI x ∧ nI x ≤ nI hi from ⟨nI_le q.1 (by omega), nI_le q.2 (by omega)⟩), if_neg mr_10, if_pos (show w 0 21 ≤ 0 by rw [z8]; decide), tS_lt, er, ms_cl c1, ms_cl c2]
        exact ⟨nI x, nI x, v', w', rfl, rfl, c3, c4.toF, ⟨c4.1 253 (by decide), c4.1 254 (by decide), c4.1 255 (by decide), c4.2.2.1 10 (by decide), c4.2.2.1 11 (by decide), c4.2.2.1 12 (by decide), c4.2.2.2 24 (by decide)⟩, fun _ => ⟨z, x, q.1, q.2, rfl, rfl⟩⟩
      · obtain ⟨v', w', c1, c2, c3, c4, c5, c6⟩ := ps_fail h0 (k := 2) (by decide) (by decide)
        have q8 : ¬ (nI lo ≤ nI y ∧ nI y ≤ nI hi) := fun p => by
          have p1 := (nI_leI (by omega) (by omega)).mp p.1
          have p2 := (nI_leI (by omega) (by omega)).mp p.2
          omega
        have g21 : ¬ w' 0 21 ≤ 0 := by
          obtain ⟨k, k1, k2⟩ := c3.2.2.1.2.2
          rw [k2] at c6 ⊢
          by_cases y0 : k = 0
          · subst y0; exact absurd rfl c6
          · exact nI_nle (by omega) (by omega)
        have cl7 : (if nI x < nI lo then tm_cl (f_X3_fail 2 v) (fun _ v3 => some ((0 : Int32), v3)) else if nI x ≤ nI hi then tm_cl (f_X3_nextToken v) (fun _ v5 => some (nI x, v5)) else tm_cl (f_X3_fail 2 v) fun _ v3 => some (0, v3)) = some (0, v') := by
          by_cases p1 : x < lo
          · rw [if_pos (nI_lt p1 (by omega)), ms_cl (show f_X3_fail 2 v = _ from c1)]
          · rw [if_neg (nI_nlt (by omega) (by omega)), if_neg (nI_ge (by omega) (by omega)), ms_cl (show f_X3_fail 2 v = _ from c1)]
        rw [if_neg q8, if_pos rfl, ms_cl (show f_X8_fails 2 w = _ from c2), if_neg g21]
        exact ⟨0, nI lo, v', w', cl7, rfl, c3, c4.toF, ⟨c4.1 253 (by decide), c4.1 254 (by decide), c4.1 255 (by decide), c4.2.2.1 10 (by decide), c4.2.2.1 11 (by decide), c4.2.2.1 12 (by decide), c4.2.2.2 24 (by decide) (by decide)⟩, fun y => absurd y c5⟩
    · obtain ⟨v', w', c1, c2, c3, c4, c5, c6⟩ := ps_fail h0 (k := 1) (by decide) (by decide)
      have g21 : ¬ w' 0 21 ≤ 0 := by
        obtain ⟨k, k1, k2⟩ := c3.2.2.1.2.2
        rw [k2] at c6 ⊢
        by_cases y0 : k = 0
        · subst y0; exact absurd rfl c6
        · exact nI_nle (by omega) (by omega)
      rw [if_neg k2, if_neg k2, ms_cl (show f_X3_fail 1 v = _ from c1), ms_cl (show f_X8_fails 1 w = _ from c2), if_neg g21]
      exact ⟨0, nI lo, v', w', rfl, rfl, c3, c4.toF, ⟨c4.1 253 (by decide), c4.1 254 (by decide), c4.1 255 (by decide), c4.2.2.1 10 (by decide), c4.2.2.1 11 (by decide), c4.2.2.1 12 (by decide), c4.2.2.2 24 (by decide) (by decide)⟩, fun y => absurd y c5⟩
  · have z8 : ¬ w 0 21 = 0 := by rw [← e6]; exact z
    have nf : ∀ k, f_X8_fails k w = some ((), w) := fun k => by
      unfold f_X8_fails
      rw [if_neg z8]
    have g21 : ¬ w 0 21 ≤ 0 := by
      obtain ⟨k, k1, k2⟩ := hE.2.2
      rw [k2] at z8 ⊢
      by_cases y0 : k = 0
      · subst y0; exact absurd rfl z8
      · exact nI_nle (by omega) (by omega)
    refine ⟨0, nI lo, v, w, ?_, ?_, h0, pF.refl v w, ⟨rfl, rfl, rfl, rfl, rfl, rfl, rfl⟩, fun y => absurd y z⟩
    · unfold f_X3_parseNumber
      rw [if_neg z]
    · unfold f_X8_reads f_X8_reads_33
      rw [ms_cl (nf 1)]
      simp only [ms_cl (nf 2), ms_cl (pq_in _ _ _ _), if_neg g21]
      split
      · split <;> rfl
      · rfl
end
