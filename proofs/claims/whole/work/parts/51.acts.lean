/-! ===== what the acts do ===== -/
theorem rP_scal {B : Nat} {v v' : tmM} {r r' : Nat → Int32} (h : rP B v r) (hv : ∀ c j, c ≠ 0 → c ≠ 1 → v' c j = v c j) (hr : ∀ j, 7 ≤ j → r' j = r j) (hS : rS v' r') (hI : rI r') (h2 : r' 0 = 2 → r 0 = 2) (hq : ∀ n, rQn n v r → ∀ i, i < n → ∀ a, a < 60 → r (131 + i) = nI a → mHas (r 4) (nI (a / 4)) = 0 → mHas (r' 4) (nI (a / 4)) = 0) : rP B v' r' := by
  obtain ⟨_, hT, hA, ⟨n, hQ⟩, ⟨e, hE⟩, hW, _⟩ := h
  have hQ0 := hQ
  obtain ⟨q1, q2, q3, q4, q5, q6⟩ := hQ0
  refine ⟨hS, rT_ext (fun c j hc _ => hv c j (by omega) (by omega)) (fun j hj => hr j (by omega)) hT, fun h0 => ?_, ⟨n, q1, ?_, ?_, fun i hi => ?_, fun i hi => ?_, fun i j hi hj he => ?_⟩, ⟨e, rEn_ext (fun c j hc => hv c j (by omega) (by omega)) (fun j hj => hr j (by omega)) hE⟩, fun h0 => ?_, hI⟩
  · obtain ⟨a1, a2⟩ := hA (h2 h0)
    refine ⟨fun k hk => ?_, fun k hk => ?_⟩
    · rw [hv 6 k (by omega) (by omega), hr _ (by omega)]; exact a1 k hk
    · rw [hv 7 k (by omega) (by omega), hr _ (by omega)]; exact a2 k hk
  · rw [hv 8 1 (by omega) (by omega)]; exact q2
  · rw [hr 7 (by omega)]; exact q3
  · rw [hv 9 i (by omega) (by omega), hr _ (by omega)]; exact q4 i hi
  · obtain ⟨a, a1, a2, a3⟩ := q5 i hi
    exact ⟨a, a1, by rw [hr _ (by omega)]; exact a2, hq n hQ i hi a a1 a2 a3⟩
  · rw [hr _ (by omega), hr _ (by omega)] at he
    exact q6 i j hi hj he
  · obtain ⟨a, ha⟩ := hW (h2 h0)
    exact ⟨a, rWn_ext (fun c j hc => hv c j (by omega) (by omega)) (fun j hj => hr j (by omega)) ha⟩
/-- the queue is emptied -/
theorem mm_q0 {B : Nat} {v w : tmM} (h : rP B v (w 1)) : rP B (tm_up v 8 1 0) (tm_up w 1 7 0 1) := by
  obtain ⟨hS, hT, hA, ⟨n, hQ⟩, ⟨e, hE⟩, hW, ⟨i1, i2, i3, i4, i5, i6, i7, i8⟩⟩ := h
  have hv : ∀ c j, c ≠ 8 → tm_up v 8 1 0 c j = v c j := fun c j hc => mu_ne (Or.inl hc)
  have hr : ∀ j, j ≠ 7 → tm_up w 1 7 0 1 j = w 1 j := fun j hj => mu_ne (Or.inr hj)
  refine ⟨rS_ext (fun c j hc => hv c j (by omega)) (fun j hj => hr j (by omega)) hS, rT_ext (fun c j hc _ => hv c j (by omega)) (fun j hj => hr j (by omega)) hT, rA_ext (fun c j hc _ => hv c j (by omega)) (fun j hj => hr j (by omega)) hA, ⟨0, by decide, mu_eq _ _ _ _, mu_eq _ _ _ _, fun i hi => absurd hi (by omega), fun i hi => absurd hi (by omega), fun i j hi => absurd hi (by omega)⟩, ⟨e, rEn_ext (fun c j hc => hv c j (by omega)) (fun j hj => hr j (by omega)) hE⟩, rW_ext (fun c j hc => hv c j (by omega)) (fun j hj => hr j (by omega)) hW, ?_⟩
  refine ⟨?_, ?_, ?_, ?_, ?_, ?_, fun k hk => ?_, fun h0 => ?_⟩
  · rw [hr 0 (by omega)]; exact i1
  · rw [hr 6 (by omega)]; exact i2
  · rw [hr 3 (by omega)]; exact i3
  · rw [hr 4 (by omega)]; exact i4
  · rw [hr 5 (by omega)]; exact i5
  · rw [hr 1 (by omega), hr 2 (by omega)]; exact i6
  · rw [hr _ (by omega)]; exact i7 k hk
  · rw [hr 0 (by omega)] at h0
    rw [hr 3 (by omega), hr 4 (by omega), mu_eq]
    exact ⟨rfl, (i8 h0).2⟩
/-- one scalar: the class's place j of cell 0, the reference's place i -/
theorem rS_up {v w : tmM} (h : rS v (w 1)) {j i : Nat} (hj : (j = 0 ∧ i = 0) ∨ (j = 1 ∧ i = 6) ∨ (j = 2 ∧ i = 3) ∨ (j = 3 ∧ i = 4) ∨ (j = 4 ∧ i = 5)) (x : Int32) : rS (tm_up v 0 j x) (tm_up w 1 i x 1) := by
  obtain ⟨s1, s2, s3, s4, s5, s6, s7⟩ := h
  have two : ∀ a b, ((a = j ∧ b = i) ∨ (a ≠ j ∧ b ≠ i)) → v 0 a = w 1 b → tm_up v 0 j x 0 a = tm_up w 1 i x 1 b := fun a b h1 h2 => by
    rw [mu_if, mu_if]
    rcases h1 with ⟨p, q⟩ | ⟨p, q⟩
    · rw [if_pos ⟨rfl, p⟩, if_pos ⟨rfl, q⟩]
    · rw [if_neg (fun z => p z.2), if_neg (fun z => q z.2)]; exact h2
  refine ⟨two 0 0 (by omega) s1, two 1 6 (by omega) s2, two 2 3 (by omega) s3, two 3 4 (by omega) s4, two 4 5 (by omega) s5, ?_, ?_⟩
  · rw [mu_ne (by omega), mu_ne (by omega)]; exact s6
  · rw [mu_ne (by omega), mu_ne (by omega)]; exact s7
/-- the phase -/
theorem mm_phase {B : Nat} {v w : tmM} (h : rP B v (w 1)) {p : Int32} (hp : p = 0 ∨ p = 1 ∨ p = 3) (h0 : p = 0 ∨ p = 3 → w 1 7 = 0 ∧ w 1 3 = 0 ∧ w 1 4 = 0) : rP B (tm_up v 0 0 p) (tm_up w 1 0 p 1) := by
  have hr : ∀ j, j ≠ 0 → tm_up w 1 0 p 1 j = w 1 j := fun j hj => mu_ne (Or.inr hj)
  have hI := h.2.2.2.2.2.2
  obtain ⟨i1, i2, i3, i4, i5, i6, i7, i8⟩ := hI
  refine rP_scal h (fun c j a b => mu_ne (Or.inl a)) (fun j hj => hr j (by omega)) (rS_up h.1 (by omega) p) ⟨?_, ?_, ?_, ?_, ?_, ?_, fun k hk => ?_, fun q => ?_⟩ (fun q => ?_) (fun n _ i _ a _ _ q => ?_)
  · rw [mu_eq]; rcases hp with q | q | q
    · exact Or.inl q
    · exact Or.inr (Or.inl q)
    · exact Or.inr (Or.inr (Or.inr q))
  · rw [hr 6 (by omega)]; exact i2
  · rw [hr 3 (by omega)]; exact i3
  · rw [hr 4 (by omega)]; exact i4
  · rw [hr 5 (by omega)]; exact i5
  · rw [hr 1 (by omega), hr 2 (by omega)]; exact i6
  · rw [hr _ (by omega)]; exact i7 k hk
  · rw [mu_eq] at q
    rw [hr 7 (by omega), hr 3 (by omega), hr 4 (by omega)]
    exact h0 q
  · rw [mu_eq] at q
    rcases hp with s | s | s <;> rw [s] at q <;> exact absurd q (by decide)
  · rw [hr 4 (by omega)]; exact q
/-- copied, checked, readers: a new number of bits -/
theorem mm_bits3 {B : Nat} {v w : tmM} (h : rP B v (w 1)) {x : Int32} (hx : ∃ k, k < 32768 ∧ x = nI k) (h0 : w 1 0 = 0 ∨ w 1 0 = 3 → x = 0) : rP B (tm_up v 0 2 x) (tm_up w 1 3 x 1) := by
  have hr : ∀ j, j ≠ 3 → tm_up w 1 3 x 1 j = w 1 j := fun j hj => mu_ne (Or.inr hj)
  obtain ⟨i1, i2, i3, i4, i5, i6, i7, i8⟩ := h.2.2.2.2.2.2
  refine rP_scal h (fun c j a b => mu_ne (Or.inl a)) (fun j hj => hr j (by omega)) (rS_up h.1 (by omega) x) ⟨?_, ?_, ?_, ?_, ?_, ?_, fun k hk => ?_, fun q => ?_⟩ (fun q => ?_) (fun n _ i _ a _ _ q => ?_)
  · rw [hr 0 (by omega)]; exact i1
  · rw [hr 6 (by omega)]; exact i2
  · rw [mu_eq]; exact hx
  · rw [hr 4 (by omega)]; exact i4
  · rw [hr 5 (by omega)]; exact i5
  · rw [hr 1 (by omega), hr 2 (by omega)]; exact i6
  · rw [hr _ (by omega)]; exact i7 k hk
  · rw [hr 0 (by omega)] at q
    rw [hr 7 (by omega), hr 4 (by omega), mu_eq]
    exact ⟨(i8 q).1, h0 q, (i8 q).2.2⟩
  · rw [hr 0 (by omega)] at q; exact q
  · rw [hr 4 (by omega)]; exact q
theorem mm_bits4 {B : Nat} {v w : tmM} (h : rP B v (w 1)) {x : Int32} (hx : ∃ k, k < 32768 ∧ x = nI k) (h0 : w 1 0 = 0 ∨ w 1 0 = 3 → x = 0) (hq : ∀ n, rQn n v (w 1) → ∀ i, i < n → ∀ a, a < 60 → w 1 (131 + i) = nI a → mHas (w 1 4) (nI (a / 4)) = 0 → mHas x (nI (a / 4)) = 0) : rP B (tm_up v 0 3 x) (tm_up w 1 4 x 1) := by
  have hr : ∀ j, j ≠ 4 → tm_up w 1 4 x 1 j = w 1 j := fun j hj => mu_ne (Or.inr hj)
  obtain ⟨i1, i2, i3, i4, i5, i6, i7, i8⟩ := h.2.2.2.2.2.2
  refine rP_scal h (fun c j a b => mu_ne (Or.inl a)) (fun j hj => hr j (by omega)) (rS_up h.1 (by omega) x) ⟨?_, ?_, ?_, ?_, ?_, ?_, fun k hk => ?_, fun q => ?_⟩ (fun q => ?_) (fun n hn i hi a ha h1 q => ?_)
  · rw [hr 0 (by omega)]; exact i1
  · rw [hr 6 (by omega)]; exact i2
  · rw [hr 3 (by omega)]; exact i3
  · rw [mu_eq]; exact hx
  · rw [hr 5 (by omega)]; exact i5
  · rw [hr 1 (by omega), hr 2 (by omega)]; exact i6
  · rw [hr _ (by omega)]; exact i7 k hk
  · rw [hr 0 (by omega)] at q
    rw [hr 7 (by omega), hr 3 (by omega), mu_eq]
    exact ⟨(i8 q).1, (i8 q).2.1, h0 q⟩
  · rw [hr 0 (by omega)] at q; exact q
  · rw [mu_eq]; exact hq n hn i hi a ha h1 q
theorem mm_bits5 {B : Nat} {v w : tmM} (h : rP B v (w 1)) {x : Int32} (hx : ∃ k, k < 256 ∧ x = nI k) : rP B (tm_up v 0 4 x) (tm_up w 1 5 x 1) := by
  have hr : ∀ j, j ≠ 5 → tm_up w 1 5 x 1 j = w 1 j := fun j hj => mu_ne (Or.inr hj)
  obtain ⟨i1, i2, i3, i4, i5, i6, i7, i8⟩ := h.2.2.2.2.2.2
  refine rP_scal h (fun c j a b => mu_ne (Or.inl a)) (fun j hj => hr j (by omega)) (rS_up h.1 (by omega) x) ⟨?_, ?_, ?_, ?_, ?_, ?_, fun k hk => ?_, fun q => ?_⟩ (fun q => ?_) (fun n _ i _ a _ _ q => ?_)
  · rw [hr 0 (by omega)]; exact i1
  · rw [hr 6 (by omega)]; exact i2
  · rw [hr 3 (by omega)]; exact i3
  · rw [hr 4 (by omega)]; exact i4
  · rw [mu_eq]; exact hx
  · rw [hr 1 (by omega), hr 2 (by omega)]; exact i6
  · rw [hr _ (by omega)]; exact i7 k hk
  · rw [hr 0 (by omega)] at q
    rw [hr 7 (by omega), hr 3 (by omega), hr 4 (by omega)]
    exact i8 q
  · rw [hr 0 (by omega)] at q; exact q
  · rw [hr 4 (by omega)]; exact q
theorem mm_bits6 {B : Nat} {v w : tmM} (h : rP B v (w 1)) {x : Int32} (hx : ∃ k, k < 4 ∧ x = nI k) : rP B (tm_up v 0 1 x) (tm_up w 1 6 x 1) := by
  have hr : ∀ j, j ≠ 6 → tm_up w 1 6 x 1 j = w 1 j := fun j hj => mu_ne (Or.inr hj)
  obtain ⟨i1, i2, i3, i4, i5, i6, i7, i8⟩ := h.2.2.2.2.2.2
  refine rP_scal h (fun c j a b => mu_ne (Or.inl a)) (fun j hj => hr j (by omega)) (rS_up h.1 (by omega) x) ⟨?_, ?_, ?_, ?_, ?_, ?_, fun k hk => ?_, fun q => ?_⟩ (fun q => ?_) (fun n _ i _ a _ _ q => ?_)
  · rw [hr 0 (by omega)]; exact i1
  · rw [mu_eq]; exact hx
  · rw [hr 3 (by omega)]; exact i3
  · rw [hr 4 (by omega)]; exact i4
  · rw [hr 5 (by omega)]; exact i5
  · rw [hr 1 (by omega), hr 2 (by omega)]; exact i6
  · rw [hr _ (by omega)]; exact i7 k hk
  · rw [hr 0 (by omega)] at q
    rw [hr 7 (by omega), hr 3 (by omega), hr 4 (by omega)]
    exact i8 q
  · rw [hr 0 (by omega)] at q; exact q
  · rw [hr 4 (by omega)]; exact q
/-- what an act answers: both sides go on, related -/
def mA (B : Nat) (v w : tmM) (o o' : Option (Unit × tmM)) : Prop := ∃ v' w', o = some ((), v') ∧ o' = some ((), w') ∧ rP B v' (w' 1) ∧ mFr v w v' w'
theorem mm_enter {B : Nat} {v w : tmM} {p : Int32} (h : rP B (tm_up v 0 0 p) (tm_up w 1 0 p 1)) : mA B v w (f_X4_enter p v) (f_X8_becomesPhase p w) := by
  obtain ⟨v', w', a1, a2, a3, a4⟩ := me_ev h 8 p
  refine ⟨v', w', ?_, ?_, a3, ((mFr.refl v w).up (by decide)).trans a4.fr⟩
  · unfold f_X4_enter
    rw [tS_lt, ms_cl a1]
  · unfold f_X8_becomesPhase
    rw [mr_g0, mr_n0, tS_lt, ms_cl a2]
/-! begin -/
theorem ma_begin {B : Nat} {v w : tmM} (h : rP B v (w 1)) (h0 : v 0 0 = 0) : ∃ v' w', f_X4_enter 1 v = some ((), v') ∧ tm_cl (f_X8_endsBoth w) (fun _ v6 => tm_cl (f_X8_becomesPhase 1 v6) fun _ v8 => some (nI 0, v8)) = some (nI 0, w') ∧ rP B v' (w' 1) ∧ mFr v w v' w' := by
  have hr0 := (mr_phase h).1
  have hz := h.2.2.2.2.2.2.2.2.2.2.2.2.2 (Or.inl (hr0.symm.trans h0))
  have e : f_X8_endsBoth w = some ((), w) := by
    unfold f_X8_endsBoth
    rw [mr_g7, tS_lt, mr_g3, tS_lt, mr_g4, tS_lt, mr_n7, mr_n3', mr_n4]
    congr 2
    funext c j
    rw [mu_if, mu_if, mu_if]
    by_cases a : c = 1 ∧ j = 4
    · rw [if_pos a, a.1, a.2, hz.2.2]
    · rw [if_neg a]
      by_cases b : c = 1 ∧ j = 3
      · rw [if_pos b, b.1, b.2, hz.2.1]
      · rw [if_neg b]
        by_cases d : c = 1 ∧ j = 7
        · rw [if_pos d, d.1, d.2, hz.1]
        · rw [if_neg d]
  obtain ⟨v', w', a1, a2, a3, a4⟩ := mm_enter (mm_phase h (p := 1) (Or.inr (Or.inl rfl)) (fun q => by rcases q with q | q <;> exact absurd q (by decide)))
  exact ⟨v', w', a1, by rw [e, tS_cl, a2, tS_cl], a3, a4⟩
/-! a table is emptied -/
theorem ma_clear {B : Nat} {v w : tmM} (h : rP B v (w 1)) {s : Nat} (hs : s < 2) : mA B v w (f_X5_clear (nI s) v) (f_X8_empties (nI (if s = 0 then 11 else 71)) w) ∧ ∀ v' w', f_X5_clear (nI s) v = some ((), v') → f_X8_empties (nI (if s = 0 then 11 else 71)) w = some ((), w') → (∀ j, v' 0 j = v 0 j) ∧ ∀ j, j ≤ 10 → w' 1 j = w 1 j := by
  generalize ho : (if s = 0 then 11 else 71) = o
  have ho2 : 11 ≤ o ∧ o ≤ 71 := by rw [← ho]; split <;> omega
  have L : ∀ (d i F : Nat) (v w : tmM), d + i = 60 → d < F → rP B v (w 1) → ∃ v' w', f_X5_clear_2 (fun v5 => some ((), v5)) F (nI s) (nI i) v = some ((), v') ∧ f_X8_empties_2 (fun v2 => some ((), v2)) F (nI o) (nI i) w = some ((), w') ∧ rP B v' (w' 1) ∧ mFr v w v' w' ∧ (∀ j, v' 0 j = v 0 j) ∧ ∀ j, j ≤ 10 → w' 1 j = w 1 j := by
    intro d
    induction d with
    | zero =>
      intro i F v w hd hF h
      obtain ⟨F, rfl⟩ : ∃ G, F = G + 1 := ⟨F - 1, by omega⟩
      have e : (60 : Int32) ≤ nI i := nI_le (a := 60) (by omega) (by omega)
      refine ⟨v, w, ?_, ?_, h, mFr.refl v w, fun _ => rfl, fun _ _ => rfl⟩
      · show f_X5_clear_2b _ _ (nI s) (nI i) v = _
        unfold f_X5_clear_2b
        rw [if_pos e]
      · show f_X8_empties_2b _ _ (nI o) (nI i) w = _
        unfold f_X8_empties_2b
        rw [if_pos e]
    | succ d ih =>
      intro i F v w hd hF h
      obtain ⟨F, rfl⟩ : ∃ G, F = G + 1 := ⟨F - 1, by omega⟩
      have e : ¬ (60 : Int32) ≤ nI i := nI_ge (b := 60) (by omega) (by decide)
      have h1 := mm_lay h hs (k := i) (by omega) (x := -1) (fun _ => Or.inl rfl)
      rw [ho, show mSt v s (-1) = -1 from if_pos rfl] at h1
      obtain ⟨v', w', a1, a2, a3, a4, a5, a6⟩ := ih (i + 1) F _ _ (by omega) (by omega) h1
      refine ⟨v', w', ?_, ?_, a3, ((mFr.refl v w).up (by omega)).trans a4, fun j => (a5 j).trans (mu_ne (by omega)), fun j hj => (a6 j hj).trans (mu_ne (by omega))⟩
      · show f_X5_clear_2b _ _ (nI s) (nI i) v = _
        unfold f_X5_clear_2b
        rw [if_neg e, ms_gi hs (by decide), tS_lt, mz_34 hs, ms_gi (show i < 60 by omega) (by decide), tS_lt, nI_clamp (by omega), nI_1, a1]
      · show f_X8_empties_2b _ _ (nI o) (nI i) w = _
        unfold f_X8_empties_2b
        rw [if_neg e, nI_add, ms_gi (show o + i < 491 by omega) (by decide), tS_lt, nI_clamp (by omega), nI_1, a2]
  obtain ⟨v', w', a1, a2, a3, a4, a5, a6⟩ := L 60 0 10000 v w rfl (by decide) h
  refine ⟨⟨v', w', a1, a2, a3, a4⟩, fun v2 w2 b1 b2 => ?_⟩
  have c1 : v2 = v' := by
    have := b1.symm.trans a1
    injection this with q
    injection q
  have c2 : w2 = w' := by
    have := b2.symm.trans a2
    injection this with q
    injection q
  rw [c1, c2]
  exact ⟨a5, a6⟩
/-- stop and finish -/
theorem ma_end {B : Nat} {v w : tmM} (h : rP B v (w 1)) {s : Nat} (hs : s < 2) {p : Int32} (hp : p = 0 ∨ p = 3) : ∃ v' w', tm_cl (f_X5_clear (nI s) v) (fun _ v30 => tm_cl (f_X4_forgetProgress v30) fun _ v32 => tm_cl (f_X4_enter p v32) fun _ v34 => some ((), v34)) = some ((), v') ∧ tm_cl (f_X8_empties (nI (if s = 0 then 11 else 71)) w) (fun _ v6 => tm_cl (f_X8_endsBoth v6) fun _ v8 => tm_cl (f_X8_becomesPhase p v8) fun _ v10 => some (nI 0, v10)) = some (nI 0, w') ∧ rP B v' (w' 1) ∧ mFr v w v' w' := by
  obtain ⟨⟨v1, w1, a1, a2, a3, a4⟩, _⟩ := ma_clear h hs
  have b1 := mm_q0 a3
  have b2 := mm_bits3 b1 (x := 0) ⟨0, by decide, rfl⟩ (fun _ => rfl)
  have b3 := mm_bits4 b2 (x := 0) ⟨0, by decide, rfl⟩ (fun _ => rfl) (fun n _ i _ a _ _ _ => by rw [show (0 : Int32) = nI 0 from rfl, mb_has (by decide) (by omega)]; simp; rfl)
  have b4 := mm_phase b3 (p := p) (by rcases hp with q | q; exact Or.inl q; exact Or.inr (Or.inr q)) (fun _ => ⟨by rw [mu_ne (by omega), mu_ne (by omega), mu_eq], by rw [mu_ne (by omega), mu_eq], mu_eq _ _ _ _⟩)
  obtain ⟨v', w', c1, c2, c3, c4⟩ := mm_enter b4
  refine ⟨v', w', ?_, ?_, c3, a4.trans (((((mFr.refl v1 w1).up (by decide)).up (by decide)).up (by decide)).trans c4)⟩
  · unfold f_X4_forgetProgress f_X2_clear
    rw [ms_cl a1, tS_lt, tS_cl, tS_lt, tS_lt, tS_cl, ms_cl c1]
  · unfold f_X8_endsBoth
    rw [ms_cl a2, mr_g7, tS_lt, mr_g3, tS_lt, mr_g4, tS_lt, mr_n7, mr_n3', mr_n4, tS_cl, ms_cl c2]
