/-! ===== what changes a state ===== -/
theorem mu_eq (v : tmM) (k j : Nat) (x : Int32) : tm_up v k j x k j = x := by rw [tu_eq]; exact pk_us
theorem mu_ne {v : tmM} {k j c i : Nat} {x : Int32} (h : c ≠ k ∨ i ≠ j) : tm_up v k j x c i = v c i := by
  by_cases hc : c = k
  · subst hc
    rw [tu_eq]
    exact pk_un (h.elim (fun q => absurd rfl q) id)
  · rw [tu_ne v j x hc]
theorem mu_if (v : tmM) (k j c i : Nat) (x : Int32) : tm_up v k j x c i = if c = k ∧ i = j then x else v c i := by
  by_cases h : c = k ∧ i = j
  · rw [if_pos h, h.1, h.2, mu_eq]
  · rw [if_neg h]; exact mu_ne (by omega)
theorem mt_eq (v : tmM) (k : Nat) (f : Nat → Int32) : tm_set v k f k = f := if_pos rfl
theorem mt_ne {v : tmM} {k c : Nat} {f : Nat → Int32} (h : c ≠ k) : tm_set v k f c = v c := if_neg h
theorem rS_ext {v v' : tmM} {r r' : Nat → Int32} (hv : ∀ c j, ((c = 0 ∧ j < 5) ∨ (c = 1 ∧ j < 2)) → v' c j = v c j) (hr : ∀ j, j ≤ 6 → r' j = r j) (h : rS v r) : rS v' r' := by
  obtain ⟨s1, s2, s3, s4, s5, s6, s7⟩ := h
  refine ⟨?_, ?_, ?_, ?_, ?_, ?_, ?_⟩
  · rw [hv 0 0 (by omega), hr 0 (by omega)]; exact s1
  · rw [hv 0 1 (by omega), hr 6 (by omega)]; exact s2
  · rw [hv 0 2 (by omega), hr 3 (by omega)]; exact s3
  · rw [hv 0 3 (by omega), hr 4 (by omega)]; exact s4
  · rw [hv 0 4 (by omega), hr 5 (by omega)]; exact s5
  · rw [hv 1 0 (by omega), hr 1 (by omega)]; exact s6
  · rw [hv 1 1 (by omega), hr 2 (by omega)]; exact s7
theorem rT_ext {v v' : tmM} {r r' : Nat → Int32} (hv : ∀ c j, (c = 3 ∨ c = 4 ∨ c = 18) → j < 60 → v' c j = v c j) (hr : ∀ j, ((11 ≤ j ∧ j < 131) ∨ (431 ≤ j ∧ j < 491)) → r' j = r j) (h : rT v r) : rT v' r' := by
  obtain ⟨t1, t2, t3⟩ := h
  refine ⟨fun k hk => ?_, fun k hk => ?_, fun k hk => ?_⟩
  · rw [hv 3 k (by omega) hk, hr _ (by omega)]; exact t1 k hk
  · rw [hv 4 k (by omega) hk, hr _ (by omega)]; exact t2 k hk
  · rw [hv 18 k (by omega) hk, hr _ (by omega)]; exact t3 k hk
theorem rA_ext {v v' : tmM} {r r' : Nat → Int32} (hv : ∀ c j, (c = 6 ∨ c = 7) → j < 60 → v' c j = v c j) (hr : ∀ j, (j = 0 ∨ (191 ≤ j ∧ j < 311)) → r' j = r j) (h : rA v r) : rA v' r' := by
  intro h2
  rw [hr 0 (by omega)] at h2
  obtain ⟨a1, a2⟩ := h h2
  refine ⟨fun k hk => ?_, fun k hk => ?_⟩
  · rw [hv 6 k (by omega) hk, hr _ (by omega)]; exact a1 k hk
  · rw [hv 7 k (by omega) hk, hr _ (by omega)]; exact a2 k hk
theorem rQn_ext {n : Nat} {v v' : tmM} {r r' : Nat → Int32} (hv : ∀ c j, ((c = 8 ∧ j = 1) ∨ (c = 9 ∧ j < 60)) → v' c j = v c j) (hr : ∀ j, (j = 4 ∨ j = 7 ∨ (131 ≤ j ∧ j < 191)) → r' j = r j) (h : rQn n v r) : rQn n v' r' := by
  obtain ⟨q1, q2, q3, q4, q5, q6⟩ := h
  refine ⟨q1, ?_, ?_, fun i hi => ?_, fun i hi => ?_, fun i j hi hj he => ?_⟩
  · rw [hv 8 1 (by omega)]; exact q2
  · rw [hr 7 (by omega)]; exact q3
  · rw [hv 9 i (by omega), hr _ (by omega)]; exact q4 i hi
  · rw [hr _ (by omega), hr 4 (by omega)]; exact q5 i hi
  · rw [hr _ (by omega), hr _ (by omega)] at he; exact q6 i j hi hj he
theorem rEn_ext {n : Nat} {v v' : tmM} {r r' : Nat → Int32} (hv : ∀ c j, ((c = 10 ∧ j = 2) ∨ ((c = 11 ∨ c = 12) ∧ j < 30)) → v' c j = v c j) (hr : ∀ j, (j = 10 ∨ (371 ≤ j ∧ j < 431)) → r' j = r j) (h : rEn n v r) : rEn n v' r' := by
  obtain ⟨e1, e2, e3, e4⟩ := h
  refine ⟨e1, ?_, ?_, fun i hi => ?_⟩
  · rw [hv 10 2 (by omega)]; exact e2
  · rw [hr 10 (by omega)]; exact e3
  · rw [hv 11 i (by omega), hv 12 i (by omega), hr _ (by omega), hr _ (by omega)]; exact e4 i hi
theorem rWn_ext {B a : Nat} {v v' : tmM} {r r' : Nat → Int32} (hv : ∀ c j, ((c = 13 ∧ j = 1) ∨ ((c = 15 ∨ c = 16 ∨ c = 17) ∧ j < 20)) → v' c j = v c j) (hr : ∀ j, (j = 8 ∨ j = 9 ∨ (311 ≤ j ∧ j < 371)) → r' j = r j) (h : rWn B a v r) : rWn B a v' r' := by
  obtain ⟨w1, w2, w3, w4, w5⟩ := h
  refine ⟨w1, ?_, ?_, ?_, fun i hi => ?_⟩
  · rw [hv 13 1 (by omega)]; exact w2
  · rw [hr 8 (by omega)]; exact w3
  · rw [hr 9 (by omega)]; exact w4
  · rw [hv 15 i (by omega), hv 16 i (by omega), hv 17 i (by omega), hr _ (by omega), hr _ (by omega), hr _ (by omega)]; exact w5 i hi
theorem rW_ext {B : Nat} {v v' : tmM} {r r' : Nat → Int32} (hv : ∀ c j, ((c = 13 ∧ j = 1) ∨ ((c = 15 ∨ c = 16 ∨ c = 17) ∧ j < 20)) → v' c j = v c j) (hr : ∀ j, (j = 0 ∨ j = 8 ∨ j = 9 ∨ (311 ≤ j ∧ j < 371)) → r' j = r j) (h : r 0 = 2 → ∃ a, rWn B a v r) : r' 0 = 2 → ∃ a, rWn B a v' r' := by
  intro h2
  rw [hr 0 (by omega)] at h2
  obtain ⟨a, ha⟩ := h h2
  exact ⟨a, rWn_ext hv (fun j hj => hr j (by omega)) ha⟩
theorem rI_ext {r r' : Nat → Int32} (hr : ∀ j, (j ≤ 7 ∨ (11 ≤ j ∧ j < 71)) → r' j = r j) (h : rI r) : rI r' := by
  obtain ⟨i1, i2, i3, i4, i5, i6, i7, i8⟩ := h
  have r0 := hr 0 (by omega)
  have r1 := hr 1 (by omega)
  have r2 := hr 2 (by omega)
  have r3 := hr 3 (by omega)
  have r4 := hr 4 (by omega)
  have r5 := hr 5 (by omega)
  have r6 := hr 6 (by omega)
  have r7 := hr 7 (by omega)
  refine ⟨?_, ?_, ?_, ?_, ?_, ?_, fun k hk => ?_, ?_⟩
  · rw [r0]; exact i1
  · rw [r6]; exact i2
  · rw [r3]; exact i3
  · rw [r4]; exact i4
  · rw [r5]; exact i5
  · rw [r1, r2]; exact i6
  · rw [hr _ (by omega)]; exact i7 k hk
  · rw [r0, r7, r3, r4]; exact i8
/-- the class's other cells, and the reference's other rows, stay -/
def mFr (v w v' w' : tmM) : Prop := (∀ c, 19 ≤ c → v' c = v c) ∧ ∀ c, c ≠ 1 → w' c = w c
theorem mFr.refl (v w : tmM) : mFr v w v w := ⟨fun _ _ => rfl, fun _ _ => rfl⟩
theorem mFr.trans {v w v1 w1 v2 w2 : tmM} (h : mFr v w v1 w1) (k : mFr v1 w1 v2 w2) : mFr v w v2 w2 := ⟨fun c hc => (k.1 c hc).trans (h.1 c hc), fun c hc => (k.2 c hc).trans (h.2 c hc)⟩
theorem mFr.up {v w v' w' : tmM} (h : mFr v w v' w') {k j : Nat} {x : Int32} (hk : k < 19) {i : Nat} {y : Int32} : mFr v w (tm_up v' k j x) (tm_up w' 1 i y) := ⟨fun c hc => (tu_ne v' j x (by omega)).trans (h.1 c hc), fun c hc => (tu_ne w' i y hc).trans (h.2 c hc)⟩
theorem mFr.upL {v w v' w' : tmM} (h : mFr v w v' w') {k j : Nat} {x : Int32} (hk : k < 19) : mFr v w (tm_up v' k j x) w' := ⟨fun c hc => (tu_ne v' j x (by omega)).trans (h.1 c hc), h.2⟩
theorem mFr.setL {v w v' w' : tmM} (h : mFr v w v' w') {k : Nat} {f : Nat → Int32} (hk : k < 19) : mFr v w (tm_set v' k f) w' := ⟨fun c hc => (mt_ne (by omega)).trans (h.1 c hc), h.2⟩
theorem mFr.upR {v w v' w' : tmM} (h : mFr v w v' w') {i : Nat} {y : Int32} : mFr v w v' (tm_up w' 1 i y) := ⟨h.1, fun c hc => (tu_ne w' i y hc).trans (h.2 c hc)⟩
/-! laying a value into a table -/
def mSt (v : tmM) (s : Nat) (x : Int32) : Int32 := if x = -1 then x else if s = 0 then x else mCell (v 1 0) (v 1 1) x
theorem mm_store7 {s k : Nat} (hs : s < 2) (hk : k < 60) (x : Int32) (v : tmM) : f_X5_store (nI s) (nI k) x v = some ((), tm_up v (3 + s) k (mSt v s x)) := by
  unfold f_X5_store f_X5_store_16 mSt
  rw [ms_gi hs (by decide), tS_lt, mz_34 hs]
  simp only [ms_gi hk (show 60 < 2147483648 by decide), tS_lt, nI_clamp (show k < 2 ^ 31 by omega), mv_cell7, tS_cl]
  by_cases h : x = -1
  · rw [if_pos h, if_pos h]
  · rw [if_neg h, if_neg h]
    rcases (show s = 0 ∨ s = 1 by omega) with rfl | rfl
    · rw [if_pos (show nI 0 = 0 from rfl), if_pos rfl]
    · rw [if_neg (show ¬ nI 1 = 0 by decide), if_neg (show ¬ (1 : Nat) = 0 by decide)]
theorem mv_cell8 {B : Nat} {v w : tmM} (h : rP B v (w 1)) (x : Int32) : f_X8_cellOf x w = some (mCell (v 1 0) (v 1 1) x, w) := by
  have hf := (mr_form h).2
  obtain ⟨⟨s1, s2, s3, s4, s5, s6, s7⟩, _⟩ := h
  unfold f_X8_cellOf mCell
  rw [ms_g (by decide), tS_lt, ms_g (by decide), tS_lt, show (2 : Int32).toNatClampNeg = 2 from rfl, show (1 : Int32).toNatClampNeg = 1 from rfl, s6, s7]
  rcases hf with ⟨q, _⟩ | ⟨q, _⟩ | ⟨q, _⟩ | ⟨q, _⟩ <;> rw [q] <;> rfl
theorem mm_lay8 {B : Nat} {v w : tmM} (h : rP B v (w 1)) {s k : Nat} (hs : s < 2) (hk : k < 60) (x : Int32) : f_X8_lays (nI s) (nI k) x w = some ((), tm_up w 1 ((if s = 0 then 11 else 71) + k) (mSt v s x)) := by
  unfold f_X8_lays mSt
  rw [mz_11, mz_71, nI_clamp (show 11 + k < 2 ^ 31 by omega), nI_clamp (show 71 + k < 2 ^ 31 by omega)]
  simp only [ms_gi (show 11 + k < 491 by omega) (show 491 < 2147483648 by decide), ms_gi (show 71 + k < 491 by omega) (show 491 < 2147483648 by decide), tS_lt, mv_cell8 h, tS_cl]
  rcases (show s = 0 ∨ s = 1 by omega) with rfl | rfl
  · rw [if_pos (show nI 0 = 0 from rfl), if_pos rfl]
    by_cases hx : x = -1
    · rw [if_pos hx]
    · rw [if_neg hx, if_pos rfl]
  · rw [if_neg (show ¬ nI 1 = 0 by decide)]
    by_cases hx : x = -1
    · rw [if_pos hx, if_pos hx, hx]; rfl
    · rw [if_neg hx, if_neg hx]; rfl
/-- the tables stay related when both lay the same -/
theorem mm_lay {B : Nat} {v w : tmM} (h : rP B v (w 1)) {s k : Nat} (hs : s < 2) (hk : k < 60) {x : Int32} (hx : s = 0 → mCl x) : rP B (tm_up v (3 + s) k (mSt v s x)) (tm_up w 1 ((if s = 0 then 11 else 71) + k) (mSt v s x) 1) := by
  generalize hy : mSt v s x = y
  have hy0 : s = 0 → mCl y := by
    intro h0
    rw [← hy]
    unfold mSt
    by_cases q : x = -1
    · rw [if_pos q]; exact hx h0
    · rw [if_neg q, if_pos h0]; exact hx h0
  generalize ho : (if s = 0 then 11 else 71) = o
  have ho2 : (s = 0 ∧ o = 11) ∨ (s = 1 ∧ o = 71) := by
    rcases (show s = 0 ∨ s = 1 by omega) with rfl | rfl
    · exact Or.inl ⟨rfl, ho.symm⟩
    · exact Or.inr ⟨rfl, ho.symm⟩
  obtain ⟨hS, ⟨t1, t2, t3⟩, hA, ⟨n, hQ⟩, ⟨e, hE⟩, hW, ⟨i1, i2, i3, i4, i5, i6, i7, i8⟩⟩ := h
  have hr : ∀ j, j ≠ o + k → tm_up w 1 (o + k) y 1 j = w 1 j := fun j hj => mu_ne (Or.inr hj)
  refine ⟨rS_ext (fun c j hc => mu_ne (by omega)) (fun j hj => hr j (by omega)) hS, ⟨fun i hi => ?_, fun i hi => ?_, fun i hi => ?_⟩, rA_ext (fun c j hc hj => mu_ne (by omega)) (fun j hj => hr j (by omega)) hA, ⟨n, rQn_ext (fun c j hc => mu_ne (by omega)) (fun j hj => hr j (by omega)) hQ⟩, ⟨e, rEn_ext (fun c j hc => mu_ne (by omega)) (fun j hj => hr j (by omega)) hE⟩, rW_ext (fun c j hc => mu_ne (by omega)) (fun j hj => hr j (by omega)) hW, ?_⟩
  · rw [mu_if, mu_if]
    by_cases q : 3 = 3 + s ∧ i = k
    · rw [if_pos q, if_pos (by omega)]
    · rw [if_neg q, if_neg (by omega)]; exact t1 i hi
  · rw [mu_if, mu_if]
    by_cases q : 4 = 3 + s ∧ i = k
    · rw [if_pos q, if_pos (by omega)]
    · rw [if_neg q, if_neg (by omega)]; exact t2 i hi
  · rw [mu_ne (by omega), hr _ (by omega)]; exact t3 i hi
  · have r0 := hr 0 (by omega)
    have r1 := hr 1 (by omega)
    have r2 := hr 2 (by omega)
    have r3 := hr 3 (by omega)
    have r4 := hr 4 (by omega)
    have r5 := hr 5 (by omega)
    have r6 := hr 6 (by omega)
    have r7 := hr 7 (by omega)
    refine ⟨?_, ?_, ?_, ?_, ?_, ?_, fun i hi => ?_, ?_⟩
    · rw [r0]; exact i1
    · rw [r6]; exact i2
    · rw [r3]; exact i3
    · rw [r4]; exact i4
    · rw [r5]; exact i5
    · rw [r1, r2]; exact i6
    · rw [mu_if]
      by_cases q : 1 = 1 ∧ 11 + i = o + k
      · rw [if_pos q]; exact hy0 (by omega)
      · rw [if_neg q]; exact i7 i hi
    · rw [r0, r7, r3, r4]; exact i8
