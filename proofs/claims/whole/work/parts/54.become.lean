/-! ===== a state becomes another ===== -/
theorem mc_6step (k1 k2 : Nat) (K0 : tmM → Option (Unit × tmM)) (F : Nat) {i : Nat} (hi : i < 3) (v : tmM) : f_X6_become_10 k1 k2 K0 (F + 1) (nI i) v = f_X6_become_10 k1 k2 K0 F (nI (i + 1)) (tm_set v (k1 + 15 + i) (va_cpy (v (k2 + 15 + i)) (v (k1 + 15 + i)) 0 0 20)) := by
  show f_X6_become_10b _ _ _ _ (nI i) v = _
  unfold f_X6_become_10b
  have e : ∀ k, ([(k + 15), (k + 16), (k + 17)] : List Nat).getD (nI i).toNatClampNeg 0 = k + 15 + i := fun k => by
    rcases (show i = 0 ∨ i = 1 ∨ i = 2 by omega) with rfl | rfl | rfl <;> rfl
  rw [if_neg (show ¬ (3 : Int32) ≤ nI i from nI_ge (b := 3) hi (by decide)), ms_gi hi (by decide), tS_lt, e, ms_gi hi (by decide), tS_lt, e, ms_g (by decide), tS_lt, nI_1]
  rfl
theorem mc_20 {f g : Nat → Int32} {j : Nat} (hj : j < 20) : va_cpy f g 0 0 20 j = f j := by
  unfold va_cpy
  rw [if_pos (by omega), Nat.zero_add, Nat.sub_zero]
theorem mc_30 {f g : Nat → Int32} {j : Nat} (hj : j < 30) : va_cpy f g 0 0 30 j = f j := by
  unfold va_cpy
  rw [if_pos (by omega), Nat.zero_add, Nat.sub_zero]
/-- the block at k1 takes over the block at k2 -/
theorem mc_become {k1 k2 : Nat} (hd : k1 + 19 ≤ k2 ∨ k2 + 19 ≤ k1) (v : tmM) : ∃ v', f_X4_become k1 k2 v = some ((), v') ∧ (∀ c j, mU c j → v' (k1 + c) j = v (k2 + c) j) ∧ ∀ c, (c < k1 ∨ k1 + 19 ≤ c) → v' c = v c := by
  unfold f_X4_become f_X5_become f_X2_become f_X1_become f_X6_become
  simp only [tS_lt]
  -- the scalars
  generalize hv5 : tm_up (tm_up (tm_up (tm_up (tm_up v k1 0 (v k2 0)) k1 1 (tm_up v k1 0 (v k2 0) k2 1)) k1 2 (tm_up (tm_up v k1 0 (v k2 0)) k1 1 (tm_up v k1 0 (v k2 0) k2 1) k2 2)) k1 3 (tm_up (tm_up (tm_up v k1 0 (v k2 0)) k1 1 (tm_up v k1 0 (v k2 0) k2 1)) k1 2 (tm_up (tm_up v k1 0 (v k2 0)) k1 1 (tm_up v k1 0 (v k2 0) k2 1) k2 2) k2 3)) k1 4 (tm_up (tm_up (tm_up (tm_up v k1 0 (v k2 0)) k1 1 (tm_up v k1 0 (v k2 0) k2 1)) k1 2 (tm_up (tm_up v k1 0 (v k2 0)) k1 1 (tm_up v k1 0 (v k2 0) k2 1) k2 2)) k1 3 (tm_up (tm_up (tm_up v k1 0 (v k2 0)) k1 1 (tm_up v k1 0 (v k2 0) k2 1)) k1 2 (tm_up (tm_up v k1 0 (v k2 0)) k1 1 (tm_up v k1 0 (v k2 0) k2 1) k2 2) k2 3) k2 4) = v5
  have a5 : (∀ j, j < 5 → v5 k1 j = v k2 j) ∧ ∀ c, c ≠ k1 → v5 c = v c := by
    rw [← hv5]
    refine ⟨fun j hj => ?_, fun c hc => ?_⟩
    · rcases (show j = 0 ∨ j = 1 ∨ j = 2 ∨ j = 3 ∨ j = 4 by omega) with rfl | rfl | rfl | rfl | rfl
      · rw [mu_ne (by omega), mu_ne (by omega), mu_ne (by omega), mu_ne (by omega), mu_eq]
      · rw [mu_ne (by omega), mu_ne (by omega), mu_ne (by omega), mu_eq, mu_ne (by omega)]
      · rw [mu_ne (by omega), mu_ne (by omega), mu_eq, mu_ne (by omega), mu_ne (by omega)]
      · rw [mu_ne (by omega), mu_eq, mu_ne (by omega), mu_ne (by omega), mu_ne (by omega)]
      · rw [mu_eq, mu_ne (by omega), mu_ne (by omega), mu_ne (by omega), mu_ne (by omega)]
    · rw [tu_ne _ _ _ hc, tu_ne _ _ _ hc, tu_ne _ _ _ hc, tu_ne _ _ _ hc, tu_ne _ _ _ hc]
  -- the form
  generalize hv7 : tm_up (tm_up v5 (k1 + 1) 0 (v5 (k2 + 1) 0)) (k1 + 1) 1 (tm_up v5 (k1 + 1) 0 (v5 (k2 + 1) 0) (k2 + 1) 1) = v7
  have a7 : (∀ j, j < 2 → v7 (k1 + 1) j = v (k2 + 1) j) ∧ ∀ c, c ≠ k1 + 1 → v7 c = v5 c := by
    rw [← hv7]
    refine ⟨fun j hj => ?_, fun c hc => ?_⟩
    · rcases (show j = 0 ∨ j = 1 by omega) with rfl | rfl
      · rw [mu_ne (by omega), mu_eq, a5.2 _ (by omega)]
      · rw [mu_eq, mu_ne (by omega), a5.2 _ (by omega)]
    · rw [tu_ne _ _ _ hc, tu_ne _ _ _ hc]
  obtain ⟨v8, b1, b2, b3⟩ := mc_cells (k1 := k2 + 2) (k2 := k1 + 2) (by omega) v7
  obtain ⟨v9, c1, c2, c3⟩ := mc_cells (k1 := k2 + 5) (k2 := k1 + 5) (by omega) v8
  rw [b1, tS_cl, c1, tS_cl, tS_cl]
  generalize hv10 : tm_up v9 (k1 + 8) 1 (v9 (k2 + 8) 1) = v10
  rw [ms_g (show tm_cok 0 0 60 60 60 = true by decide), tS_cl]
  simp only [show (0 : Int32).toNatClampNeg = 0 from rfl, show (60 : Int32).toNatClampNeg = 60 from rfl, show (30 : Int32).toNatClampNeg = 30 from rfl]
  generalize hv11 : tm_set v10 (k1 + 9) (va_cpy (v10 (k2 + 9)) (v10 (k1 + 9)) 0 0 60) = v11
  rw [ms_g (show tm_cok 0 0 30 30 30 = true by decide), ms_g (show tm_cok 0 0 30 30 30 = true by decide), tS_cl]
  generalize hv12 : tm_up v11 (k1 + 10) 2 (v11 (k2 + 10) 2) = v12
  generalize hv13 : tm_set v12 (k1 + 11) (va_cpy (v12 (k2 + 11)) (v12 (k1 + 11)) 0 0 30) = v13
  generalize hv14 : tm_set v13 (k1 + 12) (va_cpy (v13 (k2 + 12)) (v13 (k1 + 12)) 0 0 30) = v14
  generalize hv15 : tm_up v14 (k1 + 13) 1 (v14 (k2 + 13) 1) = v15
  rw [show (0 : Int32) = nI 0 from rfl, mc_6step k1 k2 _ 9999 (i := 0) (by decide), mc_6step k1 k2 _ 9998 (i := 1) (by decide), mc_6step k1 k2 _ 9997 (i := 2) (by decide)]
  generalize hv16 : tm_set v15 (k1 + 15 + 0) (va_cpy (v15 (k2 + 15 + 0)) (v15 (k1 + 15 + 0)) 0 0 20) = v16
  generalize hv17 : tm_set v16 (k1 + 15 + (0 + 1)) (va_cpy (v16 (k2 + 15 + (0 + 1))) (v16 (k1 + 15 + (0 + 1))) 0 0 20) = v17
  generalize hv18 : tm_set v17 (k1 + 15 + (0 + 1 + 1)) (va_cpy (v17 (k2 + 15 + (0 + 1 + 1))) (v17 (k1 + 15 + (0 + 1 + 1))) 0 0 20) = v18
  have n10 : ∀ c, c ≠ k1 + 8 → v10 c = v9 c := fun c hc => by rw [← hv10, tu_ne _ _ _ hc]
  have n11 : ∀ c, c ≠ k1 + 9 → v11 c = v10 c := fun c hc => by rw [← hv11, mt_ne hc]
  have n12 : ∀ c, c ≠ k1 + 10 → v12 c = v11 c := fun c hc => by rw [← hv12, tu_ne _ _ _ hc]
  have n13 : ∀ c, c ≠ k1 + 11 → v13 c = v12 c := fun c hc => by rw [← hv13, mt_ne hc]
  have n14 : ∀ c, c ≠ k1 + 12 → v14 c = v13 c := fun c hc => by rw [← hv14, mt_ne hc]
  have n15 : ∀ c, c ≠ k1 + 13 → v15 c = v14 c := fun c hc => by rw [← hv15, tu_ne _ _ _ hc]
  have n16 : ∀ c, c ≠ k1 + 15 → v16 c = v15 c := fun c hc => by rw [← hv16, mt_ne hc]
  have n17 : ∀ c, c ≠ k1 + 16 → v17 c = v16 c := fun c hc => by rw [← hv17, mt_ne hc]
  have n18 : ∀ c, c ≠ k1 + 17 → v18 c = v17 c := fun c hc => by rw [← hv18, mt_ne hc]
  have s8 : ∀ c, c < k1 ∨ k1 + 8 ≤ c → v9 c = v c := fun c hc => by rw [c3 c (by omega) (by omega), b3 c (by omega) (by omega), a7.2 c (by omega), a5.2 c (by omega)]
  have s9 : ∀ c, c < k1 ∨ k1 + 9 ≤ c → v10 c = v c := fun c hc => by rw [n10 c (by omega), s8 c (by omega)]
  have s10 : ∀ c, c < k1 ∨ k1 + 10 ≤ c → v11 c = v c := fun c hc => by rw [n11 c (by omega), s9 c (by omega)]
  have s11 : ∀ c, c < k1 ∨ k1 + 11 ≤ c → v12 c = v c := fun c hc => by rw [n12 c (by omega), s10 c (by omega)]
  have s12 : ∀ c, c < k1 ∨ k1 + 12 ≤ c → v13 c = v c := fun c hc => by rw [n13 c (by omega), s11 c (by omega)]
  have s13 : ∀ c, c < k1 ∨ k1 + 13 ≤ c → v14 c = v c := fun c hc => by rw [n14 c (by omega), s12 c (by omega)]
  have s15 : ∀ c, c < k1 ∨ k1 + 14 ≤ c → v15 c = v c := fun c hc => by rw [n15 c (by omega), s13 c (by omega)]
  have s16 : ∀ c, c < k1 ∨ k1 + 16 ≤ c → v16 c = v c := fun c hc => by rw [n16 c (by omega), s15 c (by omega)]
  have s17 : ∀ c, c < k1 ∨ k1 + 17 ≤ c → v17 c = v c := fun c hc => by rw [n17 c (by omega), s16 c (by omega)]
  have s18 : ∀ c, c < k1 ∨ k1 + 18 ≤ c → v18 c = v c := fun c hc => by rw [n18 c (by omega), s17 c (by omega)]
  -- down to the end
  have t15 : ∀ c, c < k1 + 15 → v18 c = v15 c := fun c hc => by rw [n18 c (by omega), n17 c (by omega), n16 c (by omega)]
  have t10 : ∀ c, c < k1 + 10 → v18 c = v11 c := fun c hc => by rw [t15 c (by omega), n15 c (by omega), n14 c (by omega), n13 c (by omega), n12 c (by omega)]
  have t8 : ∀ c, c < k1 + 8 → v18 c = v9 c := fun c hc => by rw [t10 c (by omega), n11 c (by omega), n10 c (by omega)]
  refine ⟨tm_set v18 (k1 + 18) (va_cpy (v18 (k2 + 18)) (v18 (k1 + 18)) 0 0 60), rfl, fun c j hc => ?_, fun c hc => ?_⟩
  · by_cases h18 : c = 18
    · subst h18
      have hj : j < 60 := by unfold mU at hc; omega
      rw [mt_eq, mc_60 hj, s18 _ (by omega)]
    · rw [mt_ne (by omega)]
      unfold mU at hc
      rcases hc with ⟨q, hj⟩ | ⟨q, hj⟩ | ⟨q, hj⟩ | ⟨q, hj⟩ | ⟨q, hj⟩ | ⟨q, hj⟩ | ⟨q, hj⟩ | ⟨q, hj⟩
      · subst q
        rw [t8 _ (by omega), c3 _ (by omega) (by omega), b3 _ (by omega) (by omega), a7.2 _ (by omega)]
        exact a5.1 j hj
      · subst q
        rw [t8 _ (by omega), c3 _ (by omega) (by omega), b3 _ (by omega) (by omega)]
        exact a7.1 j hj
      · rcases q with q | q | q | q | q | q
        · subst q
          rw [t8 _ (by omega), c3 _ (by omega) (by omega)]
          refine (b2 j hj).1.trans ?_
          rw [a7.2 _ (by omega), a5.2 _ (by omega)]
        · subst q
          rw [t8 _ (by omega), c3 _ (by omega) (by omega)]
          refine (b2 j hj).2.trans ?_
          rw [a7.2 _ (by omega), a5.2 _ (by omega)]
        · subst q
          rw [t8 _ (by omega)]
          refine (c2 j hj).1.trans ?_
          rw [b3 _ (by omega) (by omega), a7.2 _ (by omega), a5.2 _ (by omega)]
        · subst q
          rw [t8 _ (by omega)]
          refine (c2 j hj).2.trans ?_
          rw [b3 _ (by omega) (by omega), a7.2 _ (by omega), a5.2 _ (by omega)]
        · subst q
          rw [t10 _ (by omega), ← hv11, mt_eq, mc_60 hj, s9 _ (by omega)]
        · exact absurd q h18
      · subst q; subst hj
        rw [t10 _ (by omega), n11 _ (by omega), ← hv10, mu_eq, s8 _ (by omega)]
      · subst q; subst hj
        rw [t15 _ (by omega), n15 _ (by omega), n14 _ (by omega), n13 _ (by omega), ← hv12, mu_eq, s10 _ (by omega)]
      · rcases q with q | q
        · subst q
          rw [t15 _ (by omega), n15 _ (by omega), n14 _ (by omega), ← hv13, mt_eq, mc_30 hj, s11 _ (by omega)]
        · subst q
          rw [t15 _ (by omega), n15 _ (by omega), ← hv14, mt_eq, mc_30 hj, s12 _ (by omega)]
      · subst q; subst hj
        rw [t15 _ (by omega), ← hv15, mu_eq, s13 _ (by omega)]
      · rcases q with q | q | q
        · subst q
          rw [n18 _ (by omega), n17 _ (by omega), ← hv16, mt_eq, mc_20 hj, s15 _ (by omega)]
        · subst q
          rw [n18 _ (by omega), ← hv17, mt_eq, mc_20 hj, s16 _ (by omega)]
        · subst q
          rw [← hv18, mt_eq, mc_20 hj, s17 _ (by omega)]
  · rw [mt_ne (by omega), s18 c (by omega)]
