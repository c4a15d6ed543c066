/-! ===== the next token on both sides; failing; numbers; words ===== -/
section
variable {t : Nat} {v w : tmM}
theorem pk_fin (h : pT t v w) {s e k : Nat} (hs : s ≤ e) (he : e ≤ t) (hk : k ≤ 4) {v' w' : tmM} (a1 : ∀ c, c ≠ 251 → v' c = v c) (a2 : ∀ j, j ≠ 8 → j ≠ 9 → j ≠ 10 → v' 251 j = v 251 j) (a3 : ∀ c, c ≠ 0 → w' c = w c) (a4 : ∀ j, (j < 17 ∨ 20 < j) → w' 0 j = w 0 j) (b1 : v' 251 9 = nI s) (b2 : w' 0 18 = nI s) (b3 : v' 251 10 = nI e) (b4 : w' 0 17 = nI e) (b5 : v' 251 8 = nI k) (b6 : w' 0 19 = nI k) (b7 : k = 2 → w' 0 20 = mFold (g8 v) (e - s) s 0 ∧ ∀ j, s ≤ j → j < e → mKd (v 252 j) = 2) : pK t s e v' w' ∧ pN v w v' w' := by
  have e252 : v' 252 = v 252 := a1 252 (by decide)
  refine ⟨⟨b1, b2, b3, b4, hs, he, b5.trans b6.symm, ⟨k, hk, b6⟩, fun q => ?_⟩, a1, a2, a3, a4⟩
  have hk2 : k = 2 := (nI_eq (a := k) (b := 2) (by omega) (by decide)).mp (b6.symm.trans q)
  obtain ⟨c1, c2⟩ := b7 hk2
  refine ⟨?_, fun i hi hi2 => ?_⟩
  · rw [c1]
    apply mFold_congr
    intro j _ _ x
    unfold g8
    rw [e252]
  · obtain ⟨c, hc, hce⟩ := mSe_chr h (i := i) (by omega)
    have h2 := c2 i hi hi2
    have d : 48 ≤ v 252 i ∧ v 252 i ≤ 57 := by
      unfold mKd at h2
      by_cases q1 : 97 ≤ v 252 i ∧ v 252 i ≤ 122
      · rw [if_pos q1] at h2; exact absurd h2 (by decide)
      · rw [if_neg q1] at h2
        by_cases q2 : 48 ≤ v 252 i ∧ v 252 i ≤ 57
        · exact q2
        · rw [if_neg q2] at h2
          split at h2 <;> exact absurd h2 (by decide)
    rw [hce] at d
    refine ⟨c, ?_, ?_, by rw [e252]; exact hce⟩
    · exact (nI_leI (a := 48) (b := c) (by decide) (by omega)).mp d.1
    · exact (nI_leI (a := c) (b := 57) (by omega) (by decide)).mp d.2
theorem pk_tok (h : pT t v w) {e : Nat} (h7 : v 251 10 = nI e) (h8 : w 0 17 = nI e) (he : e ≤ t) : ∃ s' e' v' w', f_X3_nextToken v = some ((), v') ∧ f_X8_goesOn w = some ((), w') ∧ pK t s' e' v' w' ∧ pN v w v' w' := by
  have ht := h.1
  obtain ⟨s, s1, s2, s3, s4⟩ := pk_skip h (t - e) e 10000 (by omega) (by omega)
  generalize hk : (if t ≤ s then 0 else mKd (v 252 s)) = k
  have hk4 : k ≤ 4 := by
    rw [← hk]
    split
    · decide
    · exact (mKd_le _).2
  have hks : ¬ k = 0 → s < t ∧ mKd (v 252 s) = k := fun q => by
    rw [← hk] at q ⊢
    by_cases z : t ≤ s
    · rw [if_pos z] at q; exact absurd rfl q
    · rw [if_neg z]; exact ⟨by omega, rfl⟩
  generalize hv1 : tm_up v 251 9 (nI s) = v1 at s3
  generalize hw1 : tm_up w 0 17 (nI s) = w1 at s4
  generalize hv4 : tm_up v1 251 10 (nI s) = v4
  generalize hw7 : tm_up w1 0 18 (nI s) = w7
  have v1t : v1 251 1 = nI t := by rw [← hv1, mu_ne (by omega)]; exact h.2.1
  have v4t : v4 251 1 = nI t := by rw [← hv4, mu_ne (by omega)]; exact v1t
  have v42 : v4 252 = v 252 := by rw [← hv4, tu_ne _ _ _ (by decide), ← hv1, tu_ne _ _ _ (by decide)]
  have v49 : v4 251 9 = nI s := by rw [← hv4, mu_ne (by omega), ← hv1, mu_eq]
  have w7t : w7 0 16 = nI t := by rw [← hw7, mu_ne (by omega), ← hw1, mu_ne (by omega)]; exact h.2.2.1
  have w7s : w7 0 17 = nI s := by rw [← hw7, mu_ne (by omega), ← hw1, mu_eq]
  have w78 : w7 8 = w 8 := by rw [← hw7, tu_ne _ _ _ (by decide), ← hw1, tu_ne _ _ _ (by decide)]
  have c7 : f_X3_nextToken v = f_X3_nextToken_96 (nI k) v4 := by
    unfold f_X3_nextToken
    rw [tS_lt, h7, s3]
    unfold f_X3_nextToken_60
    rw [tS_lt, show v1 251 9 = nI s by rw [← hv1, mu_eq], hv4, v4t, v49]
    by_cases z : t ≤ s
    · rw [if_pos (nI_le z (by omega)), ← hk, if_pos z]; rfl
    · rw [if_neg (nI_ge (by omega) (by omega)), ms_gi (show s < 600 by omega) (by decide), nI_clamp (by omega), v42, ms_cl (pk_kind _ _), ← hk, if_neg z]
  have c8 : f_X8_goesOn w = f_X8_goesOn_88 (nI k) w7 := by
    unfold f_X8_goesOn
    have e0 : w = tm_up w 0 17 (nI e) := by rw [← h8, mu_self]
    rw [e0, s4, tS_lt, show w1 0 17 = nI s by rw [← hw1, mu_eq], hw7, ms_cl (pk_see h s2 w7t w7s w78)]
    by_cases z : t ≤ s
    · rw [if_pos (show mSe t v s = -1 from if_pos z), ← hk, if_pos z]; rfl
    · obtain ⟨c, hc, hce⟩ := mSe_chr h (i := s) (by omega)
      have es : mSe t v s = v 252 s := if_neg z
      have e1 : ¬ mSe t v s = -1 := by rw [es, hce]; exact mz_neg (by omega)
      rw [if_neg e1, ms_cl (pk_small h s2 w7t w7s w78), ← hk, if_neg z]
      by_cases q1 : mKd (v 252 s) = 1
      · rw [if_pos (show s < t ∧ mKd (v 252 s) = 1 from ⟨by omega, q1⟩), if_neg mr_10, q1]; rfl
      · rw [if_neg (show ¬ (s < t ∧ mKd (v 252 s) = 1) from fun q => q1 q.2), if_pos rfl, ms_cl (pk_digit h s2 w7t w7s w78)]
        by_cases q2 : mKd (v 252 s) = 2
        · rw [if_pos (show s < t ∧ mKd (v 252 s) = 2 from ⟨by omega, q2⟩), if_neg mr_10, q2]; rfl
        · rw [if_neg (show ¬ (s < t ∧ mKd (v 252 s) = 2) from fun q => q2 q.2), if_pos rfl, ms_cl (pk_see h s2 w7t w7s w78), es]
          unfold mKd at q1 q2 ⊢
          by_cases y1 : 97 ≤ v 252 s ∧ v 252 s ≤ 122
          · rw [if_pos y1] at q1; exact absurd rfl q1
          · rw [if_neg y1] at q2 ⊢
            by_cases y2 : 48 ≤ v 252 s ∧ v 252 s ≤ 57
            · rw [if_pos y2] at q2; exact absurd rfl q2
            · rw [if_neg y2]
              by_cases y3 : v 252 s = 59
              · rw [if_pos y3, if_pos y3]; rfl
              · rw [if_neg y3, if_neg y3]; rfl
  rw [c7, c8]
  unfold f_X3_nextToken_96 f_X8_goesOn_88 f_X8_goesOn_114
  simp only [tS_lt, mu_eq]
  generalize hv5 : tm_up v4 251 8 (nI k) = v5
  generalize hu : tm_up w7 0 19 (nI k) = u
  have u19 : u 0 19 = nI k := by rw [← hu, mu_eq]
  have u17 : u 0 17 = nI s := by rw [← hu, mu_ne (by omega)]; exact w7s
  have u16 : u 0 16 = nI t := by rw [← hu, mu_ne (by omega)]; exact w7t
  have u8 : u 8 = w 8 := by rw [← hu, tu_ne _ _ _ (by decide)]; exact w78
  have v58 : v5 251 8 = nI k := by rw [← hv5, mu_eq]
  have v5t : v5 251 1 = nI t := by rw [← hv5, mu_ne (by omega)]; exact v4t
  have v52 : v5 252 = v 252 := by rw [← hv5, tu_ne _ _ _ (by decide)]; exact v42
  have v5s : v5 251 10 = nI s := by rw [← hv5, mu_ne (by omega), ← hv4, mu_eq]
  have x19 : tm_up u 0 20 0 0 19 = nI k := by rw [mu_ne (by omega)]; exact u19
  have x17 : tm_up u 0 20 0 0 17 = nI s := by rw [mu_ne (by omega)]; exact u17
  -- what is the same in all cases
  have fin : ∀ (e' : Nat) (a : Int32), s ≤ e' → e' ≤ t → (k = 2 → a = mFold (g8 v) (e' - s) s 0 ∧ ∀ j, s ≤ j → j < e' → mKd (v 252 j) = 2) → pK t s e' (tm_up v5 251 10 (nI e')) (tm_up (tm_up u 0 20 a) 0 17 (nI e')) ∧ pN v w (tm_up v5 251 10 (nI e')) (tm_up (tm_up u 0 20 a) 0 17 (nI e')) := fun e' a p1 p2 p3 => by
    refine pk_fin h p1 p2 hk4 (fun c hc => ?_) (fun j j8 j9 j10 => ?_) (fun c hc => ?_) (fun j hj => ?_) ?_ ?_ (mu_eq _ _ _ _) (mu_eq _ _ _ _) ?_ ?_ (fun q => ⟨?_, (p3 q).2⟩)
    · rw [tu_ne _ _ _ hc, ← hv5, tu_ne _ _ _ hc, ← hv4, tu_ne _ _ _ hc, ← hv1, tu_ne _ _ _ hc]
    · rw [mu_ne (by omega), ← hv5, mu_ne (by omega), ← hv4, mu_ne (by omega), ← hv1, mu_ne (by omega)]
    · rw [tu_ne _ _ _ hc, tu_ne _ _ _ hc, ← hu, tu_ne _ _ _ hc, ← hw7, tu_ne _ _ _ hc, ← hw1, tu_ne _ _ _ hc]
    · rw [mu_ne (by omega), mu_ne (by omega), ← hu, mu_ne (by omega), ← hw7, mu_ne (by omega), ← hw1, mu_ne (by omega)]
    · rw [mu_ne (by omega), ← hv5, mu_ne (by omega)]; exact v49
    · rw [mu_ne (by omega), mu_ne (by omega), ← hu, mu_ne (by omega), ← hw7, mu_eq]
    · rw [mu_ne (by omega)]; exact v58
    · rw [mu_ne (by omega), mu_ne (by omega)]; exact u19
    · rw [mu_ne (by omega), mu_eq]; exact (p3 q).1
  have v5self : tm_up v5 251 10 (nI s) = v5 := by rw [← v5s, mu_self]
  have z0 : nI s + 0 = nI s := nI_add s 0
  have n118 : ∀ (x : tmM) (K : tmM → Option (Unit × tmM)) (F : Nat), ¬ x 0 19 = 1 → f_X8_goesOn_118 K (F + 1) x = K x := fun x K F q => by
    show f_X8_goesOn_118b _ _ _ = _
    unfold f_X8_goesOn_118b
    rw [if_neg q]
  have n146 : ∀ (x : tmM) (K : tmM → Option (Unit × tmM)) (F : Nat), ¬ x 0 19 = 2 → f_X8_goesOn_146 K (F + 1) x = K x := fun x K F q => by
    show f_X8_goesOn_146b _ _ _ = _
    unfold f_X8_goesOn_146b
    rw [if_neg q]
  rw [x19, x17, v5s]
  rcases (show k = 0 ∨ k = 1 ∨ k = 2 ∨ k = 3 ∨ k = 4 by omega) with q | q | q | q | q
  · subst q
    have f0 := fin s 0 (Nat.le_refl _) s2 (fun q => absurd q (by decide))
    rw [v5self] at f0
    rw [if_neg (show ¬ nI 0 = 1 by decide), if_neg (show ¬ nI 0 = 2 by decide), if_pos (show nI 0 = 0 from rfl), if_pos (show nI 0 < 3 by decide), z0]
    refine ⟨s, s, v5, tm_up (tm_up u 0 20 0) 0 17 (nI s), rfl, ?_, f0⟩
    have x : tm_up (tm_up u 0 20 0) 0 17 (nI s) 0 19 = nI 0 := by rw [mu_ne (by omega)]; exact x19
    rw [n118 _ _ 9999 (by rw [x]; decide), n146 _ _ 9999 (by rw [x]; decide)]
  · subst q
    obtain ⟨e', e1, e2, e3, e4, e5⟩ := pk_run7 h v5t v52 (by decide) v58 (fun v9 => some ((), v9)) (t - s) s 10000 (by omega) (by omega)
    have f0 := fin e' 0 e1 e2 (fun q => absurd q (by decide))
    rw [if_pos (show nI 1 = 1 from rfl), if_pos (show nI 1 < 3 by decide), z0]
    rw [v5self] at e5
    have e8 := pk_run8 h (u := tm_up u 0 20 0) ((mu_ne (by omega)).trans u16) ((tu_ne _ _ _ (by decide)).trans u8) x19 (fun v22 => f_X8_goesOn_146 (fun v29 => some ((), v29)) 10000 v22) e2 e4 (e' - s) s 10000 (by omega) (by omega) e3
    refine ⟨s, e', _, tm_up (tm_up u 0 20 0) 0 17 (nI e'), e5, ?_, f0⟩
    have x : tm_up (tm_up u 0 20 0) 0 17 (nI e') 0 19 = nI 1 := by rw [mu_ne (by omega)]; exact x19
    rw [e8]
    exact n146 _ _ 9999 (by rw [x]; decide)
  · subst q
    obtain ⟨e', e1, e2, e3, e4, e5⟩ := pk_run7 h v5t v52 (by decide) v58 (fun v11 => some ((), v11)) (t - s) s 10000 (by omega) (by omega)
    have f0 := fin e' (mFold (g8 v) (e' - s) s 0) e1 e2 (fun _ => ⟨rfl, e3⟩)
    rw [if_neg (show ¬ nI 2 = 1 by decide), if_pos (show nI 2 = 2 from rfl), if_pos (show nI 2 < 3 by decide), z0]
    rw [v5self] at e5
    have e9 := pk_run9 h (u := u) u16 u8 u19 (fun v29 => some ((), v29)) e2 e4 (e' - s) s 10000 0 (by omega) (by omega) e3
    refine ⟨s, e', _, _, e5, ?_, f0⟩
    have x : tm_up (tm_up u 0 20 0) 0 17 (nI s) 0 19 = nI 2 := by rw [mu_ne (by omega)]; exact x19
    rw [n118 _ _ 9999 (by rw [x]; decide)]
    exact e9
  · subst q
    have hst := (hks (by decide)).1
    have f0 := fin (s + 1) 0 (by omega) (by omega) (fun q => absurd q (by decide))
    rw [if_neg (show ¬ nI 3 = 1 by decide), if_neg (show ¬ nI 3 = 2 by decide), if_neg (show ¬ nI 3 = 0 by decide), if_neg (show ¬ nI 3 < 3 by decide), nI_1]
    refine ⟨s, s + 1, _, tm_up (tm_up u 0 20 0) 0 17 (nI (s + 1)), rfl, ?_, f0⟩
    have x : tm_up (tm_up u 0 20 0) 0 17 (nI (s + 1)) 0 19 = nI 3 := by rw [mu_ne (by omega)]; exact x19
    rw [n118 _ _ 9999 (by rw [x]; decide), n146 _ _ 9999 (by rw [x]; decide)]
  · subst q
    have hst := (hks (by decide)).1
    have f0 := fin (s + 1) 0 (by omega) (by omega) (fun q => absurd q (by decide))
    rw [if_neg (show ¬ nI 4 = 1 by decide), if_neg (show ¬ nI 4 = 2 by decide), if_neg (show ¬ nI 4 = 0 by decide), if_neg (show ¬ nI 4 < 3 by decide), nI_1]
    refine ⟨s, s + 1, _, tm_up (tm_up u 0 20 0) 0 17 (nI (s + 1)), rfl, ?_, f0⟩
    have x : tm_up (tm_up u 0 20 0) 0 17 (nI (s + 1)) 0 19 = nI 4 := by rw [mu_ne (by omega)]; exact x19
    rw [n118 _ _ 9999 (by rw [x]; decide), n146 _ _ 9999 (by rw [x]; decide)]
end
