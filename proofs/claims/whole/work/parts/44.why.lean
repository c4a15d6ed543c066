/-! ===== why an act is refused: the same number on both sides ===== -/
/-- both sides answer nI k -/
def mW (o : Option (Int32 × tmM)) (o' : Option (Int32 × tmM)) (v w : tmM) (P : Nat → Prop) : Prop := ∃ k, k < 10 ∧ o = some (nI k, v) ∧ o' = some (nI k, w) ∧ P k
theorem mW_of {o o' : Option (Int32 × tmM)} {v w : tmM} {P : Nat → Prop} (k : Nat) (hk : k < 10) (h1 : o = some (nI k, v)) (h2 : o' = some (nI k, w)) (hp : P k) : mW o o' v w P := ⟨k, hk, h1, h2, hp⟩
theorem mr_g0 {β : Type} (x : Option β) : tm_g (tm_ix 0 491) x = x := ms_g (by decide)
theorem mr_g3 {β : Type} (x : Option β) : tm_g (tm_ix 3 491) x = x := ms_g (by decide)
theorem mr_g4 {β : Type} (x : Option β) : tm_g (tm_ix 4 491) x = x := ms_g (by decide)
theorem mr_g5 {β : Type} (x : Option β) : tm_g (tm_ix 5 491) x = x := ms_g (by decide)
theorem mr_g6 {β : Type} (x : Option β) : tm_g (tm_ix 6 491) x = x := ms_g (by decide)
theorem mr_g7 {β : Type} (x : Option β) : tm_g (tm_ix 7 491) x = x := ms_g (by decide)
theorem mr_n0 : (0 : Int32).toNatClampNeg = 0 := rfl
theorem mr_n3' : (3 : Int32).toNatClampNeg = 3 := rfl
theorem mr_n4 : (4 : Int32).toNatClampNeg = 4 := rfl
theorem mr_n5 : (5 : Int32).toNatClampNeg = 5 := rfl
theorem mr_n6 : (6 : Int32).toNatClampNeg = 6 := rfl
theorem mr_n7 : (7 : Int32).toNatClampNeg = 7 := rfl
theorem mr_10 : ¬ (1 : Int32) = 0 := by decide
section WHY
variable {B : Nat} {v w : tmM}
theorem mw_begin (h : rP B v (w 1)) : mW (f_X4_reasonAgainstBegin v) (f_X8_whyBegin w) v w (fun k => k = 0 → v 0 0 = 0) := by
  have hp := (mr_phase h).1
  have hu := mr_ups8 h
  unfold f_X4_reasonAgainstBegin f_X8_whyBegin
  rw [mr_g0, mr_n0, ← hp, ms_cl hu]
  by_cases h0 : v 0 0 = 0
  · rw [if_pos h0, if_pos h0]
    by_cases h1 : v 0 1 = 3
    · rw [if_pos h1, if_pos h1, if_neg mr_10]; exact mW_of 0 (by decide) rfl rfl (fun _ => h0)
    · rw [if_neg h1, if_neg h1, if_pos rfl]; exact mW_of 1 (by decide) rfl rfl (fun q => absurd q (by decide))
  · rw [if_neg h0, if_neg h0]; exact mW_of 2 (by decide) rfl rfl (fun q => absurd q (by decide))
theorem mw_copy (h : rP B v (w 1)) : mW (f_X4_reasonAgainstCopy v) (f_X8_whyCopy w) v w (fun k => k = 0 → v 0 0 = 1) := by
  have hp := (mr_phase h).1
  have hu := mr_ups8 h
  obtain ⟨⟨s1, s2, s3, s4, s5, s6, s7⟩, _⟩ := h
  unfold f_X4_reasonAgainstCopy f_X8_whyCopy
  rw [mr_g0, mr_n0, ← hp, ms_cl hu, mr_g3, mr_n3', ← s3]
  by_cases h0 : v 0 0 = 1
  · rw [if_pos h0, if_pos h0]
    by_cases h1 : v 0 1 = 3
    · rw [if_pos h1, if_pos h1, if_neg mr_10]
      by_cases h2 : v 0 2 = 32767
      · rw [if_pos h2, if_pos h2]; exact mW_of 9 (by decide) rfl rfl (fun q => absurd q (by decide))
      · rw [if_neg h2, if_neg h2]; exact mW_of 0 (by decide) rfl rfl (fun _ => h0)
    · rw [if_neg h1, if_neg h1, if_pos rfl]; exact mW_of 1 (by decide) rfl rfl (fun q => absurd q (by decide))
  · rw [if_neg h0, if_neg h0]; exact mW_of 2 (by decide) rfl rfl (fun q => absurd q (by decide))
theorem mr_db (v : tmM) : (mDb v = 0 ∧ ¬ (v 0 0 = 1 ∨ v 0 0 = 2)) ∨ (mDb v = 1 ∧ (v 0 0 = 1 ∨ v 0 0 = 2)) := by
  unfold mDb
  by_cases h : v 0 0 = 1 ∨ v 0 0 = 2
  · exact Or.inr ⟨if_pos h, h⟩
  · exact Or.inl ⟨if_neg h, h⟩
theorem mr_qlen (h : rP B v (w 1)) : v 8 1 = w 1 7 ∧ ∃ n, n ≤ 60 ∧ v 8 1 = nI n := by
  obtain ⟨_, _, _, ⟨n, q1, q2, q3, _⟩, _⟩ := h
  exact ⟨q2.trans q3.symm, n, q1, q2⟩
theorem mw_repair (h : rP B v (w 1)) : mW (f_X4_reasonAgainstRepair v) (f_X8_whyRepair w) v w (fun k => k = 0 → v 0 0 = 1 ∨ v 0 0 = 2) := by
  have hu := mr_ups8 h
  have hd := mr_dbl h
  have hq := (mr_qlen h).1
  unfold f_X4_reasonAgainstRepair f_X8_whyRepair
  rw [ms_cl hd.1, ms_cl hd.2, ms_cl hu, mr_g7, mr_n7, ← hq]
  rcases mr_db v with ⟨q, q2⟩ | ⟨q, q2⟩
  · rw [q, if_pos rfl, if_pos rfl]; exact mW_of 2 (by decide) rfl rfl (fun q => absurd q (by decide))
  · rw [q, if_neg mr_10, if_neg mr_10]
    by_cases h1 : v 0 1 = 3
    · rw [if_pos h1, if_pos h1, if_neg mr_10]
      by_cases h2 : v 8 1 = 0
      · rw [if_pos h2, if_pos h2]; exact mW_of 9 (by decide) rfl rfl (fun q => absurd q (by decide))
      · rw [if_neg h2, if_neg h2]; exact mW_of 0 (by decide) rfl rfl (fun _ => q2)
    · rw [if_neg h1, if_neg h1, if_pos rfl]; exact mW_of 1 (by decide) rfl rfl (fun q => absurd q (by decide))
theorem mw_check (h : rP B v (w 1)) (x : Int32) : mW (f_X4_reasonAgainstCheck x v) (f_X8_whyCheck x w) v w (fun k => k = 0 → (v 0 0 = 1 ∨ v 0 0 = 2) ∧ ∀ n, rQn n v (w 1) → mFold (mHe v x) n 0 0 ≤ 0) := by
  have hu := mr_ups8 h
  have hd := mr_dbl h
  obtain ⟨⟨s1, s2, s3, s4, s5, s6, s7⟩, _, _, ⟨n, hq⟩, _⟩ := h
  have he := mr_held hq x
  unfold f_X4_reasonAgainstCheck f_X8_whyCheck
  rw [ms_cl hd.1, ms_cl hd.2, ms_cl hu, mr_g3, mr_n3', ← s3, ms_cl (mh_7 _ _ _), ms_cl (mh_8 _ _ _), ms_cl he.1, ms_cl he.2]
  have hun : ∀ m, rQn m v (w 1) → m = n := fun m hm => (nI_eq (by have := hm.1; omega) (by have := hq.1; omega)).mp (hm.2.1.symm.trans hq.2.1)
  rcases mr_db v with ⟨q, q2⟩ | ⟨q, q2⟩
  · rw [q, if_pos rfl, if_pos rfl]; exact mW_of 2 (by decide) rfl rfl (fun q => absurd q (by decide))
  · rw [q, if_neg mr_10, if_neg mr_10]
    by_cases h1 : v 0 1 = 3
    · rw [if_pos h1, if_pos h1, if_neg mr_10]
      rcases mh_01 (v 0 2) x with h2 | h2
      · rw [h2, if_pos rfl, if_pos rfl]; exact mW_of 3 (by decide) rfl rfl (fun q => absurd q (by decide))
      · rw [h2, if_neg mr_10, if_neg mr_10]
        by_cases h3 : mFold (mHe v x) n 0 0 ≤ 0
        · rw [if_pos h3, if_pos h3]; exact mW_of 0 (by decide) rfl rfl (fun _ => ⟨q2, fun m hm => by rw [hun m hm]; exact h3⟩)
        · rw [if_neg h3, if_neg h3]; exact mW_of 4 (by decide) rfl rfl (fun q => absurd q (by decide))
    · rw [if_neg h1, if_neg h1, if_pos rfl]; exact mW_of 1 (by decide) rfl rfl (fun q => absurd q (by decide))
theorem mw_switch (h : rP B v (w 1)) (x : Int32) : mW (f_X4_reasonAgainstSwitchOver x v) (f_X8_whySwitch x w) v w (fun k => k = 0 → v 0 0 = 1 ∨ v 0 0 = 2) := by
  have hp := mr_phase h
  have hd := mr_dbl h
  have hup := mr_up8 h 1
  have hq := (mr_qlen h).1
  have hl := mr_leader v
  obtain ⟨⟨s1, s2, s3, s4, s5, s6, s7⟩, _⟩ := h
  unfold f_X4_reasonAgainstSwitchOver f_X4_reasonAgainstSwitchOver_66 f_X8_whySwitch f_X8_whySwitch_24 f_X8_whySwitch_25
  simp only [hd.1, hd.2, hup, hl, mh_7, mh_8, tS_cl, mr_g0, mr_g3, mr_g4, mr_g5, mr_g7, mr_n0, mr_n3', mr_n4, mr_n5, mr_n7]
  rw [← hq, ← hp.1]
  simp only [← s3, ← s4, ← s5]
  rcases mr_db v with ⟨q, q2⟩ | ⟨q, q2⟩
  · rw [q]
    refine mW_of 2 (by decide) (if_pos rfl) ?_ (fun q => absurd q (by decide))
    split
    · rfl
    · split <;> rfl
  · rw [q]
    simp only [if_neg mr_10]
    rcases mh_01 (v 0 4) x with h4 | h4
    · rw [h4]
      simp only [if_true]
      rcases mh_01 (v 0 1) 1 with h5 | h5
      · rw [h5]
        refine mW_of 1 (by decide) (if_pos rfl) ?_ (fun q => absurd q (by decide))
        split
        · rfl
        · split <;> rfl
      · rw [h5]
        simp only [if_neg mr_10]
        by_cases h6 : v 0 2 = 32767
        · simp only [if_pos h6]
          by_cases h7 : v 8 1 ≤ 0
          · simp only [if_pos h7]
            by_cases h8 : v 0 3 = 32767
            · simp only [if_pos h8]; exact mW_of 0 (by decide) rfl rfl (fun _ => q2)
            · simp only [if_neg h8]; exact mW_of 6 (by decide) rfl rfl (fun q => absurd q (by decide))
          · simp only [if_neg h7]
            rcases q2 with h9 | h9
            · simp only [if_pos h9, if_pos (Or.inr h9 : v 0 0 = 0 ∨ v 0 0 = 1), if_true]; exact mW_of 4 (by decide) rfl rfl (fun q => absurd q (by decide))
            · have e1 : ¬ v 0 0 = 1 := by rw [h9]; decide
              have e2 : ¬ (v 0 0 = 0 ∨ v 0 0 = 1) := by rw [h9]; decide
              simp only [if_neg e1, if_neg e2, if_neg mr_10]
              by_cases h8 : v 0 3 = 32767
              · simp only [if_pos h8, if_true]; exact mW_of 0 (by decide) rfl rfl (fun _ => Or.inr h9)
              · simp only [if_neg h8, if_true]; exact mW_of 6 (by decide) rfl rfl (fun q => absurd q (by decide))
        · simp only [if_neg h6]
          refine mW_of 3 (by decide) rfl ?_ (fun q => absurd q (by decide))
          split
          · rfl
          · split <;> rfl
    · rw [h4]
      refine mW_of 5 (by decide) (if_neg mr_10) ?_ (fun q => absurd q (by decide))
      split
      · rfl
      · split <;> rfl
theorem mw_back (h : rP B v (w 1)) (x : Int32) : mW (f_X4_reasonAgainstSwitchBack x v) (f_X8_whyBack x w) v w (fun k => k = 0 → v 0 0 = 1 ∨ v 0 0 = 2) := by
  have hp := mr_phase h
  have hd := mr_dbl h
  have hup := mr_up8 h 0
  have hq := (mr_qlen h).1
  have hl := mr_leader v
  obtain ⟨⟨s1, s2, s3, s4, s5, s6, s7⟩, _⟩ := h
  unfold f_X4_reasonAgainstSwitchBack f_X8_whyBack f_X8_whyBack_24 f_X8_whyBack_25
  simp only [hd.1, hd.2, hup, hl, mh_7, mh_8, tS_cl, mr_g0, mr_g5, mr_g7, mr_n0, mr_n5, mr_n7]
  rw [← hq, ← hp.1]
  simp only [← s5]
  rcases mr_db v with ⟨q, q2⟩ | ⟨q, q2⟩
  · rw [q]
    refine mW_of 2 (by decide) (if_pos rfl) ?_ (fun q => absurd q (by decide))
    split
    · rfl
    · split <;> rfl
  · rw [q]
    simp only [if_neg mr_10]
    rcases mh_01 (v 0 4) x with h4 | h4
    · rw [h4]
      refine mW_of 5 (by decide) (if_pos rfl) ?_ (fun q => absurd q (by decide))
      split
      · rfl
      · split <;> rfl
    · rw [h4]
      simp only [if_neg mr_10]
      rcases mh_01 (v 0 1) 0 with h5 | h5
      · rw [h5]
        refine mW_of 1 (by decide) (if_pos rfl) ?_ (fun q => absurd q (by decide))
        split
        · rfl
        · split <;> rfl
      · rw [h5]
        simp only [if_neg mr_10]
        by_cases h7 : v 8 1 ≤ 0
        · simp only [if_pos h7, if_true]; exact mW_of 0 (by decide) rfl rfl (fun _ => q2)
        · simp only [if_neg h7]
          rcases q2 with h9 | h9
          · have e1 : ¬ v 0 0 = 2 := by rw [h9]; decide
            have e3 : ¬ (0 : Int32) = 1 := by decide
            simp only [if_neg e1, if_pos (Or.inr h9 : v 0 0 = 0 ∨ v 0 0 = 1), if_neg e3, if_true]; exact mW_of 0 (by decide) rfl rfl (fun _ => Or.inl h9)
          · have e2 : ¬ (v 0 0 = 0 ∨ v 0 0 = 1) := by rw [h9]; decide
            simp only [if_neg e2, if_pos h9, if_true, if_neg mr_10]; exact mW_of 4 (by decide) rfl rfl (fun q => absurd q (by decide))
theorem mw_goBack (h : rP B v (w 1)) (x : Int32) : mW (f_X4_reasonAgainstGoBack x v) (f_X8_whyGoBack x w) v w (fun k => k = 0 → v 0 0 = 2) := by
  have hp := mr_phase h
  have hu := mr_ups8 h
  have hq := (mr_qlen h).1
  unfold f_X4_reasonAgainstGoBack f_X8_whyGoBack
  rw [mr_g0, mr_n0, ← hp.1, ms_cl hu, mr_g7, mr_n7, ← hq]
  by_cases h0 : v 0 0 = 2
  · rw [if_pos h0, if_pos h0]
    by_cases h1 : v 0 1 = 3
    · rw [if_pos h1, if_pos h1, if_neg mr_10]
      by_cases h2 : x = 0
      · rw [if_pos h2, if_pos h2]; exact mW_of 0 (by decide) rfl rfl (fun _ => h0)
      · rw [if_neg h2, if_neg h2]
        by_cases h3 : v 8 1 ≤ 0
        · rw [if_pos h3, if_pos h3]; exact mW_of 0 (by decide) rfl rfl (fun _ => h0)
        · rw [if_neg h3, if_neg h3]; exact mW_of 4 (by decide) rfl rfl (fun q => absurd q (by decide))
    · rw [if_neg h1, if_neg h1, if_pos rfl]; exact mW_of 1 (by decide) rfl rfl (fun q => absurd q (by decide))
  · rw [if_neg h0, if_neg h0]; exact mW_of 2 (by decide) rfl rfl (fun q => absurd q (by decide))
theorem mw_stop (h : rP B v (w 1)) : mW (f_X4_reasonAgainstStop v) (f_X8_whyStop w) v w (fun k => k = 0 → v 0 0 = 1) := by
  have hp := mr_phase h
  obtain ⟨⟨s1, s2, s3, s4, s5, s6, s7⟩, _⟩ := h
  unfold f_X4_reasonAgainstStop f_X8_whyStop
  rw [mr_g0, mr_n0, ← hp.1, mr_g5, mr_n5, ← s5]
  by_cases h0 : v 0 0 = 1
  · rw [if_pos h0, if_pos h0]
    by_cases h1 : v 0 4 = 0
    · rw [if_pos h1, if_pos h1]; exact mW_of 0 (by decide) rfl rfl (fun _ => h0)
    · rw [if_neg h1, if_neg h1]; exact mW_of 7 (by decide) rfl rfl (fun q => absurd q (by decide))
  · rw [if_neg h0, if_neg h0]; exact mW_of 2 (by decide) rfl rfl (fun q => absurd q (by decide))
theorem mw_finish (h : rP B v (w 1)) : mW (f_X4_reasonAgainstFinish v) (f_X8_whyFinish w) v w (fun k => k = 0 → v 0 0 = 2) := by
  have hp := mr_phase h
  have hup := mr_up8 h 1
  obtain ⟨⟨s1, s2, s3, s4, s5, s6, s7⟩, _⟩ := h
  unfold f_X4_reasonAgainstFinish f_X8_whyFinish
  rw [mr_g0, mr_n0, ← hp.1, mr_g5, mr_n5, ← s5, ms_cl hup, ms_cl (mh_7 _ _ _)]
  by_cases h0 : v 0 0 = 2
  · rw [if_pos h0, if_pos h0]
    by_cases h1 : v 0 4 = 255
    · rw [if_pos h1, if_pos h1]
      rcases mh_01 (v 0 1) 1 with h2 | h2
      · rw [h2, if_pos rfl, if_pos rfl]; exact mW_of 1 (by decide) rfl rfl (fun q => absurd q (by decide))
      · rw [h2, if_neg mr_10, if_neg mr_10]; exact mW_of 0 (by decide) rfl rfl (fun _ => h0)
    · rw [if_neg h1, if_neg h1]; exact mW_of 7 (by decide) rfl rfl (fun q => absurd q (by decide))
  · rw [if_neg h0, if_neg h0]; exact mW_of 2 (by decide) rfl rfl (fun q => absurd q (by decide))
end WHY
