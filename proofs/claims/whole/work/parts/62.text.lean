/-! signs -/
theorem mb_bye (x : Int32) : vp_nar .byte (x.toInt8.toInt32) = x.toInt8.toInt32 := by
  simp [vp_nar, narrow]
theorem mb_byt (x : Int32) : mByt (vp_nar .byte (x.toInt8.toInt32)) := by
  rw [mb_bye]
  unfold mByt
  rw [Int8.toInt_toInt32]
  exact ⟨Int8.le_toInt _, Int8.toInt_lt _⟩
theorem mb_u255 (u : UInt32) : (u &&& 255) % 65536 = u &&& 255 := by
  apply UInt32.toNat_inj.mp
  rw [UInt32.toNat_mod, UInt32.toNat_and]
  apply Nat.mod_eq_of_lt
  exact Nat.lt_of_le_of_lt Nat.and_le_right (by decide)
theorem mb_chr (u : UInt32) (y : Int32) (h : ∀ i, i < 8 → u.toBitVec.getLsbD i = y.toBitVec.getLsbD i) : vp_nar .char (((u.toInt32 &&& 255).toUInt32 % 65536).toInt32) = vp_nar .byte (y.toInt8.toInt32) &&& 255 := by
  have e2 : vp_nar .char (((u.toInt32 &&& 255).toUInt32 % 65536).toInt32) = u.toInt32 &&& 255 := by
    simp [vp_nar, narrow]
    have := mb_u255 u
    rw [show Int32.toUInt32 255 = 255 from rfl, this, this]
    rfl
  rw [mb_bye, e2]
  apply Int32.toBitVec_inj.mp
  apply BitVec.eq_of_getLsbD_eq
  intro i hi
  rw [Int32.toBitVec_and, Int32.toBitVec_and, BitVec.getLsbD_and, BitVec.getLsbD_and]
  by_cases h8 : i < 8
  · have h9 := h i h8
    have e : y.toInt8.toInt32.toBitVec.getLsbD i = y.toBitVec.getLsbD i := by
      show (BitVec.signExtend 32 (BitVec.signExtend 8 y.toBitVec)).getLsbD i = _
      rw [BitVec.getLsbD_signExtend, BitVec.getLsbD_signExtend, if_pos h8, if_pos hi, decide_eq_true hi, decide_eq_true h8, Bool.true_and, Bool.true_and]
    rw [e, ← h9]
    rfl
  · have h9 : ∀ i, i < 32 → ¬ i < 8 → (255 : Int32).toBitVec.getLsbD i = false := by decide
    rw [h9 i hi h8, Bool.and_false, Bool.and_false]
theorem mb_sgn (x : Int32) (s : Nat) (hs : s = 0 ∨ s = 8 ∨ s = 16 ∨ s = 24) : vp_nar .char (((((x.toUInt32 >>> ((nI s).toUInt32 &&& Int32.toUInt32 31)).toInt32) &&& 255).toUInt32 % 65536).toInt32) = vp_nar .byte ((x >>> (nI s &&& 31)).toInt8.toInt32) &&& 255 := by
  apply mb_chr
  intro i hi
  rcases hs with rfl | rfl | rfl | rfl
  · show (x.toBitVec >>> ((0#32) % 32#32)).getLsbD i = (BitVec.sshiftRight' x.toBitVec (((nI 0 &&& 31).toBitVec.smod 32))).getLsbD i
    rw [show ((nI 0 &&& 31).toBitVec.smod 32) = 0#32 by decide]
    simp [BitVec.sshiftRight', BitVec.getLsbD_sshiftRight]
  · show (x.toBitVec >>> ((8#32) % 32#32)).getLsbD i = (BitVec.sshiftRight' x.toBitVec (((nI 8 &&& 31).toBitVec.smod 32))).getLsbD i
    rw [show ((nI 8 &&& 31).toBitVec.smod 32) = 8#32 by decide]
    simp [BitVec.sshiftRight', BitVec.getLsbD_sshiftRight]
    rw [if_pos (by omega), decide_eq_false (by omega)]
    rfl
  · show (x.toBitVec >>> ((16#32) % 32#32)).getLsbD i = (BitVec.sshiftRight' x.toBitVec (((nI 16 &&& 31).toBitVec.smod 32))).getLsbD i
    rw [show ((nI 16 &&& 31).toBitVec.smod 32) = 16#32 by decide]
    simp [BitVec.sshiftRight', BitVec.getLsbD_sshiftRight]
    rw [if_pos (by omega), decide_eq_false (by omega)]
    rfl
  · show (x.toBitVec >>> ((24#32) % 32#32)).getLsbD i = (BitVec.sshiftRight' x.toBitVec (((nI 24 &&& 31).toBitVec.smod 32))).getLsbD i
    rw [show ((nI 24 &&& 31).toBitVec.smod 32) = 24#32 by decide]
    simp [BitVec.sshiftRight', BitVec.getLsbD_sshiftRight]
    rw [if_pos (by omega), decide_eq_false (by omega)]
    rfl
section
variable {B : Nat} {v w : tmM} {bs : List Int32}
theorem ms_step (h : mG B v bs w) {t s : Nat} (ht : t < 600) (hs : s = 0 ∨ s = 8 ∨ s = 16 ∨ s = 24) (hv : v 251 1 = nI t) (x : Int32) (K7 : tmM → Option tmR) (L7 : Int32 → Int32 → tmM → Option tmR) (K8 : tmM → Option (Int32 × tmM)) (L8 : Int32 → Int32 → tmM → Option (Int32 × tmM)) : ∃ v' w', f_X7_appendText_26b K7 L7 x (nI s) v = L7 x (nI s + (-8)) v' ∧ f_X8_appendText_33b K8 L8 x (nI s) w = L8 x (nI s + (-8)) w' ∧ mG B v' bs w' ∧ v' 251 1 = nI (t + 1) ∧ w' 0 0 = w 0 0 := by
  have hw : w 0 16 = nI t := by
    obtain ⟨⟨t', t1, t2, t3, t4⟩, _⟩ := h.2.2.2.2.1
    rw [t3, ← t2, hv]
  refine ⟨_, _, ?_, ?_, mG_sign h ht hv (mb_sgn x s hs) (mb_byt _), mu_eq _ _ _ _, ?_⟩
  · unfold f_X7_appendText_26b
    rw [if_neg (nI_pos (by omega)), hv, ms_gi ht (by decide), tS_lt, nI_clamp (by omega), tS_lt, mu_ne (by omega), hv, nI_1]
  · unfold f_X8_appendText_33b
    rw [if_neg (nI_pos (by omega)), hw, ms_gi ht (by decide), tS_lt, nI_clamp (by omega), tS_lt, mu_ne (by omega), hw, nI_1]
  · rw [mu_ne (by omega), mu_ne (by omega)]
theorem mt_appendText (h : mG B v bs w) (x1 : Int32) : mAn B v bs w none none (some 1) (f_X7_appendText x1 v) (f_X8_appendText x1 w) := by
  have h0 := mG_0 h
  obtain ⟨⟨t, t1, t2, t3, t4⟩, t5, t6⟩ := h.2.2.2.2.1
  unfold f_X7_appendText f_X8_appendText f_X7_appendText_20 f_X8_appendText_18
  rw [t2, t3, show nI t + 4 = nI (t + 4) from nI_add t 4]
  by_cases c : (600 : Int32) < nI (t + 4)
  · refine mE h (i := 2) (c := 1) ?_ (fun _ => rfl) (by decide) ?_
    · rw [if_pos c, mx_s0]
    · rw [if_pos c, tS_lt, if_neg mz_le1]
  · have ht : t + 4 ≤ 600 := by
      by_cases z : t + 4 ≤ 600
      · exact z
      · exact absurd (show (600 : Int32) < nI (t + 4) from nI_lt (a := 600) (by omega) (by omega)) c
    rw [if_neg c, if_neg c, mx_s1, tS_lt, if_pos mz_le0]
    obtain ⟨v1, w1, a1, a2, a3, a4, a5⟩ := ms_step h0 (t := t) (s := 24) (by omega) (by omega) t2 x1 (fun v4 => some ((0, v4 251 1), v4)) (f_X7_appendText_26 (fun v4 => some ((0, v4 251 1), v4)) 9999) (fun v4 => some (v4 0 16, v4)) (f_X8_appendText_33 (fun v4 => some (v4 0 16, v4)) 9999)
    obtain ⟨v2, w2, b1, b2, b3, b4, b5⟩ := ms_step a3 (t := t + 1) (s := 16) (by omega) (by omega) a4 x1 (fun v4 => some ((0, v4 251 1), v4)) (f_X7_appendText_26 (fun v4 => some ((0, v4 251 1), v4)) 9998) (fun v4 => some (v4 0 16, v4)) (f_X8_appendText_33 (fun v4 => some (v4 0 16, v4)) 9998)
    obtain ⟨v3, w3, c1, c2, c3, c4, c5⟩ := ms_step b3 (t := t + 1 + 1) (s := 8) (by omega) (by omega) b4 x1 (fun v4 => some ((0, v4 251 1), v4)) (f_X7_appendText_26 (fun v4 => some ((0, v4 251 1), v4)) 9997) (fun v4 => some (v4 0 16, v4)) (f_X8_appendText_33 (fun v4 => some (v4 0 16, v4)) 9997)
    obtain ⟨v4, w4, d1, d2, d3, d4, d5⟩ := ms_step c3 (t := t + 1 + 1 + 1) (s := 0) (by omega) (by omega) c4 x1 (fun v4 => some ((0, v4 251 1), v4)) (f_X7_appendText_26 (fun v4 => some ((0, v4 251 1), v4)) 9996) (fun v4 => some (v4 0 16, v4)) (f_X8_appendText_33 (fun v4 => some (v4 0 16, v4)) 9996)
    have e16 : w4 0 16 = v4 251 1 := by
      obtain ⟨⟨t', _, p2, p3, _⟩, _⟩ := d3.2.2.2.2.1
      rw [p2, p3]
    refine Or.inr ⟨v4 251 1, v4, w4, ?_, ?_, ?_, d3⟩
    · refine a1.trans (b1.trans (c1.trans (d1.trans ?_)))
      show f_X7_appendText_26b _ _ x1 (nI 0 + (-8)) v4 = _
      unfold f_X7_appendText_26b
      rw [if_pos (by decide)]
    · refine a2.trans (b2.trans (c2.trans (d2.trans ?_)))
      show f_X8_appendText_33b _ _ x1 (nI 0 + (-8)) w4 = _
      unfold f_X8_appendText_33b
      rw [if_pos (by decide)]
      show some (w4 0 16, w4) = _
      rw [e16]
    · rw [d5, c5, b5, a5, mu_eq]
end
