/-! ===== write and output ===== -/
section
variable {B : Nat} {v w : tmM} {bs : List Int32}
theorem mx_w1 (K : tmM → Option tmRW) : tm_cxw (f_X7_requireIndex 1 v) bs K = K v := rfl
theorem mG_out {w' : tmM} {bs' : List Int32} (h : mG B v bs w) (hp : mPr w w') (hO : gO bs' w') : mG B v bs' w' := by
  obtain ⟨g1, g2, g3, g4, g5, g6, g7⟩ := h
  exact ⟨by rw [hp.1 1 (by decide) (by decide)]; exact g1, gH_ext (Nat.le_refl B) (fun _ _ _ => rfl) rfl rfl (hp.2 3 (by decide)) (hp.1 2 (by decide) (by decide)) g2, gS_ext (Nat.le_refl B) (fun _ _ _ => rfl) rfl (hp.1 4 (by decide) (by decide)) (hp.1 3 (by decide) (by decide)) g3, gA_ext rfl (hp.1 5 (by decide) (by decide)) g4, gT_ext rfl rfl (hp.1 8 (by decide) (by decide)) (hp.2 16 (by decide)) (hp.2 21 (by decide)) (hp.2 22 (by decide)) g5, hO, gC_ext (hp.1 7 (by decide) (by decide)) (hp.1 9 (by decide) (by decide)) g7⟩
theorem mo_rows {c : Nat} (hc : c < 15) {n : Nat} : ∀ (d i F7 F8 : Nat) (bs : List Int32) (w : tmM), d + i = 4 * c + 4 → d < F7 → d < F8 → rP B v (w 1) → rQn n v (w 1) → gO bs w → bs.length + 12 * d ≤ 66 → ∃ bs' w', f_X7_write_79 F7 (nI c) (nI i) v bs = some ((0, nI bs'.length), (v, bs')) ∧ f_X8_write_89 (fun v38 => some (v38 0 13, v38)) F8 (nI c) (nI i) w = some (nI bs'.length, w') ∧ gO bs' w' ∧ mPr w w' := by
  intro d
  induction d with
  | zero =>
    intro i F7 F8 bs w hd h7 h8 h hQ hO hl
    obtain ⟨F7, rfl⟩ : ∃ G, F7 = G + 1 := ⟨F7 - 1, by omega⟩
    obtain ⟨F8, rfl⟩ : ∃ G, F8 = G + 1 := ⟨F8 - 1, by omega⟩
    refine ⟨bs, w, ?_, ?_, hO, mPr.refl w⟩
    · show f_X7_write_79b _ (nI c) (nI i) v bs = _
      unfold f_X7_write_79b
      rw [ms_cl (mz_lk c v), if_pos (nI_lt (by omega) (by omega)), tS_lt]
    · show f_X8_write_89b _ _ (nI c) (nI i) w = _
      unfold f_X8_write_89b
      rw [mz_4c4, if_pos (nI_le (by omega) (by omega))]
      show some (w 0 13, w) = _
      rw [hO.1]
  | succ d ih =>
    intro i F7 F8 bs w hd h7 h8 h hQ hO hl
    obtain ⟨F7, rfl⟩ : ∃ G, F7 = G + 1 := ⟨F7 - 1, by omega⟩
    obtain ⟨F8, rfl⟩ : ∃ G, F8 = G + 1 := ⟨F8 - 1, by omega⟩
    have hk := mr_some78 h (k := i) (by omega)
    show ∃ bs' w', f_X7_write_79b _ (nI c) (nI i) v bs = _ ∧ f_X8_write_89b _ _ (nI c) (nI i) w = _ ∧ _
    by_cases z : v 3 i = -1 ∧ v 4 i = -1
    · obtain ⟨bs', w', a1, a2, a3, a4⟩ := ih (i + 1) F7 F8 bs w (by omega) (by omega) (by omega) h hQ hO (by omega)
      refine ⟨bs', w', ?_, ?_, a3, a4⟩
      · unfold f_X7_write_79b
        rw [ms_cl (mz_lk c v), if_neg (nI_nlt (by omega) (by omega)), ms_cl hk.1, if_pos z, if_pos rfl, nI_1, a1]
      · unfold f_X8_write_89b f_X8_write_167
        rw [mz_4c4, if_neg (nI_ge (by omega) (by omega)), ms_cl hk.2, if_pos z, if_pos rfl, nI_1, a2]
    · have r7 := mo_row7 h hQ (k := i) (by omega) bs (by omega)
      obtain ⟨w1, r1, r2, r3⟩ := mo_row8 h hQ (k := i) (by omega) hO (by omega) (fun v => f_X8_write_89 (fun v38 => some (v38 0 13, v38)) F8 (nI c) (nI i + 1) v)
      have hlen := mRow_len h (n := n) (k := i) (by omega)
      have h1 : rP B v (w1 1) := by rw [r3.1 1 (by decide) (by decide)]; exact h
      have hQ1 : rQn n v (w1 1) := by rw [r3.1 1 (by decide) (by decide)]; exact hQ
      obtain ⟨bs', w', a1, a2, a3, a4⟩ := ih (i + 1) F7 F8 (bs ++ mRow v n i) w1 (by omega) (by omega) (by omega) h1 hQ1 r2 (by rw [List.length_append]; omega)
      refine ⟨bs', w', ?_, ?_, a3, r3.trans a4⟩
      · unfold f_X7_write_79b
        rw [ms_cl (mz_lk c v), if_neg (nI_nlt (by omega) (by omega)), ms_cl hk.1, if_neg z, if_neg mr_10, r7]
        show f_X7_write_79 F7 (nI c) (nI i + 1) v (bs ++ mRow v n i) = _
        rw [nI_1, a1]
      · unfold f_X8_write_89b
        rw [mz_4c4, if_neg (nI_ge (by omega) (by omega)), ms_cl hk.2, if_neg z, if_neg mr_10]
        refine Eq.trans (show _ = mRow8 (nI i) (fun v => f_X8_write_89 (fun v38 => some (v38 0 13, v38)) F8 (nI c) (nI i + 1) v) w from rfl) ?_
        rw [r1, nI_1, a2]
theorem mt_write {B' : Nat} (hB : B ≤ B') (h : mG B v bs w) (x1 : Int32) (xo : Int64) (xd : UInt64) : ∃ (k : Int32) (xo' : Int64) (xd' : UInt64) (v' : tmM) (bs' : List Int32) (r : Int32) (w1 w2 : tmM), tl_cxw (f_X7_write x1 v bs) (fun r v' bs' => some (0, ((r.toInt64, xd), (v', bs')))) (fun i v' bs' => tl_kx (some 1) none none i ((xo, xd), (v', bs'))) = some (k, ((xo', xd'), (v', bs'))) ∧ f_X8_write x1 w = some (r, w1) ∧ f_X8_thrown w1 = some (k, w2) ∧ (k = 0 → xo' = r.toInt64) ∧ mG B' v' bs' w2 := by
  have h0 := mG_0 h
  rcases mk_chunk x1 with e | ⟨c, hc, rfl, e⟩
  · refine ⟨1, xo, xd, v, bs, 0, tm_up w 0 0 1, tm_up w 0 0 1, ?_, ?_, ?_, fun q => absurd q mr_10, mG_mono hB (mG_reg h (by decide) 1)⟩
    · unfold f_X7_write
      rw [ms_cl (e v w).1]; rfl
    · unfold f_X8_write f_X8_write_13
      rw [ms_cl (e v w).2, if_pos rfl, tS_lt, if_neg mz_le1]
    · unfold f_X8_thrown; rw [mu_eq]
  · obtain ⟨t3, t4, _⟩ := mz_cs h0.1
    obtain ⟨n, hQ⟩ := h0.1.2.2.2.1
    have hC := h0.2.2.2.2.2.2
    generalize hw0 : tm_up w 0 0 0 = w0 at h0 t3 t4 hQ hC
    have hw00 : w0 0 0 = 0 := by rw [← hw0, mu_eq]
    have hO1 : gO [] (tm_up w0 0 13 0) := ⟨mu_eq _ _ _ _, by decide, fun i hi => absurd hi (by show ¬ i < 0; omega)⟩
    have p1 : mPr w0 (tm_up w0 0 13 0) := ⟨fun k a _ => tu_ne _ _ _ a, fun j a => mu_ne (by omega)⟩
    have l2 := mo_len2 (k := c) (by omega)
    obtain ⟨w2, a1, a2, a3⟩ := mo_num hO1 (by decide) (k := c) (by omega)
    have p2 := p1.trans a3
    have lw13 : (tm_wrd 13).length = 7 := by decide
    have lw14 : (tm_wrd 14).length = 8 := by decide
    have e0 : ([] ++ tm_dec c : List Int32) = tm_dec c := rfl
    rw [e0] at a2
    -- copied
    have s1 : ∃ w3, (if mHas (v 0 2) (nI c) = 0 then f_X8_putsSigns 0 0 w2 else f_X8_putsSigns 0 7 w2) = some ((), w3) ∧ gO (tm_dec c ++ (if mHas (v 0 2) (nI c) = 0 then [] else tm_wrd 13)) w3 ∧ mPr w2 w3 := by
      have hC2 : gC w2 := gC_ext (p2.1 7 (by decide) (by decide)) (p2.1 9 (by decide) (by decide)) hC
      by_cases z : mHas (v 0 2) (nI c) = 0
      · rw [if_pos z, if_pos z]; exact mo_word a2 hC2 (by omega) (a := 0) (b := 0) (Or.inl ⟨rfl, rfl⟩)
      · rw [if_neg z, if_neg z]; exact mo_word a2 hC2 (by omega) (a := 0) (b := 7) (Or.inr (Or.inl ⟨rfl, rfl⟩))
    obtain ⟨w3, b1, b2, b3⟩ := s1
    have p3 := p2.trans b3
    have l3 : (tm_dec c ++ (if mHas (v 0 2) (nI c) = 0 then [] else tm_wrd 13)).length ≤ 9 := by
      rw [List.length_append]
      split
      · show _ + 0 ≤ 9; omega
      · omega
    -- checked
    have s2 : ∃ w4, (if mHas (v 0 3) (nI c) = 0 then f_X8_putsSigns 7 7 w3 else f_X8_putsSigns 7 15 w3) = some ((), w4) ∧ gO (tm_dec c ++ (if mHas (v 0 2) (nI c) = 0 then [] else tm_wrd 13) ++ (if mHas (v 0 3) (nI c) = 0 then [] else tm_wrd 14)) w4 ∧ mPr w3 w4 := by
      have hC3 : gC w3 := gC_ext (p3.1 7 (by decide) (by decide)) (p3.1 9 (by decide) (by decide)) hC
      by_cases z : mHas (v 0 3) (nI c) = 0
      · rw [if_pos z, if_pos z]; exact mo_word b2 hC3 (by omega) (a := 7) (b := 7) (Or.inr (Or.inr (Or.inl ⟨rfl, rfl⟩)))
      · rw [if_neg z, if_neg z]; exact mo_word b2 hC3 (by omega) (a := 7) (b := 15) (Or.inr (Or.inr (Or.inr ⟨rfl, rfl⟩)))
    obtain ⟨w4, c1, c2, c3⟩ := s2
    have p4 := p3.trans c3
    have l4 : (tm_dec c ++ (if mHas (v 0 2) (nI c) = 0 then [] else tm_wrd 13) ++ (if mHas (v 0 3) (nI c) = 0 then [] else tm_wrd 14)).length ≤ 17 := by
      have h8 : (if mHas (v 0 3) (nI c) = 0 then ([] : List Int32) else tm_wrd 14).length ≤ 8 := by
        split
        · exact Nat.zero_le _
        · omega
      rw [List.length_append]
      omega
    generalize hH : tm_dec c ++ (if mHas (v 0 2) (nI c) = 0 then [] else tm_wrd 13) ++ (if mHas (v 0 3) (nI c) = 0 then [] else tm_wrd 14) = H at c2 l4
    have h4 : rP B v (w4 1) := by rw [p4.1 1 (by decide) (by decide)]; exact h0.1
    have hQ4 : rQn n v (w4 1) := by rw [p4.1 1 (by decide) (by decide)]; exact hQ
    obtain ⟨bs', w', d1, d2, d3, d4⟩ := mo_rows hc 4 (4 * c) 5 10000 H w4 (by omega) (by decide) (by decide) h4 hQ4 c2 (by omega)
    have p5 := p4.trans d4
    have d1' : f_X7_write_74 (nI c) v H = some ((0, nI bs'.length), (v, bs')) := by
      unfold f_X7_write_74
      rw [ms_cl (mz_fk c v), d1]
    have i0 : w' 0 0 = 0 := by rw [p5.2 0 (by decide), hw00]
    refine ⟨0, (nI bs'.length).toInt64, xd, v, bs', nI bs'.length, w', w', ?_, ?_, ?_, fun _ => rfl, mG_mono hB (mG_out h0 p5 d3)⟩
    · have f7 : f_X7_write (nI c) v bs = some ((0, nI bs'.length), (v, bs')) := by
        unfold f_X7_write
        rw [ms_cl (e v w).1, mx_w1]
        have gd : decide (¬ nI c < 0 ∧ (nI c).toNatClampNeg < 1000 ∧ ([] : List Int32).length + 3 ≤ 70) = true := decide_eq_true ⟨nI_pos (by omega), by rw [nI_clamp (by omega)]; omega, by decide⟩
        rw [tS_lt, ms_g gd, tS_lt, nI_clamp (by omega), ms_cl (mh_7 _ _ _)]
        unfold f_X7_write_49
        by_cases z : mHas (v 0 2) (nI c) = 0
        · rw [if_pos z, ms_cl (mh_7 _ _ _)]
          rw [if_pos z, List.append_nil] at hH
          by_cases y : mHas (v 0 3) (nI c) = 0
          · rw [if_pos y, List.append_nil] at hH
            rw [if_pos y, e0, hH, d1']
          · rw [if_neg y] at hH
            rw [if_neg y, e0, ms_g (decide_eq_true (by omega)), tS_lt, hH, d1']
        · rw [if_neg z, e0, ms_g (decide_eq_true (by omega)), tS_lt, ms_cl (mh_7 _ _ _)]
          rw [if_neg z] at hH l3
          by_cases y : mHas (v 0 3) (nI c) = 0
          · rw [if_pos y, List.append_nil] at hH
            rw [if_pos y, hH, d1']
          · rw [if_neg y] at hH
            rw [if_neg y, ms_g (decide_eq_true (by omega)), tS_lt, hH, d1']
      rw [f7]
      rfl
    · have d2' : f_X8_write_89 (fun v38 => some (v38 0 13, v38)) 10000 (nI c) (4 * nI c) w4 = some (nI bs'.length, w') := by rw [mz_4c]; exact d2
      have e3 : w2 1 3 = v 0 2 := by rw [p2.1 1 (by decide) (by decide), t3]
      have e4 : w3 1 4 = v 0 3 := by rw [p3.1 1 (by decide) (by decide), t4]
      have last : ∀ (s0 s1 : Int32) (x : tmM), f_X8_putsSigns s1 s0 x = some ((), w4) → f_X8_write_82 (nI c) s0 s1 x = some (nI bs'.length, w') := fun s0 s1 x hx => by
        unfold f_X8_write_82
        rw [ms_cl hx, tS_lt, d2']
      have mid : ∀ (s0 s1 : Int32) (x : tmM), f_X8_putsSigns s1 s0 x = some ((), w3) → f_X8_write_56 (nI c) s0 s1 x = some (nI bs'.length, w') := fun s0 s1 x hx => by
        unfold f_X8_write_56
        rw [ms_cl hx, mr_g4, mr_n4, e4, ms_cl (mh_8 _ _ _)]
        by_cases y : mHas (v 0 3) (nI c) = 0
        · rw [if_pos y] at c1
          rw [if_pos y]; exact last _ _ _ c1
        · rw [if_neg y] at c1
          rw [if_neg y]; exact last _ _ _ c1
      unfold f_X8_write f_X8_write_13
      rw [ms_cl (e v w).2, if_neg mr_10, tS_lt, hw0, if_pos (by rw [hw00]; decide), tS_lt, ms_cl a1, mr_g3, mr_n3', e3, ms_cl (mh_8 _ _ _)]
      by_cases y : mHas (v 0 2) (nI c) = 0
      · rw [if_pos y] at b1
        rw [if_pos y]; exact mid _ _ _ b1
      · rw [if_neg y] at b1
        rw [if_neg y]; exact mid _ _ _ b1
    · unfold f_X8_thrown; rw [i0]
theorem mt_output {B' : Nat} (hB : B ≤ B') (h : mG B v bs w) (x1 : Int32) : ∃ (r : Int32) (v' : tmM) (bs' : List Int32) (w' : tmM), f_X7_output x1 v bs = some (r, (v', bs')) ∧ f_X8_output x1 w = some (r, w') ∧ mG B' v' bs' w' := by
  have h0 := mG_0 h
  have hO := h0.2.2.2.2.2.1
  obtain ⟨o1, o2, o3⟩ := hO
  unfold f_X7_output f_X8_output
  simp only [tS_lt]
  rw [o1]
  have hin := mk_inP x1 bs.length (by omega) (tm_up w 0 0 0)
  rcases pk_ix x1 (n := bs.length) (by omega) with q | q | ⟨k, hk, rfl⟩
  · refine ⟨-1, v, bs, tm_up w 0 0 0, ?_, ?_, mG_mono hB h0⟩
    · rw [if_pos q]
    · rw [ms_cl (hin.1 q), if_pos rfl]
  · refine ⟨-1, v, bs, tm_up w 0 0 0, ?_, ?_, mG_mono hB h0⟩
    · by_cases z : x1 < 0
      · rw [if_pos z]
      · rw [if_neg z, if_pos q]
    · rw [ms_cl (hin.2.1 q), if_pos rfl]
  · refine ⟨bs.getD k 0, v, bs, tm_up w 0 0 0, ?_, ?_, mG_mono hB h0⟩
    · rw [if_neg (nI_pos (by omega)), if_neg (nI_ge hk (by omega)), nI_clamp (by omega), ms_g (decide_eq_true ⟨nI_pos (by omega), hk⟩)]
    · rw [ms_cl (hin.2.2 k hk rfl), if_neg mr_10, ms_gi (show k < 96 by omega) (by decide), nI_clamp (by omega), o3 k hk]
end
