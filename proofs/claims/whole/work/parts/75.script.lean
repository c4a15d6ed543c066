/-! ===== the script's loops, runScript ===== -/
theorem ps_loop {t : Nat} : ∀ (d n F7 F8 : Nat) (v w : tmM), d + n = 31 → d < F7 → d < F8 → pS t n v w → ∃ n' v' w', (∀ K, f_X3_parse_26 K F7 (nI n) v = K v') ∧ (∀ K, f_X8_runScript_24 K F8 w = K w') ∧ pS t n' v' w' ∧ pF v w v' w' := by
  intro d
  induction d with
  | zero =>
    intro n F7 F8 v w hd _ _ h
    have := h.2.1.1
    exact absurd hd (by omega)
  | succ d ih =>
    intro n F7 F8 v w hd hF7 hF8 h
    obtain ⟨F7, rfl⟩ : ∃ G, F7 = G + 1 := ⟨F7 - 1, by omega⟩
    obtain ⟨F8, rfl⟩ : ∃ G, F8 = G + 1 := ⟨F8 - 1, by omega⟩
    have hn := h.2.1.1
    have e6 := ps_e6 h
    have e8 := ps_e8 h
    have h30 : ¬ (30 : Int32) < nI n := nI_nlt (a := 30) (by omega) (by omega)
    by_cases z : w 0 21 = 0
    · by_cases k0 : w 0 19 = 0
      · refine ⟨n, v, w, fun K => ?_, fun K => ?_, h, pF.refl v w⟩
        · show f_X3_parse_26b _ _ (nI n) v = _
          unfold f_X3_parse_26b
          rw [if_neg h30, e6, if_pos z, e8, if_pos k0]
        · show f_X8_runScript_24b _ _ w = _
          unfold f_X8_runScript_24b
          rw [if_pos z, if_pos k0]
      · obtain ⟨n1, v1, w1, a1, a2, a3, a4, a5⟩ := ps_cmd h (e6.trans z)
        have s7 : ∀ K, f_X3_parse_26 K (F7 + 1) (nI n) v = f_X3_parse_26 K F7 (nI (n + 1)) v1 := fun K => by
          show f_X3_parse_26b _ _ (nI n) v = _
          unfold f_X3_parse_26b
          rw [if_neg h30, e6, if_pos z, e8, if_neg k0, ms_cl a1, nI_1]
        have s8 : ∀ K, f_X8_runScript_24 K (F8 + 1) w = f_X8_runScript_24 K F8 w1 := fun K => by
          show f_X8_runScript_24b _ _ w = _
          unfold f_X8_runScript_24b
          rw [if_pos z, if_neg k0, ms_cl a2]
        by_cases y : v1 251 6 = 0
        · rw [a5 y] at a3
          obtain ⟨n', v', w', b1, b2, b3, b4⟩ := ih (n + 1) F7 F8 v1 w1 (by omega) (by omega) (by omega) a3
          exact ⟨n', v', w', fun K => (s7 K).trans (b1 K), fun K => (s8 K).trans (b2 K), b3, a4.trans b4⟩
        · obtain ⟨F7, rfl⟩ : ∃ G, F7 = G + 1 := ⟨F7 - 1, by omega⟩
          obtain ⟨F8, rfl⟩ : ∃ G, F8 = G + 1 := ⟨F8 - 1, by omega⟩
          refine ⟨n1, v1, w1, fun K => (s7 K).trans ?_, fun K => (s8 K).trans ?_, a3, a4⟩
          · show f_X3_parse_26b _ _ (nI (n + 1)) v1 = _
            unfold f_X3_parse_26b
            rw [if_neg y]
            split <;> rfl
          · show f_X8_runScript_24b _ _ w1 = _
            unfold f_X8_runScript_24b
            rw [if_neg (by rw [← ps_e6 a3]; exact y)]
    · refine ⟨n, v, w, fun K => ?_, fun K => ?_, h, pF.refl v w⟩
      · show f_X3_parse_26b _ _ (nI n) v = _
        unfold f_X3_parse_26b
        rw [if_neg h30, e6, if_neg z]
      · show f_X8_runScript_24b _ _ w = _
        unfold f_X8_runScript_24b
        rw [if_neg z]
def mDo (a f s : Int32) (v : tmM) : Option (Int32 × tmM) := if a = 11 then f_X7_writeRows f f s 0 v else if a = 12 then f_X7_removeRows f f v else f_X7_attempt a f v
theorem mDo_w {f s : Int32} {v : tmM} : mDo 11 f s v = f_X7_writeRows f f s 0 v := if_pos rfl
theorem mDo_r {f s : Int32} {v : tmM} : mDo 12 f s v = f_X7_removeRows f f v := (if_neg (by decide)).trans (if_pos rfl)
theorem mDo_a {a f s : Int32} {v : tmM} (h1 : ¬ a = 11) (h2 : ¬ a = 12) : mDo a f s v = f_X7_attempt a f v := (if_neg h1).trans (if_neg h2)
theorem mR_mono {B B' : Nat} (hB : B ≤ B') {v w : tmM} {bs : List Int32} {o o' : Option (Int32 × tmM)} (h : mR B v bs w o o') : mR B' v bs w o o' := by
  obtain ⟨k, v', w', a1, a2, a3, a4, a5⟩ := h
  exact ⟨k, v', w', a1, a2, a3, mG_mono hB a4, a5⟩
section
variable {B : Nat} {v w : tmM} {bs : List Int32}
theorem mg_one (h : mG B v bs w) {i : Nat} (hi : i < 30) (hc : mCm (v 253 i) (v 254 i) (v 255 i) (w 10 i) (w 11 i) (w 12 i)) : mR (B + 60) v bs w (mDo (v 253 i) (v 254 i) (v 255 i) v) (f_X8_doesCommand (nI i) w) := by
  have g30 : ∀ {β : Type} (x : Option β), tm_g (tm_ix (nI i) 30) x = x := fun x => ms_gi hi (by decide)
  have hB : B ≤ B + 60 := Nat.le_add_right _ _
  have e8 : ∀ y : Int32, w 10 i = y → f_X8_doesCommand (nI i) w = (if y = 0 then tm_g (tm_ix (nI i) 30) (tm_g (tm_ix (nI i) 30) (tm_cl (f_X8_puts (w 11 i) (w 12 i) w) fun r3 v2 => some (r3, v2))) else if y = 1 then tm_g (tm_ix (nI i) 30) (tm_cl (f_X8_removes (w 11 i) w) fun r6 v5 => some (r6, v5)) else if y = 2 then tm_cl (f_X8_begin w) fun r9 v8 => some (r9, v8) else if y = 3 then tm_g (tm_ix (nI i) 30) (tm_cl (f_X8_copiesChunks (w 11 i) w) fun r12 v11 => some (r12, v11)) else if y = 4 then tm_g (tm_ix (nI i) 30) (tm_cl (f_X8_repairs (w 11 i) w) fun r15 v14 => some (r15, v14)) else if y = 5 then tm_g (tm_ix (nI i) 30) (tm_cl (f_X8_checks (w 11 i) w) fun r18 v17 => some (r18, v17)) else if y = 6 then tm_g (tm_ix (nI i) 30) (tm_cl (f_X8_switches (w 11 i) w) fun r21 v20 => some (r21, v20)) else if y = 7 then tm_g (tm_ix (nI i) 30) (tm_cl (f_X8_switchesBack (w 11 i) w) fun r24 v23 => some (r24, v23)) else if y = 8 then tm_cl (f_X8_lead w) fun r27 v26 => some (r27, v26) else if y = 9 then tm_g (tm_ix (nI i) 30) ((if (w 11 i) = 0 then f_X8_doesCommand_172 1 w else f_X8_doesCommand_172 0 w)) else if y = 10 then tm_cl (f_X8_stop w) fun r33 v32 => some (r33, v32) else tm_cl (f_X8_finish w) fun r36 v35 => some (r36, v35)) := fun y hy => by
    unfold f_X8_doesCommand
    rw [g30, nI_clamp (by omega), tS_lt, hy]
  have e172 : ∀ s, f_X8_doesCommand_172 s w = f_X8_goesBack s w := fun s => mz_idI
  rcases hc with ⟨k, p, hk, hp, a, f, s, c, x, y⟩ | ⟨k, hk, a, f, c, x⟩ | ⟨a, f, c⟩ | ⟨m, hm, a, f, c, x⟩ | ⟨m, hm, a, f, c, x⟩ | ⟨m, hm, a, f, c, x⟩ | ⟨m, hm, a, f, c, x⟩ | ⟨m, hm, a, f, c, x⟩ | ⟨a, f, c⟩ | ⟨a, f, c, x⟩ | ⟨a, f, c, x⟩ | ⟨a, f, c⟩ | ⟨a, f, c⟩
  · rw [a, f, s, mDo_w, e8 _ c, if_pos rfl, g30, g30, x, y, mz_idI]
    exact mg_put h hk hp
  · rw [a, f, mDo_r, e8 _ c, if_neg (by decide), if_pos rfl, g30, x, mz_idI]
    exact mg_remove h hk
  · rw [a, f, mDo_a (by decide) (by decide), e8 _ c, if_neg (by decide), if_neg (by decide), if_pos rfl, mz_idI]
    exact mR_mono hB (mR_reg (mg_begin h))
  · rw [a, f, mDo_a (by decide) (by decide), e8 _ c, if_neg (by decide), if_neg (by decide), if_neg (by decide), if_pos rfl, g30, x, mz_idI]
    exact mR_mono hB (mg_copy h hm)
  · rw [a, f, mDo_a (by decide) (by decide), e8 _ c, if_neg (by decide), if_neg (by decide), if_neg (by decide), if_neg (by decide), if_pos rfl, g30, x, mz_idI]
    exact mR_mono hB (mg_repair h hm)
  · rw [a, f, mDo_a (by decide) (by decide), e8 _ c, if_neg (by decide), if_neg (by decide), if_neg (by decide), if_neg (by decide), if_neg (by decide), if_pos rfl, g30, x, mz_idI]
    exact mR_mono hB (mg_check h hm)
  · rw [a, f, mDo_a (by decide) (by decide), e8 _ c, if_neg (by decide), if_neg (by decide), if_neg (by decide), if_neg (by decide), if_neg (by decide), if_neg (by decide), if_pos rfl, g30, x, mz_idI]
    exact mR_mono hB (mg_over h hm)
  · rw [a, f, mDo_a (by decide) (by decide), e8 _ c, if_neg (by decide), if_neg (by decide), if_neg (by decide), if_neg (by decide), if_neg (by decide), if_neg (by decide), if_neg (by decide), if_pos rfl, g30, x, mz_idI]
    exact mR_mono hB (mg_back h hm)
  · rw [a, f, mDo_a (by decide) (by decide), e8 _ c, if_neg (by decide), if_neg (by decide), if_neg (by decide), if_neg (by decide), if_neg (by decide), if_neg (by decide), if_neg (by decide), if_neg (by decide), if_pos rfl, mz_idI]
    exact mR_mono hB (mR_reg (mg_lead h))
  · rw [a, f, mDo_a (by decide) (by decide), e8 _ c, if_neg (by decide), if_neg (by decide), if_neg (by decide), if_neg (by decide), if_neg (by decide), if_neg (by decide), if_neg (by decide), if_neg (by decide), if_neg (by decide), if_pos rfl, g30, x, if_pos rfl, e172]
    exact mR_mono hB (mg_keepBack h)
  · rw [a, f, mDo_a (by decide) (by decide), e8 _ c, if_neg (by decide), if_neg (by decide), if_neg (by decide), if_neg (by decide), if_neg (by decide), if_neg (by decide), if_neg (by decide), if_neg (by decide), if_neg (by decide), if_pos rfl, g30, x, if_neg (by decide), e172]
    exact mR_mono hB (mg_forget h)
  · rw [a, f, mDo_a (by decide) (by decide), e8 _ c, if_neg (by decide), if_neg (by decide), if_neg (by decide), if_neg (by decide), if_neg (by decide), if_neg (by decide), if_neg (by decide), if_neg (by decide), if_neg (by decide), if_neg (by decide), if_pos rfl, mz_idI]
    exact mR_mono hB (mR_reg (mg_stop h))
  · rw [a, f, mDo_a (by decide) (by decide), e8 _ c, if_neg (by decide), if_neg (by decide), if_neg (by decide), if_neg (by decide), if_neg (by decide), if_neg (by decide), if_neg (by decide), if_neg (by decide), if_neg (by decide), if_neg (by decide), if_neg (by decide), mz_idI]
    exact mR_mono hB (mR_reg (mg_finish h))
end
/-- the commands, one after the other -/
theorem mg_run {n : Nat} (hn : n ≤ 30) {bs : List Int32} : ∀ (d i F7 F8 B : Nat) (v w : tmM), d + i = n → d < F7 → d < F8 → mG B v bs w → v 251 5 = nI n → w 0 24 = nI n → (∀ j, j < n → mCm (v 253 j) (v 254 j) (v 255 j) (w 10 j) (w 11 j) (w 12 j)) → ∃ r v' w', f_X7_runScript_29 (fun v14 => some (v14 251 5, v14)) F7 (nI i) v = some (r, v') ∧ f_X8_runScript_66 (fun x14 v15 => some (x14, v15)) F8 (nI i) w = some (r, w') ∧ mG (B + 60 * d) v' bs w' := by
  intro d
  induction d with
  | zero =>
    intro i F7 F8 B v w hd hF7 hF8 h h5 h24 hc
    obtain ⟨F7, rfl⟩ : ∃ G, F7 = G + 1 := ⟨F7 - 1, by omega⟩
    obtain ⟨F8, rfl⟩ : ∃ G, F8 = G + 1 := ⟨F8 - 1, by omega⟩
    have hi : i = n := by omega
    refine ⟨nI i, v, w, ?_, ?_, h⟩
    · show f_X7_runScript_29b _ _ (nI i) v = _
      unfold f_X7_runScript_29b
      rw [if_pos (show v 251 5 ≤ nI i by rw [h5]; exact nI_le (by omega) (by omega))]
      show some (v 251 5, v) = _
      rw [h5, hi]
    · show f_X8_runScript_66b _ _ (nI i) w = _
      unfold f_X8_runScript_66b
      rw [if_pos (show w 0 24 ≤ nI i by rw [h24]; exact nI_le (by omega) (by omega))]
  | succ d ih =>
    intro i F7 F8 B v w hd hF7 hF8 h h5 h24 hc
    obtain ⟨F7, rfl⟩ : ∃ G, F7 = G + 1 := ⟨F7 - 1, by omega⟩
    obtain ⟨F8, rfl⟩ : ∃ G, F8 = G + 1 := ⟨F8 - 1, by omega⟩
    have g30 : ∀ {β : Type} (x : Option β), tm_g (tm_ix (nI i) 30) x = x := fun x => ms_gi (by omega) (by decide)
    obtain ⟨k, v1, w1, hk, a1, a2, a3, a4⟩ := mg_one h (i := i) (by omega) (hc i (by omega))
    have s7 : f_X7_runScript_29 (fun v14 => some (v14 251 5, v14)) (F7 + 1) (nI i) v = f_X7_runScript_128 (fun v14 => some (v14 251 5, v14)) (f_X7_runScript_29 (fun v14 => some (v14 251 5, v14)) F7) (nI i) (nI k) v1 := by
      show f_X7_runScript_29b _ _ (nI i) v = _
      unfold f_X7_runScript_29b
      rw [if_neg (show ¬ v 251 5 ≤ nI i by rw [h5]; exact nI_ge (by omega) (by omega)), g30, nI_clamp (by omega), tS_lt, g30, tS_lt]
      unfold mDo at a1
      by_cases q1 : v 253 i = 11
      · rw [if_pos q1] at a1 ⊢
        rw [g30, ms_cl a1]
      · rw [if_neg q1] at a1 ⊢
        by_cases q2 : v 253 i = 12
        · rw [if_pos q2] at a1 ⊢
          rw [ms_cl a1]
        · rw [if_neg q2] at a1 ⊢
          rw [ms_cl a1]
    have s8 : f_X8_runScript_66 (fun x14 v15 => some (x14, v15)) (F8 + 1) (nI i) w = if nI k = 0 then f_X8_runScript_66 (fun x14 v15 => some (x14, v15)) F8 (nI (i + 1)) w1 else some (nI i, w1) := by
      show f_X8_runScript_66b _ _ (nI i) w = _
      unfold f_X8_runScript_66b
      rw [if_neg (show ¬ w 0 24 ≤ nI i by rw [h24]; exact nI_ge (by omega) (by omega)), ms_cl a2, nI_1]
    by_cases k0 : k = 0
    · subst k0
      obtain ⟨r, v', w', b1, b2, b3⟩ := ih (i + 1) F7 F8 (B + 60) v1 w1 (by omega) (by omega) (by omega) a3 (by rw [a4.1 251 (by decide)]; exact h5) (by rw [a4.2.2.1 24 (by decide) (by decide)]; exact h24) (fun j hj => by
        rw [a4.1 253 (by decide), a4.1 254 (by decide), a4.1 255 (by decide), a4.2.1 10 (by decide), a4.2.1 11 (by decide), a4.2.1 12 (by decide)]
        exact hc j hj)
      refine ⟨r, v', w', s7.trans ?_, s8.trans ?_, mG_mono (by omega) b3⟩
      · unfold f_X7_runScript_128
        rw [if_pos (show nI 0 = 0 from rfl), nI_1]
        exact b1
      · rw [if_pos (show nI 0 = 0 from rfl)]
        exact b2
    · refine ⟨nI i, v1, w1, s7.trans ?_, s8.trans ?_, mG_mono (by omega) a3⟩
      · unfold f_X7_runScript_128
        rw [if_neg (nI_ne0 (by omega) (by omega))]
      · rw [if_neg (nI_ne0 (by omega) (by omega))]
theorem mG_txt {B : Nat} {v w v' w' : tmM} {bs : List Int32} (h : mG B v bs w) (h1 : ∀ c, c < 251 → v' c = v c) (h2 : ∀ c, 1 ≤ c → c ≤ 9 → w' c = w c) (h3 : w' 0 3 = w 0 3) (h13 : w' 0 13 = w 0 13) (hT : gT v' w') : mG B v' bs w' := by
  obtain ⟨p1, p2, p3, p4, p5, p6, p7⟩ := h
  refine ⟨rP_ext (fun c j hc => ?_) (fun j _ => ?_) p1, gH_ext (Nat.le_refl B) (fun c _ a => h1 c (by omega)) (by rw [h1 247 (by decide)]) (by rw [h1 247 (by decide)]) h3 (h2 2 (by decide) (by decide)) p2, gS_ext (Nat.le_refl B) (fun c _ a => h1 c (by omega)) (by rw [h1 247 (by decide)]) (h2 4 (by decide) (by decide)) (h2 3 (by decide) (by decide)) p3, gA_ext (h1 250 (by decide)) (h2 5 (by decide) (by decide)) p4, hT, gO_ext h13 (h2 6 (by decide) (by decide)) p6, gC_ext (h2 7 (by decide) (by decide)) (h2 9 (by decide) (by decide)) p7⟩
  · have : c < 19 := by unfold mU at hc; omega
    rw [h1 c (by omega)]
  · rw [h2 1 (by decide) (by decide)]
theorem mt_runScript {B B' : Nat} (hB : B + 1800 ≤ B') {v w : tmM} {bs : List Int32} (h : mG B v bs w) : ∃ (r : Int32) (v' w' : tmM), f_X7_runScript v = some (r, v') ∧ f_X8_runScript w = some (r, w') ∧ mG B' v' bs w' := by
  obtain ⟨⟨t, t1, t2, t3, t4⟩, _, _⟩ := h.2.2.2.2.1
  have hT : pT t v w := ⟨t1, t2, t3, t4, h.2.2.2.2.2.2⟩
  generalize hv4 : tm_up (tm_up (tm_up (tm_up v 251 5 0) 251 6 0) 251 7 (-1)) 251 10 0 = v4
  generalize hw4 : tm_up (tm_up (tm_up (tm_up w 0 17 0) 0 21 0) 0 22 (-1)) 0 24 0 = w4
  have a1 : ∀ c, c ≠ 251 → v4 c = v c := fun c hc => by rw [← hv4, tu_ne _ _ _ hc, tu_ne _ _ _ hc, tu_ne _ _ _ hc, tu_ne _ _ _ hc]
  have a2 : ∀ j, j ≠ 5 → j ≠ 6 → j ≠ 7 → j ≠ 10 → v4 251 j = v 251 j := fun j p q r s => by rw [← hv4, mu_ne (by omega), mu_ne (by omega), mu_ne (by omega), mu_ne (by omega)]
  have a3 : ∀ c, c ≠ 0 → w4 c = w c := fun c hc => by rw [← hw4, tu_ne _ _ _ hc, tu_ne _ _ _ hc, tu_ne _ _ _ hc, tu_ne _ _ _ hc]
  have a4 : ∀ j, j ≠ 17 → j ≠ 21 → j ≠ 22 → j ≠ 24 → w4 0 j = w 0 j := fun j p q r s => by rw [← hw4, mu_ne (by omega), mu_ne (by omega), mu_ne (by omega), mu_ne (by omega)]
  have b5 : v4 251 5 = nI 0 := by rw [← hv4, mu_ne (by omega), mu_ne (by omega), mu_ne (by omega), mu_eq]; rfl
  have b6 : v4 251 6 = 0 := by rw [← hv4, mu_ne (by omega), mu_ne (by omega), mu_eq]
  have b7 : v4 251 7 = -1 := by rw [← hv4, mu_ne (by omega), mu_eq]
  have b10 : v4 251 10 = nI 0 := by rw [← hv4, mu_eq]; rfl
  have b17 : w4 0 17 = nI 0 := by rw [← hw4, mu_ne (by omega), mu_ne (by omega), mu_ne (by omega), mu_eq]; rfl
  have b21 : w4 0 21 = 0 := by rw [← hw4, mu_ne (by omega), mu_ne (by omega), mu_eq]
  have b22 : w4 0 22 = -1 := by rw [← hw4, mu_ne (by omega), mu_eq]
  have b24 : w4 0 24 = nI 0 := by rw [← hw4, mu_eq]; rfl
  have hT4 : pT t v4 w4 := pT_ext (a2 1 (by decide) (by decide) (by decide) (by decide)) (a1 252 (by decide)) (a4 16 (by decide) (by decide) (by decide) (by decide)) (a3 8 (by decide)) (a3 7 (by decide)) (a3 9 (by decide)) hT
  obtain ⟨s', e', v5, w5, c1, c2, c3, c4⟩ := pk_tok hT4 (e := 0) b10 b17 (Nat.zero_le t)
  have hS : pS t 0 v5 w5 := ⟨pT_ext (c4.2.1 1 (by decide) (by decide) (by decide)) (c4.1 252 (by decide)) (c4.2.2.2 16 (by decide)) (c4.2.2.1 8 (by decide)) (c4.2.2.1 7 (by decide)) (c4.2.2.1 9 (by decide)) hT4, ⟨by decide, (c4.2.1 5 (by decide) (by decide) (by decide)).trans b5, (c4.2.2.2 24 (by decide)).trans b24, fun i hi => absurd hi (by omega)⟩, ⟨by rw [c4.2.1 6 (by decide) (by decide) (by decide), c4.2.2.2 21 (by decide), b6, b21], by rw [c4.2.1 7 (by decide) (by decide) (by decide), c4.2.2.2 22 (by decide), b7, b22], 0, by decide, by rw [c4.2.2.2 21 (by decide), b21]; rfl⟩, s', e', c3⟩
  obtain ⟨n, v6, w6, d1, d2, d3, d4⟩ := ps_loop 31 0 10000 10000 v5 w5 rfl (by decide) (by decide) hS
  have e7 : f_X3_parse v = some ((), v6) := by
    unfold f_X3_parse
    rw [tS_lt, tS_lt, tS_lt, tS_lt, hv4, ms_cl c1]
    exact d1 (fun v9 => some ((), v9))
  have e8 : f_X8_runScript w = f_X8_runScript_45 w6 := by
    unfold f_X8_runScript
    rw [tS_lt, tS_lt, tS_lt, tS_lt, hw4, ms_cl c2]
    exact d2 (fun v9 => f_X8_runScript_45 v9)
  generalize hv7 : tm_up v6 251 1 0 = v7
  generalize hw7 : tm_up (tm_up w6 0 16 0) 0 0 0 = w7
  have f6 : v7 251 6 = v6 251 6 := by rw [← hv7, mu_ne (by omega)]
  have f7 : v7 251 7 = v6 251 7 := by rw [← hv7, mu_ne (by omega)]
  have f21 : w7 0 21 = w6 0 21 := by rw [← hw7, mu_ne (by omega), mu_ne (by omega)]
  have f22 : w7 0 22 = w6 0 22 := by rw [← hw7, mu_ne (by omega), mu_ne (by omega)]
  have fw : ∀ c, c ≠ 0 → w7 c = w6 c := fun c hc => by rw [← hw7, tu_ne _ _ _ hc, tu_ne _ _ _ hc]
  have fv : ∀ c, c ≠ 251 → v7 c = v6 c := fun c hc => by rw [← hv7, tu_ne _ _ _ hc]
  have g : mG B v7 bs w7 := by
    refine mG_txt h (fun c hc => ?_) (fun c p q => ?_) ?_ ?_ ⟨⟨0, by decide, ?_, ?_, fun i hi => absurd hi (by omega)⟩, ?_, ?_⟩
    · rw [fv c (by omega), d4.1 c (by omega) (by omega) (by omega) (by omega), c4.1 c (by omega), a1 c (by omega)]
    · rw [fw c (by omega), d4.2.2.1 c (by omega) (by omega) (by omega) (by omega), c4.2.2.1 c (by omega), a3 c (by omega)]
    · rw [← hw7, mu_ne (by omega), mu_ne (by omega), d4.2.2.2 3 (by decide), c4.2.2.2 3 (by decide), a4 3 (by decide) (by decide) (by decide) (by decide)]
    · rw [← hw7, mu_ne (by omega), mu_ne (by omega), d4.2.2.2 13 (by decide), c4.2.2.2 13 (by decide), a4 13 (by decide) (by decide) (by decide) (by decide)]
    · rw [← hv7, mu_eq]; rfl
    · rw [← hw7, mu_ne (by omega), mu_eq]; rfl
    · rw [f6, f21]; exact d3.2.2.1.1
    · rw [f7, f22]; exact d3.2.2.1.2.1
  have r7 : f_X7_runScript v = (if (v7 251 6) = 0 then f_X7_runScript_29 (fun v14 => some (v14 251 5, v14)) 10000 0 v7 else some ((-1), v7)) := by
    unfold f_X7_runScript
    rw [ms_cl e7, tS_lt, hv7]
  have r8 : f_X8_runScript w = (if (w7 0 21) ≤ 0 then f_X8_runScript_66 (fun x14 v15 => some (x14, v15)) 10000 0 w7 else some ((-1), w7)) := by
    rw [e8]
    unfold f_X8_runScript_45
    rw [tS_lt, tS_lt, hw7]
  rw [r7, r8, f6, f21]
  by_cases z : v6 251 6 = 0
  · have hn := d3.2.1.1
    rw [if_pos z, if_pos (show w6 0 21 ≤ 0 by rw [← ps_e6 d3, z]; decide)]
    obtain ⟨r, v', w', x1, x2, x3⟩ := mg_run hn n 0 10000 10000 B v7 w7 (by omega) (by omega) (by omega) g (by rw [← hv7, mu_ne (by omega)]; exact d3.2.1.2.1) (by rw [← hw7, mu_ne (by omega), mu_ne (by omega)]; exact d3.2.1.2.2.1) (fun j hj => by
      rw [fv 253 (by decide), fv 254 (by decide), fv 255 (by decide), fw 10 (by decide), fw 11 (by decide), fw 12 (by decide)]
      exact d3.2.1.2.2.2 j hj)
    exact ⟨r, v', w', x1, x2, mG_mono (by omega) x3⟩
  · rw [if_neg z, if_neg (ps_gt d3 z)]
    exact ⟨-1, v7, w7, rfl, rfl, mG_mono (by omega) g⟩
