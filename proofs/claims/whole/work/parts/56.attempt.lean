/-! ===== an attempt: the reason, the account, the history, the act ===== -/
def mKq (v w v' w' : tmM) : Prop := (∀ c, 251 ≤ c → v' c = v c) ∧ (∀ c, 6 ≤ c → w' c = w c) ∧ (∀ j, j ≠ 0 → j ≠ 3 → w' 0 j = w 0 j) ∧ (w 0 0 = 0 → w' 0 0 = 0)
theorem mKq.refl (v w : tmM) : mKq v w v w := ⟨fun _ _ => rfl, fun _ _ => rfl, fun _ _ _ => rfl, id⟩
theorem mKq.trans {v w v1 w1 v2 w2 : tmM} (h : mKq v w v1 w1) (k : mKq v1 w1 v2 w2) : mKq v w v2 w2 := ⟨fun c hc => (k.1 c hc).trans (h.1 c hc), fun c hc => (k.2.1 c hc).trans (h.2.1 c hc), fun j a b => (k.2.2.1 j a b).trans (h.2.2.1 j a b), fun q => k.2.2.2 (h.2.2.2 q)⟩
theorem mKq.of {v w v' w' : tmM} (h : mFr v w v' w') : mKq v w v' w' := ⟨fun c hc => h.1 c (by omega), fun c hc => h.2 c (by omega), fun j _ _ => by rw [h.2 0 (by decide)], fun q => by rw [h.2 0 (by decide)]; exact q⟩
theorem mKq.reg (v w : tmM) : mKq v w v (tm_up w 0 0 0) := ⟨fun _ _ => rfl, fun c hc => tu_ne _ _ _ (by omega), fun j a _ => mu_ne (by omega), fun _ => mu_eq _ _ _ _⟩
/-- what both sides answer, related -/
def mR (B : Nat) (v : tmM) (bs : List Int32) (w : tmM) (o o' : Option (Int32 × tmM)) : Prop := ∃ k v' w', k < 10 ∧ o = some (nI k, v') ∧ o' = some (nI k, w') ∧ mG B v' bs w' ∧ mKq v w v' w'
theorem mG_do {B : Nat} {v w : tmM} {bs : List Int32} (h : mG B v bs w) : ∃ v' w', f_X7_remember (tm_up v 250 0 (v 250 0 + 1)) = some ((), v') ∧ f_X8_does w = some (0, w') ∧ mG B v' bs w' ∧ (∀ c, c < 19 → v' c = v c) ∧ w' 1 = w 1 ∧ mKq v w v' w' := by
  have h0 := h
  obtain ⟨h1, h2, h3, h4, h5, h6, h7⟩ := h0
  have ev : ∀ c, c ≠ 250 → tm_up v 250 0 (v 250 0 + 1) c = v c := fun c hc => tu_ne _ _ _ hc
  have hP : rP B (tm_up v 250 0 (v 250 0 + 1)) (w 1) := rP_ext (fun c j hc => by rw [ev c (by unfold mU at hc; omega)]) (fun _ _ => rfl) h1
  have hH : gH B (tm_up v 250 0 (v 250 0 + 1)) w := gH_ext (Nat.le_refl B) (fun c _ _ => ev c (by omega)) (by rw [ev 247 (by decide)]) (by rw [ev 247 (by decide)]) rfl rfl h2
  obtain ⟨v', w', b1, b2, b3, c1, c2, c3, c4⟩ := mk_rem hP hH
  have d1 : ∀ c, c < 19 → v' c = v c := fun c hc => (c1 c (by omega)).trans (ev c (by omega))
  have ew : ∀ c, c ≠ 5 → tm_up w' 5 0 (w' 5 0 + 1) c = w' c := fun c hc => tu_ne _ _ _ hc
  have e0 := ew 0 (by decide)
  have d2 : w' 1 = w 1 := c3 1 (by decide) (by decide)
  refine ⟨v', tm_up w' 5 0 (w' 5 0 + 1), b1, ?_, ⟨?_, gH_ext (Nat.le_refl B) (fun _ _ _ => rfl) rfl rfl (by rw [e0]) (ew 2 (by decide)) b3, gS_ext (Nat.le_refl B) (fun c x y => (c1 c (by omega)).trans (ev c (by omega))) ((c2 5 (by decide) (by decide)).trans (by rw [ev 247 (by decide)])) ((ew 4 (by decide)).trans (c3 4 (by decide) (by decide))) ((ew 3 (by decide)).trans (c3 3 (by decide) (by decide))) h3, fun i hi => ?_, gT_ext ((c1 251 (by omega)).trans (ev 251 (by decide))) ((c1 252 (by omega)).trans (ev 252 (by decide))) ((ew 8 (by decide)).trans (c3 8 (by decide) (by decide))) (by rw [e0]; exact c4 16 (by decide)) (by rw [e0]; exact c4 21 (by decide)) (by rw [e0]; exact c4 22 (by decide)) h5, gO_ext (by rw [e0]; exact c4 13 (by decide)) ((ew 6 (by decide)).trans (c3 6 (by decide) (by decide))) h6, gC_ext ((ew 7 (by decide)).trans (c3 7 (by decide) (by decide))) ((ew 9 (by decide)).trans (c3 9 (by decide) (by decide))) h7⟩, d1, (ew 1 (by decide)).trans d2, ⟨fun c hc => (c1 c (by omega)).trans (ev c (by omega)), fun c hc => (ew c (by omega)).trans (c3 c (by omega) (by omega)), fun j a b => by rw [e0]; exact c4 j b, fun q => by rw [e0, c4 0 (by decide)]; exact q⟩⟩
  · unfold f_X8_does
    rw [ms_cl b2, ms_g (by decide), ms_g (by decide), tS_lt, show (0 : Int32).toNatClampNeg = 0 from rfl]
  · rw [ew 1 (by decide), d2]
    exact rP_ext (fun c j hc => by rw [d1 c (by unfold mU at hc; omega)]) (fun _ _ => rfl) h1
  · rw [c1 250 (by omega), mu_if, mu_if, c3 5 (by decide) (by decide)]
    by_cases q : i = 0
    · rw [if_pos ⟨rfl, q⟩, if_pos ⟨rfl, q⟩, h4 0 (by decide)]
    · rw [if_neg (by omega), if_neg (by omega)]; exact h4 i hi
theorem mG_no {B : Nat} {v w : tmM} {bs : List Int32} (h : mG B v bs w) {k : Nat} (hk : k < 10) : ∃ w', f_X8_refuses (nI k) w = some (nI k, w') ∧ mG B (tm_up v 250 k (v 250 k + 1)) bs w' ∧ mKq v w (tm_up v 250 k (v 250 k + 1)) w' := by
  refine ⟨tm_up w 5 k (w 5 k + 1), ?_, mG_acc h hk, ⟨fun c hc => tu_ne _ _ _ (by omega), fun c hc => tu_ne _ _ _ (by omega), fun j _ _ => mu_ne (by omega), fun q => (mu_ne (by omega)).trans q⟩⟩
  unfold f_X8_refuses
  rw [ms_gi hk (by decide), ms_gi hk (by decide), tS_lt, nI_clamp (by omega)]
theorem mz_id {o : Option (Unit × tmM)} : tm_cl o (fun _ v => some ((), v)) = o := by
  rcases o with _ | ⟨⟨⟩, v⟩ <;> rfl
theorem mz_idI {o : Option (Int32 × tmM)} : tm_cl o (fun r v => some (r, v)) = o := by
  rcases o with _ | ⟨r, v⟩ <;> rfl
/-- the shape of an act of the reference -/
def mSha (why : tmM → Option (Int32 × tmM)) (body : Int32 → tmM → Option (Int32 × tmM)) (w : tmM) : Option (Int32 × tmM) := tm_cl (why w) fun r2 v1 => (if r2 ≤ 0 then tm_cl (f_X8_does v1) fun r4 v3 => body r4 v3 else tm_cl (why v1) fun r13 v12 => tm_cl (f_X8_refuses r13 v12) fun r15 v14 => some (r15, v14))
theorem mg_act {B : Nat} {v w : tmM} {bs : List Int32} {why : tmM → Option (Int32 × tmM)} {body : Int32 → tmM → Option (Int32 × tmM)} {a x : Int32} {P : Nat → Prop} (h : mG B v bs w) (hw : mW (f_X4_reasonAgainst a x v) (why w) v w P) (hb : P 0 → ∀ v1 w1, rP B v1 (w1 1) → (∀ c, c < 19 → v1 c = v c) → w1 1 = w 1 → ∃ v' w', f_X4_perform a x v1 = some ((), v') ∧ body 0 w1 = some (0, w') ∧ rP B v' (w' 1) ∧ mFr v1 w1 v' w') : mR B v bs w (f_X7_attempt a x v) (mSha why body w) := by
  obtain ⟨k, hk, w1, w2, w3⟩ := hw
  unfold f_X7_attempt mSha
  rw [ms_cl w1, ms_gi hk (by decide), ms_gi hk (by decide), tS_lt, nI_clamp (by omega), ms_cl w2]
  by_cases h0 : k = 0
  · subst h0
    obtain ⟨v1, u1, b1, b2, b3, b4, b5, b6⟩ := mG_do h
    obtain ⟨v', w', c1, c2, c3, c4⟩ := hb w3 v1 u1 b3.1 b4 b5
    rw [if_pos (show nI 0 = 0 from rfl), if_pos (show nI 0 ≤ 0 by decide), ms_cl b1, ms_cl b2, ms_cl c1]
    exact ⟨0, v', w', by decide, rfl, c2, mG_step (Nat.le_refl B) b3 c4 c3, b6.trans (mKq.of c4)⟩
  · obtain ⟨w', c1, c2, c3⟩ := mG_no h hk
    rw [if_neg (nI_ne0 (by omega) (by omega)), if_neg (nI_nle (by omega) (by omega)), ms_cl w2, ms_cl c1]
    exact ⟨k, _, w', hk, rfl, rfl, c2, c3⟩
theorem mz_q {n : Nat} {v w v1 w1 : tmM} (hv : ∀ c, c < 19 → v1 c = v c) (hw : w1 1 = w 1) (h : rQn n v1 (w1 1)) : rQn n v (w 1) := rQn_ext (fun c j hc => by rw [hv c (by omega)]) (fun j _ => by rw [hw]) h
section
variable {B : Nat} {v w : tmM} {bs : List Int32}
theorem mG_0 (h : mG B v bs w) : mG B v bs (tm_up w 0 0 0) := mG_reg h (by decide) 0
theorem mR_reg {o o' : Option (Int32 × tmM)} (h : mR B v bs (tm_up w 0 0 0) o o') : mR B v bs w o o' := by
  obtain ⟨k, v', w', a1, a2, a3, a4, a5⟩ := h
  exact ⟨k, v', w', a1, a2, a3, a4, (mKq.reg v w).trans a5⟩
theorem mg_begin (h : mG B v bs w) : mR B v bs (tm_up w 0 0 0) (f_X7_attempt 0 0 v) (f_X8_begin w) := by
  have hr : ∀ x, f_X4_reasonAgainst 0 x v = f_X4_reasonAgainstBegin v := fun x => mz_idI
  have h0 := mG_0 h
  refine mg_act (why := f_X8_whyBegin) (body := fun r5 v4 => tm_cl (f_X8_endsBoth v4) fun _ v6 => tm_cl (f_X8_becomesPhase 1 v6) fun _ v8 => some (r5, v8)) h0 (by rw [hr]; exact mw_begin h0.1) ?_
  intro hp v1 w1 hP hv hw
  obtain ⟨v', w', a1, a2, a3, a4⟩ := ma_begin hP (by rw [hv 0 (by decide)]; exact hp rfl)
  exact ⟨v', w', (show f_X4_perform 0 0 v1 = f_X4_enter 1 v1 from mz_id).trans a1, a2, a3, a4⟩
theorem mg_copy (h : mG B v bs w) {m : Nat} (hm : m < 16) : mR B v bs w (f_X7_attempt 1 (nI m) v) (f_X8_copiesChunks (nI m) w) := by
  have hr : ∀ x, f_X4_reasonAgainst 1 x v = f_X4_reasonAgainstCopy v := fun x => mz_idI
  refine mg_act (why := f_X8_whyCopy) (body := fun r4 v3 => f_X8_copiesChunks_26 (fun x18 v19 => some (x18, v19)) 10000 r4 (nI m) 0 v3) h (by rw [hr]; exact mw_copy h.1) ?_
  intro hp v1 w1 hP hv hw
  obtain ⟨v', w', a1, a2, a3, a4⟩ := ma_copy 15 0 10000 m v1 w1 rfl (by decide) hm hP (Or.inl (by rw [hv 0 (by decide)]; exact hp rfl))
  exact ⟨v', w', (show f_X4_perform 1 (nI m) v1 = f_X4_copyLowest (nI m) v1 from mz_id).trans a1, a2, a3, a4⟩
theorem mg_repair (h : mG B v bs w) {m : Nat} (hm : m < 16) : mR B v bs w (f_X7_attempt 2 (nI m) v) (f_X8_repairs (nI m) w) := by
  have hr : ∀ x, f_X4_reasonAgainst 2 x v = f_X4_reasonAgainstRepair v := fun x => mz_idI
  refine mg_act (why := f_X8_whyRepair) (body := fun r4 v3 => f_X8_repairs_23 (fun x10 v11 => some (x10, v11)) 10000 (nI m) r4 0 v3) h (by rw [hr]; exact mw_repair h.1) ?_
  intro hp v1 w1 hP hv hw
  obtain ⟨v', w', a1, a2, a3, a4⟩ := ma_repair hm m 0 10000 v1 w1 rfl (by omega) hP
  exact ⟨v', w', (show f_X4_perform 2 (nI m) v1 = f_X4_repairFirst (nI m) v1 from mz_id).trans a1, a2, a3, a4⟩
theorem mg_check (h : mG B v bs w) {c : Nat} (hc : c < 15) : mR B v bs w (f_X7_attempt 3 (nI c) v) (f_X8_checks (nI c) w) := by
  have hr : ∀ x, f_X4_reasonAgainst 3 x v = f_X4_reasonAgainstCheck x v := fun x => mz_idI
  refine mg_act (why := f_X8_whyCheck (nI c)) (body := fun r4 v3 => tm_cl (f_X8_sumOf 0 (nI c) v3) fun r6 v5 => tm_cl (f_X8_sumOf 1 (nI c) v5) fun r8 v7 => (if r6 = r8 then f_X8_checks_43 (nI c) r4 1 v7 else f_X8_checks_43 (nI c) r4 0 v7)) h (by rw [hr]; exact mw_check h.1 (nI c)) ?_
  intro hp v1 w1 hP hv hw
  obtain ⟨p1, p2⟩ := hp rfl
  obtain ⟨v', w', a1, a2, a3, a4⟩ := ma_check hP hc (by rw [hv 0 (by decide)]; exact p1) (fun n hq => by
    have := p2 n (mz_q hv hw hq)
    rw [show mFold (mHe v1 (nI c)) n 0 0 = mFold (mHe v (nI c)) n 0 0 from mFold_congr _ _ _ (fun j _ _ x => by unfold mHe; rw [hv 9 (by decide)])]
    exact this)
  exact ⟨v', w', (show f_X4_perform 3 (nI c) v1 = f_X4_compareSums (nI c) v1 from mz_id).trans a1, a2, a3, a4⟩
theorem mg_over (h : mG B v bs w) {c : Nat} (hc : c < 8) : mR B v bs w (f_X7_attempt 4 (nI c) v) (f_X8_switches (nI c) w) := by
  have hr : ∀ x, f_X4_reasonAgainst 4 x v = f_X4_reasonAgainstSwitchOver x v := fun x => mz_idI
  refine mg_act (why := f_X8_whySwitch (nI c)) (body := fun r4 v3 => tm_g (tm_ix 5 491) (tm_g (tm_ix 5 491) (tm_lt (tm_up v3 1 (5 : Int32).toNatClampNeg ((v3 1 (5 : Int32).toNatClampNeg) ||| (1 <<< (nI c &&& 31)))) fun v5 => tm_cl (f_X8_notes 6 (nI c) v5) fun _ v6 => some (r4, v6)))) h (by rw [hr]; exact mw_switch h.1 (nI c)) ?_
  intro hp v1 w1 hP hv hw
  obtain ⟨v', w', a1, a2, a3, a4⟩ := ma_over hP hc
  exact ⟨v', w', (show f_X4_perform 4 (nI c) v1 = f_X4_turnToNew (nI c) v1 from mz_id).trans a1, (by rw [mr_g5, mr_g5, tS_lt, mr_n5]; exact a2), a3, a4⟩
theorem mg_back (h : mG B v bs w) {c : Nat} (hc : c < 8) : mR B v bs w (f_X7_attempt 5 (nI c) v) (f_X8_switchesBack (nI c) w) := by
  have hr : ∀ x, f_X4_reasonAgainst 5 x v = f_X4_reasonAgainstSwitchBack x v := fun x => mz_idI
  refine mg_act (why := f_X8_whyBack (nI c)) (body := fun r4 v3 => tm_g (tm_ix 5 491) (tm_g (tm_ix 5 491) (tm_lt (tm_up v3 1 (5 : Int32).toNatClampNeg ((v3 1 (5 : Int32).toNatClampNeg) &&& ((1 <<< (nI c &&& 31)) ^^^ (-1)))) fun v5 => tm_cl (f_X8_notes 7 (nI c) v5) fun _ v6 => some (r4, v6)))) h (by rw [hr]; exact mw_back h.1 (nI c)) ?_
  intro hp v1 w1 hP hv hw
  obtain ⟨v', w', a1, a2, a3, a4⟩ := ma_back hP hc
  exact ⟨v', w', (show f_X4_perform 5 (nI c) v1 = f_X4_turnToOld (nI c) v1 from mz_id).trans a1, (by rw [mr_g5, mr_g5, tS_lt, mr_n5]; exact a2), a3, a4⟩
theorem mg_lead (h : mG B v bs w) : mR B v bs (tm_up w 0 0 0) (f_X7_attempt 6 0 v) (f_X8_lead w) := by
  have hr : ∀ x, f_X4_reasonAgainst 6 x v = f_X4_reasonAgainstLead v := fun x => mz_idI
  have h0 := mG_0 h
  refine mg_act (why := f_X8_whyLead) (body := fun r5 v4 => tm_cl (f_X8_copies 1 491 1 491 11 191 60 v4) fun _ v6 => tm_cl (f_X8_copies 1 491 1 491 71 251 60 v6) fun _ v8 => tm_g (tm_ix 8 491) (tm_lt (tm_up v8 1 (8 : Int32).toNatClampNeg 0) fun v10 => tm_g (tm_ix 9 491) (tm_lt (tm_up v10 1 (9 : Int32).toNatClampNeg 0) fun v11 => tm_cl (f_X8_becomesPhase 2 v11) fun _ v12 => some (r5, v12)))) h0 (by rw [hr]; exact mw_lead h0.1) ?_
  intro hp v1 w1 hP hv hw
  obtain ⟨v', w', a1, a2, a3, a4⟩ := ma_lead hP (by rw [hv 0 (by decide)]; exact (hp rfl).1)
  exact ⟨v', w', (show f_X4_perform 6 0 v1 = f_X4_letNewLead v1 from mz_id).trans a1, a2, a3, a4⟩
theorem mg_keepBack (h : mG B v bs w) : mR B v bs w (f_X7_attempt 7 0 v) (f_X8_goesBack 1 w) := by
  have hr : ∀ x, f_X4_reasonAgainst 7 x v = f_X4_reasonAgainstGoBack 1 v := fun x => mz_idI
  refine mg_act (why := f_X8_whyGoBack 1) (body := fun r4 v3 => (if (1 : Int32) = 0 then tm_cl (f_X8_copies 1 491 1 491 191 11 60 v3) fun _ v8 => tm_cl (f_X8_copies 1 491 1 491 251 71 60 v8) fun _ v10 => tm_g (tm_ix 7 491) (tm_lt (tm_up v10 1 (7 : Int32).toNatClampNeg 0) fun v12 => f_X8_goesBack_71 r4 v12) else f_X8_goesBack_71 r4 v3)) h (by rw [hr]; exact mw_goBack h.1 1) ?_
  intro hp v1 w1 hP hv hw
  obtain ⟨v', w', a1, a2, a3, a4⟩ := ma_old hP
  exact ⟨v', w', (show f_X4_perform 7 0 v1 = f_X4_letOldLead v1 from mz_id).trans a1, (by rw [if_neg mr_10]; exact a2), a3, a4⟩
theorem mg_forget (h : mG B v bs w) : mR B v bs w (f_X7_attempt 8 0 v) (f_X8_goesBack 0 w) := by
  have hr : ∀ x, f_X4_reasonAgainst 8 x v = f_X4_reasonAgainstGoBack 0 v := fun x => mz_idI
  refine mg_act (why := f_X8_whyGoBack 0) (body := fun r4 v3 => (if (0 : Int32) = 0 then tm_cl (f_X8_copies 1 491 1 491 191 11 60 v3) fun _ v8 => tm_cl (f_X8_copies 1 491 1 491 251 71 60 v8) fun _ v10 => tm_g (tm_ix 7 491) (tm_lt (tm_up v10 1 (7 : Int32).toNatClampNeg 0) fun v12 => f_X8_goesBack_71 r4 v12) else f_X8_goesBack_71 r4 v3)) h (by rw [hr]; exact mw_goBack h.1 0) ?_
  intro hp v1 w1 hP hv hw
  obtain ⟨v2, w2, a1, a2, a3, a4⟩ := ma_take hP (by rw [hv 0 (by decide)]; exact hp rfl)
  obtain ⟨v', w', b1, b2, b3, b4⟩ := ma_old a3
  refine ⟨v', w', ?_, ?_, b3, a4.trans b4⟩
  · show tm_cl (f_X4_forgetSinceLead v1) (fun _ v25 => tm_cl (f_X4_letOldLead v25) fun _ v27 => some ((), v27)) = _
    rw [ms_cl a1, ms_cl b1]
  · rw [if_pos rfl, a2]
    exact b2
theorem mg_stop (h : mG B v bs w) : mR B v bs (tm_up w 0 0 0) (f_X7_attempt 9 0 v) (f_X8_stop w) := by
  have hr : ∀ x, f_X4_reasonAgainst 9 x v = f_X4_reasonAgainstStop v := fun x => mz_idI
  have h0 := mG_0 h
  refine mg_act (why := f_X8_whyStop) (body := fun r5 v4 => tm_cl (f_X8_empties 71 v4) fun _ v6 => tm_cl (f_X8_endsBoth v6) fun _ v8 => tm_cl (f_X8_becomesPhase 0 v8) fun _ v10 => some (r5, v10)) h0 (by rw [hr]; exact mw_stop h0.1) ?_
  intro hp v1 w1 hP hv hw
  obtain ⟨v', w', a1, a2, a3, a4⟩ := ma_end hP (s := 1) (by decide) (p := 0) (Or.inl rfl)
  exact ⟨v', w', a1, a2, a3, a4⟩
theorem mg_finish (h : mG B v bs w) : mR B v bs (tm_up w 0 0 0) (f_X7_attempt 10 0 v) (f_X8_finish w) := by
  have hr : ∀ x, f_X4_reasonAgainst 10 x v = f_X4_reasonAgainstFinish v := fun x => mz_idI
  have h0 := mG_0 h
  refine mg_act (why := f_X8_whyFinish) (body := fun r5 v4 => tm_cl (f_X8_empties 11 v4) fun _ v6 => tm_cl (f_X8_endsBoth v6) fun _ v8 => tm_cl (f_X8_becomesPhase 3 v8) fun _ v10 => some (r5, v10)) h0 (by rw [hr]; exact mw_finish h0.1) ?_
  intro hp v1 w1 hP hv hw
  obtain ⟨v', w', a1, a2, a3, a4⟩ := ma_end hP (s := 0) (by decide) (p := 3) (Or.inr rfl)
  exact ⟨v', w', a1, a2, a3, a4⟩
end
