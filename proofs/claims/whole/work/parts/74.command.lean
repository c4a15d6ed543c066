/-! ===== a command of the script ===== -/
theorem mTE_12 {v : tmM} {s e o : Nat} (ho : o < 12) (h : mTE v s e 12 = true) : ¬ mTE v s e o = true := fun q => by
  have f : ∀ o, o < 12 → ¬ (pL o = pL 12 ∧ ∀ j, j < pL 12 → pW o j = pW 12 j) := by decide
  obtain ⟨a1, a2⟩ := mTE_iff.mp h
  obtain ⟨b1, b2⟩ := mTE_iff.mp q
  have e1 : pL o = pL 12 := b1.symm.trans a1
  exact f o ho ⟨e1, fun j hj => (b2 j (by omega)).symm.trans (a2 j hj)⟩
def pR (t n : Nat) (v w : tmM) (o o' : Option (Unit × tmM)) : Prop := ∃ n' v' w', o = some ((), v') ∧ o' = some ((), w') ∧ pS t n' v' w' ∧ pF v w v' w' ∧ (v' 251 6 = 0 → n' = n + 1)
def pA (o : Nat) (v : tmM) : Option (Unit × tmM) := tm_g (decide (o < 12)) ((if (tm_nums.getD o 0) < 1 then f_X3_parseCommand_70 o 0 v else tm_g (decide (o < 12)) (tm_g (decide (o < 12)) (tm_cl (f_X3_parseNumber (tm_lea.getD o 0) (tm_gre.getD o 0) v) fun r29 v28 => f_X3_parseCommand_70 o r29 v28))))
def pB (x : Int32) (w : tmM) : Option (Unit × tmM) := tm_cl (f_X8_readParameters x w) fun _ v10 => (if (v10 0 19) = 3 then f_X8_readCommand_86 1 v10 else f_X8_readCommand_86 0 v10)
theorem pp_ocs {β : Type} (o : Nat) (a : Option β) (b : Nat → Option β) : tm_oc (some o) a b = b o := Eq.trans rfl rfl
theorem pp_ocn {β : Type} (a : Option β) (b : Nat → Option β) : tm_oc none a b = a := Eq.trans rfl rfl
theorem ps_must1 (k : Int32) (w : tmM) : f_X8_must 1 k w = some ((), w) := by
  unfold f_X8_must
  rw [if_neg mr_10]
theorem ps_must0 {k : Int32} {w w' : tmM} (h : f_X8_fails k w = some ((), w')) : f_X8_must 0 k w = some ((), w') := by
  unfold f_X8_must
  rw [if_pos rfl, ms_cl h]
theorem pp_70 {o : Nat} (ho : o < 12) (h2 : tm_nums.getD o 0 < 2) {a : Int32} (ha : tm_act.getD o 0 = a) (h7 : ¬ a = 7) (f : Int32) (v : tmM) : f_X3_parseCommand_70 o f v = f_X3_parseCommand_130 f 0 a v := by
  have hg : decide (o < 12) = true := decide_eq_true ho
  unfold f_X3_parseCommand_70 f_X3_parseCommand_91
  rw [ms_g hg, if_pos h2, ms_g hg, tS_lt, ha, if_neg h7]
section
variable {t n : Nat} {v w : tmM}
theorem ps_e6 (h : pS t n v w) : v 251 6 = w 0 21 := h.2.2.1.1
theorem ps_e8 (h : pS t n v w) : v 251 8 = w 0 19 := by
  obtain ⟨_, _, _, s, e, hK⟩ := h
  exact hK.2.2.2.2.2.2.1
/-- an error that is there: nothing fails anew -/
theorem ps_stuck (h : pS t n v w) (z : ¬ v 251 6 = 0) (k : Int32) : f_X8_fails k w = some ((), w) := by
  have z8 : ¬ w 0 21 = 0 := by rw [← ps_e6 h]; exact z
  unfold f_X8_fails
  rw [if_neg z8]
theorem ps_gt (h : pS t n v w) (z : ¬ v 251 6 = 0) : ¬ w 0 21 ≤ 0 := by
  have z8 : ¬ w 0 21 = 0 := by rw [← ps_e6 h]; exact z
  obtain ⟨k, k1, k2⟩ := h.2.2.1.2.2
  rw [k2] at z8 ⊢
  by_cases y0 : k = 0
  · subst y0; exact absurd rfl z8
  · exact nI_nle (by omega) (by omega)
/-- the reference notes a number of the command that it reads -/
theorem ps_w (h : pS t n v w) {c : Nat} (hc : c = 10 ∨ c = 11 ∨ c = 12) (x : Int32) : pS t n v (tm_up w c n x) ∧ pF v w v (tm_up w c n x) := by
  obtain ⟨hT, hC, hE, s, e, hK⟩ := h
  have e0 : ∀ j, tm_up w c n x 0 j = w 0 j := fun j => mu_ne (by omega)
  have e1 : ∀ d, d ≠ 10 → d ≠ 11 → d ≠ 12 → tm_up w c n x d = w d := fun d a b f => tu_ne _ _ _ (by omega)
  exact ⟨⟨pT_ext rfl rfl (e0 16) (e1 8 (by decide) (by decide) (by decide)) (e1 7 (by decide) (by decide) (by decide)) (e1 9 (by decide) (by decide) (by decide)) hT, pC_ext rfl (e0 24) (fun i hi => ⟨rfl, rfl, rfl, mu_ne (by omega), mu_ne (by omega), mu_ne (by omega)⟩) hC, pE_ext rfl rfl (e0 21) (e0 22) hE, s, e, pK_ext (fun _ _ => rfl) rfl (fun j _ _ => e0 j) hK⟩, ⟨fun _ _ _ _ _ => rfl, rfl, fun d _ b f g => e1 d b f g, fun j _ => e0 j⟩⟩
/-- what comes behind the parameters -/
theorem ps_tail (h : pS t n v w) (hn : n < 30) {a f s : Int32} (hc : v 251 6 = 0 → mCm a f s (w 10 n) (w 11 n) (w 12 n)) : pR t n v w (f_X3_parseCommand_130 f s a v) (if w 0 19 = 3 then f_X8_readCommand_86 1 w else f_X8_readCommand_86 0 w) := by
  have e6 := ps_e6 h
  have e8 := ps_e8 h
  unfold pR f_X3_parseCommand_130 f_X8_readCommand_86
  rw [e8]
  by_cases k3 : w 0 19 = 3
  · rw [if_pos k3, if_pos k3, ms_cl (ps_must1 1 w)]
    unfold f_X3_parseCommand_143
    rw [e6]
    by_cases z : w 0 21 = 0
    · rw [if_pos z, if_pos z]
      have hcm := hc (e6.trans z)
      obtain ⟨hT, hC, hE, s0, e0, hK⟩ := h
      obtain ⟨c1, c2, c3, c4⟩ := hC
      generalize hv1 : tm_up (tm_up (tm_up (tm_up v 253 n a) 254 n f) 255 n s) 251 5 (nI n + 1) = v1
      have ek : f_X3_keep a f s v = some ((), v1) := by
        have d1 : tm_up v 253 n a 251 5 = nI n := by rw [mu_ne (by omega)]; exact c2
        have d2 : tm_up (tm_up v 253 n a) 254 n f 251 5 = nI n := by rw [mu_ne (by omega)]; exact d1
        have d3 : tm_up (tm_up (tm_up v 253 n a) 254 n f) 255 n s 251 5 = nI n := by rw [mu_ne (by omega)]; exact d2
        unfold f_X3_keep
        rw [c2, ms_gi hn (by decide), nI_clamp (by omega), tS_lt, d1, ms_gi hn (by decide), nI_clamp (by omega), tS_lt, d2, ms_gi hn (by decide), nI_clamp (by omega), tS_lt, d3, tS_lt, hv1]
      have f1 : ∀ c, c ≠ 251 → c ≠ 253 → c ≠ 254 → c ≠ 255 → v1 c = v c := fun c a b d e => by rw [← hv1, tu_ne _ _ _ a, tu_ne _ _ _ e, tu_ne _ _ _ d, tu_ne _ _ _ b]
      have f2 : ∀ j, j ≠ 5 → v1 251 j = v 251 j := fun j hj => by rw [← hv1, mu_ne (by omega), mu_ne (by omega), mu_ne (by omega), mu_ne (by omega)]
      have f3 : ∀ i, i ≠ n → v1 253 i = v 253 i ∧ v1 254 i = v 254 i ∧ v1 255 i = v 255 i := fun i hi => by
        rw [← hv1]
        exact ⟨by rw [mu_ne (by omega), mu_ne (by omega), mu_ne (by omega), mu_ne (by omega)], by rw [mu_ne (by omega), mu_ne (by omega), mu_ne (by omega), mu_ne (by omega)], by rw [mu_ne (by omega), mu_ne (by omega), mu_ne (by omega), mu_ne (by omega)]⟩
      have f4 : v1 253 n = a ∧ v1 254 n = f ∧ v1 255 n = s := by
        rw [← hv1]
        exact ⟨by rw [mu_ne (by omega), mu_ne (by omega), mu_ne (by omega), mu_eq], by rw [mu_ne (by omega), mu_ne (by omega), mu_eq], by rw [mu_ne (by omega), mu_eq]⟩
      have f5 : v1 251 5 = nI (n + 1) := by rw [← hv1, mu_eq, nI_1]
      have hT1 : pT t v1 w := pT_ext (f2 1 (by decide)) (f1 252 (by decide) (by decide) (by decide) (by decide)) rfl rfl rfl rfl hT
      obtain ⟨s', e', v', w', a1, a2, a3, a4⟩ := pk_tok hT1 ((f2 10 (by decide)).trans hK.2.2.1) hK.2.2.2.1 hK.2.2.2.2.2.1
      have g24 : w' 0 24 = nI n := (a4.2.2.2 24 (by decide)).trans c3
      have u0 : ∀ j, j ≠ 24 → tm_up w' 0 24 (w' 0 24 + 1) 0 j = w' 0 j := fun j hj => mu_ne (by omega)
      have u1 : ∀ c, c ≠ 0 → tm_up w' 0 24 (w' 0 24 + 1) c = w c := fun c hc => (tu_ne _ _ _ hc).trans (a4.2.2.1 c hc)
      rw [ms_cl ek, ms_cl a1, ms_cl a2, tS_lt]
      refine ⟨n + 1, v', tm_up w' 0 24 (w' 0 24 + 1), rfl, rfl, ⟨?_, ?_, ?_, s', e', ?_⟩, ?_, fun _ => rfl⟩
      · exact pT_ext (a4.2.1 1 (by decide) (by decide) (by decide)) (a4.1 252 (by decide)) ((u0 16 (by decide)).trans (a4.2.2.2 16 (by decide))) (u1 8 (by decide)) (u1 7 (by decide)) (u1 9 (by decide)) hT1
      · refine ⟨by omega, (a4.2.1 5 (by decide) (by decide) (by decide)).trans f5, by rw [mu_eq, g24, nI_1], fun i hi => ?_⟩
        rw [a4.1 253 (by decide), a4.1 254 (by decide), a4.1 255 (by decide), u1 10 (by decide), u1 11 (by decide), u1 12 (by decide)]
        by_cases y : i = n
        · rw [y, f4.1, f4.2.1, f4.2.2]; exact hcm
        · rw [(f3 i y).1, (f3 i y).2.1, (f3 i y).2.2]; exact c4 i (by omega)
      · exact pE_ext ((a4.2.1 6 (by decide) (by decide) (by decide)).trans (f2 6 (by decide))) ((a4.2.1 7 (by decide) (by decide) (by decide)).trans (f2 7 (by decide))) ((u0 21 (by decide)).trans (a4.2.2.2 21 (by decide))) ((u0 22 (by decide)).trans (a4.2.2.2 22 (by decide))) hE
      · exact pK_ext (fun _ _ => rfl) rfl (fun j p q => u0 j (by omega)) a3
      · exact ⟨fun c p b d e => (a4.1 c p).trans (f1 c p b d e), (a4.2.1 1 (by decide) (by decide) (by decide)).trans (f2 1 (by decide)), fun c p _ _ _ => u1 c p, fun j hj => (u0 j (by omega)).trans (a4.2.2.2 j (by omega))⟩
    · rw [if_neg z, if_neg z]
      exact ⟨n, v, w, rfl, rfl, h, pF.refl v w, fun q => absurd (e6.symm.trans q) z⟩
  · rw [if_neg k3, if_neg k3]
    obtain ⟨v', w', a1, a2, a3, a4, a5, a6⟩ := ps_fail h (k := 1) (by decide) (by decide)
    rw [ms_cl (show f_X3_fail 1 v = _ from a1), ms_cl (ps_must0 (k := 1) (show f_X8_fails 1 w = _ from a2)), if_neg a6]
    unfold f_X3_parseCommand_143
    rw [if_neg a5]
    exact ⟨n, v', w', rfl, rfl, a3, a4.toF, fun q => absurd q a5⟩
/-- commands with one number -/
theorem ps_one (h : pS t n v w) (hn : n < 30) {o lo hi : Nat} (ho : o < 12) (h1 : tm_nums.getD o 0 = 1) (hl : tm_lea.getD o 0 = nI lo) (hg : tm_gre.getD o 0 = nI hi) (hlh : lo ≤ hi) (hh : hi ≤ 999) {a : Int32} (ha : tm_act.getD o 0 = a) (h7 : ¬ a = 7) (hr : ∀ w, f_X8_readParameters (nI o) w = tm_cl (f_X8_reads (nI lo) (nI hi) w) fun r v13 => tm_g (tm_ix (w 0 24) 30) (tm_lt (tm_up v13 11 (w 0 24).toNatClampNeg r) fun v15 => some ((), v15))) (hm : ∀ m, lo ≤ m → m ≤ hi → ∀ y, mCm a (nI m) 0 (nI o) (nI m) y) (hw : w 10 n = nI o) : pR t n v w (pA o v) (pB (nI o) w) := by
  have c3 := h.2.1.2.2.1
  obtain ⟨r7, r8, v1, w1, b1, b2, b3, b4, b5, b6⟩ := ps_num h hlh hh
  have hd : decide (o < 12) = true := decide_eq_true ho
  unfold pA pB
  rw [ms_g hd, h1, if_neg (by decide), ms_g hd, ms_g hd, hl, hg, ms_cl b1, hr, c3, ms_cl b2, ms_gi hn (by decide), nI_clamp (by omega), tS_lt, tS_cl, pp_70 ho (by rw [h1]; decide) ha h7]
  obtain ⟨hS2, hF2⟩ := ps_w b3 (c := 11) (Or.inr (Or.inl rfl)) r8
  obtain ⟨n', v', w', a1, a2, a3, a4, a5⟩ := ps_tail hS2 hn (a := a) (f := r7) (s := 0) (fun z => by
    obtain ⟨_, m, m1, m2, m3, m4⟩ := b6 z
    rw [mu_ne (by omega), b5.2.2.2.1, hw, mu_eq, m3, m4]
    exact hm m m1 m2 _)
  exact ⟨n', v', w', a1, a2, a3, (b4.trans hF2).trans a4, a5⟩
/-- commands with none -/
theorem ps_none (h : pS t n v w) (hn : n < 30) {o : Nat} (ho : o < 12) (h0 : tm_nums.getD o 0 = 0) {a : Int32} (ha : tm_act.getD o 0 = a) (h7 : ¬ a = 7) (hr : ∀ w, f_X8_readParameters (nI o) w = some ((), w)) (hm : ∀ x y, mCm a 0 0 (nI o) x y) (hw : w 10 n = nI o) : pR t n v w (pA o v) (pB (nI o) w) := by
  have hd : decide (o < 12) = true := decide_eq_true ho
  unfold pA pB
  rw [ms_g hd, h0, if_pos (by decide), hr, tS_cl, pp_70 ho (by rw [h0]; decide) ha h7]
  exact ps_tail h hn (fun _ => by rw [hw]; exact hm _ _)
theorem ps_put (h : pS t n v w) (hn : n < 30) (hw : w 10 n = nI 0) : pR t n v w (pA 0 v) (pB (nI 0) w) := by
  have c3 := h.2.1.2.2.1
  obtain ⟨r7, r8, v1, w1, b1, b2, b3, b4, b5, b6⟩ := ps_num h (lo := 0) (hi := 59) (by decide) (by decide)
  obtain ⟨hS2, hF2⟩ := ps_w b3 (c := 11) (Or.inr (Or.inl rfl)) r8
  obtain ⟨q7, q8, v2, w2, d1, d2, d3, d4, d5, d6⟩ := ps_num hS2 (lo := 0) (hi := 999) (by decide) (by decide)
  obtain ⟨hS3, hF3⟩ := ps_w d3 (c := 12) (Or.inr (Or.inr rfl)) q8
  have c4 : tm_up w1 11 n r8 0 24 = nI n := hS2.2.1.2.2.1
  have hd : decide (0 < 12) = true := rfl
  have e7 : pA 0 v = f_X3_parseCommand_130 r7 q7 11 v2 := by
    unfold pA f_X3_parseCommand_70 f_X3_parseCommand_91
    rw [ms_g hd, if_neg (by decide), ms_g hd, ms_g hd, ms_cl (show f_X3_parseNumber (tm_lea.getD 0 0) (tm_gre.getD 0 0) v = _ from b1), ms_g hd, if_neg (by decide), ms_cl (show f_X3_parseNumber 0 999 v1 = _ from d1), ms_g hd, tS_lt, show tm_act.getD 0 0 = 11 from rfl, if_neg (by decide)]
  have e8 : f_X8_readParameters (nI 0) w = some ((), tm_up w2 12 n q8) := by
    show f_X8_readParameters 0 w = _
    unfold f_X8_readParameters
    rw [if_pos rfl, ms_cl (show f_X8_reads 0 59 w = _ from b2), c3, ms_gi hn (by decide), nI_clamp (by omega), tS_lt, ms_cl (show f_X8_reads 0 999 (tm_up w1 11 n r8) = _ from d2), c4, ms_gi hn (by decide), nI_clamp (by omega), tS_lt]
  have e9 : pB (nI 0) w = (if (tm_up w2 12 n q8) 0 19 = 3 then f_X8_readCommand_86 1 (tm_up w2 12 n q8) else f_X8_readCommand_86 0 (tm_up w2 12 n q8)) := by
    unfold pB
    rw [ms_cl e8]
  rw [e7, e9]
  obtain ⟨n', v', w', a1, a2, a3, a4, a5⟩ := ps_tail hS3 hn (a := 11) (f := r7) (s := q7) (fun z => by
    obtain ⟨z1, p, p1, p2, p3, p4⟩ := d6 z
    obtain ⟨_, m, m1, m2, m3, m4⟩ := b6 z1
    rw [mu_ne (by omega), d5.2.2.2.1, mu_ne (by omega), b5.2.2.2.1, hw, mu_ne (by omega), d5.2.2.2.2.1, mu_eq, mu_eq, m3, m4, p3, p4]
    exact Or.inl ⟨m, p, by omega, by omega, rfl, rfl, rfl, rfl, rfl, rfl⟩)
  exact ⟨n', v', w', a1, a2, a3, ((b4.trans hF2).trans (d4.trans hF3)).trans a4, a5⟩
theorem ps_return (h : pS t n v w) (hn : n < 30) (hw : w 10 n = nI 9) : pR t n v w (pA 9 v) (pB (nI 9) w) := by
  have c3 := h.2.1.2.2.1
  have hd : decide (9 < 12) = true := rfl
  have e8 := ps_e8 h
  have h0 := h
  obtain ⟨hT, _, _, s, e, hK⟩ := h
  obtain ⟨r, r1, r2⟩ := pw_word hT hK
  have e7 : pA 9 v = (if (v 251 8) = 1 then tm_cl (f_X3_isHere 12 v) fun r21 v20 => (if r21 = 0 then f_X3_parseCommand_130 0 0 7 v20 else tm_cl (f_X3_nextToken v20) fun _ v22 => f_X3_parseCommand_130 0 0 8 v22) else f_X3_parseCommand_130 0 0 7 v) := by
    unfold pA f_X3_parseCommand_70 f_X3_parseCommand_91
    rw [ms_g hd, if_pos (by decide), ms_g hd, if_pos (by decide), ms_g hd, tS_lt, show tm_act.getD 9 0 = 7 from rfl, if_pos rfl]
  have ep : f_X8_readParameters (nI 9) w = (if r = 12 then f_X8_readParameters_190 1 (w 0 24) w else f_X8_readParameters_190 0 (w 0 24) w) := by
    show f_X8_readParameters 9 w = _
    unfold f_X8_readParameters
    rw [if_neg (by decide), if_neg (by decide), if_neg (by decide), if_neg (by decide), if_neg (by decide), if_neg (by decide), if_neg (by decide), if_neg (by decide), if_neg (by decide), if_pos rfl, ms_cl r1]
  by_cases q : w 0 19 = 1 ∧ mTE v s e 12 = true
  · have hr : r = 12 := by
      rcases r2 with ⟨k1, _⟩ | ⟨_, ⟨_, k2⟩ | ⟨o, k2, k3, k4, k5⟩⟩
      · exact absurd q.1 k1
      · exact absurd q.2 (k2 12 (by decide))
      · by_cases y : o < 12
        · exact absurd k4 (mTE_12 y q.2)
        · have : o = 12 := by omega
          rw [this] at k3
          exact k3
    obtain ⟨hS2, hF2⟩ := ps_w h0 (c := 11) (Or.inr (Or.inl rfl)) 1
    obtain ⟨v2, w2, d1, d2, d3, d4⟩ := ps_tok hS2
    have eb : f_X8_readParameters (nI 9) w = some ((), w2) := by
      rw [ep, if_pos hr]
      unfold f_X8_readParameters_190
      rw [c3, ms_gi hn (by decide), nI_clamp (by omega), tS_lt, show tm_up w 11 n 1 0 24 = nI n from hS2.2.1.2.2.1, ms_gi hn (by decide), nI_clamp (by omega), mu_eq, if_pos rfl, ms_cl d2]
    have e9 : pB (nI 9) w = (if w2 0 19 = 3 then f_X8_readCommand_86 1 w2 else f_X8_readCommand_86 0 w2) := by
      unfold pB
      rw [ms_cl eb]
    have ea : pA 9 v = f_X3_parseCommand_130 0 0 8 v2 := by
      rw [e7, e8, if_pos q.1, ms_cl (pw_is hT hK (o := 12) (by decide)), if_pos q.2, if_neg mr_10, ms_cl d1]
    rw [ea, e9]
    obtain ⟨n', v', w', a1, a2, a3, a4, a5⟩ := ps_tail d3 hn (a := 8) (f := 0) (s := 0) (fun _ => by
      rw [d4.2.2.1 10 (by decide), d4.2.2.1 11 (by decide), mu_ne (by omega), hw, mu_eq]
      exact Or.inr (Or.inr (Or.inr (Or.inr (Or.inr (Or.inr (Or.inr (Or.inr (Or.inr (Or.inr (Or.inl ⟨rfl, rfl, rfl, rfl⟩)))))))))))
    exact ⟨n', v', w', a1, a2, a3, (hF2.trans d4.toF).trans a4, a5⟩
  · have hr : ¬ r = 12 := fun y => by
      rcases r2 with ⟨_, k2⟩ | ⟨k0, ⟨k1, _⟩ | ⟨o, k2, k3, k4, k5⟩⟩
      · rw [k2] at y; exact absurd y (by decide)
      · rw [k1] at y; exact absurd y (by decide)
      · have : o = 12 := (nI_eq (a := o) (b := 12) (by omega) (by decide)).mp (k3.symm.trans y)
        rw [this] at k4
        exact q ⟨k0, k4⟩
    obtain ⟨hS2, hF2⟩ := ps_w h0 (c := 11) (Or.inr (Or.inl rfl)) 0
    have eb : f_X8_readParameters (nI 9) w = some ((), tm_up w 11 n 0) := by
      rw [ep, if_neg hr]
      unfold f_X8_readParameters_190
      rw [c3, ms_gi hn (by decide), nI_clamp (by omega), tS_lt, show tm_up w 11 n 0 0 24 = nI n from hS2.2.1.2.2.1, ms_gi hn (by decide), nI_clamp (by omega), mu_eq, if_neg (by decide)]
    have e9 : pB (nI 9) w = (if tm_up w 11 n 0 0 19 = 3 then f_X8_readCommand_86 1 (tm_up w 11 n 0) else f_X8_readCommand_86 0 (tm_up w 11 n 0)) := by
      unfold pB
      rw [ms_cl eb]
    have ea : pA 9 v = f_X3_parseCommand_130 0 0 7 v := by
      rw [e7, e8]
      by_cases k1 : w 0 19 = 1
      · rw [if_pos k1, ms_cl (pw_is hT hK (o := 12) (by decide)), if_neg (fun y => q ⟨k1, y⟩), if_pos rfl]
      · rw [if_neg k1]
    rw [ea, e9]
    obtain ⟨n', v', w', a1, a2, a3, a4, a5⟩ := ps_tail hS2 hn (a := 7) (f := 0) (s := 0) (fun _ => by
      rw [mu_ne (by omega), hw, mu_eq]
      exact Or.inr (Or.inr (Or.inr (Or.inr (Or.inr (Or.inr (Or.inr (Or.inr (Or.inr (Or.inl ⟨rfl, rfl, rfl, rfl⟩))))))))))
    exact ⟨n', v', w', a1, a2, a3, hF2.trans a4, a5⟩
theorem ps_par (h : pS t n v w) (hn : n < 30) {o : Nat} (ho : o < 12) (hw : w 10 n = nI o) : pR t n v w (pA o v) (pB (nI o) w) := by
  rcases (show o = 0 ∨ o = 1 ∨ o = 2 ∨ o = 3 ∨ o = 4 ∨ o = 5 ∨ o = 6 ∨ o = 7 ∨ o = 8 ∨ o = 9 ∨ o = 10 ∨ o = 11 by omega) with rfl | rfl | rfl | rfl | rfl | rfl | rfl | rfl | rfl | rfl | rfl | rfl
  · exact ps_put h hn hw
  · exact ps_one h hn (o := 1) (lo := 0) (hi := 59) (by decide) rfl rfl rfl (by decide) (by decide) (a := 12) rfl (by decide) (fun w => by show f_X8_readParameters 1 w = _; unfold f_X8_readParameters; rw [if_neg (by decide), if_pos rfl]; rfl) (fun m _ m2 y => Or.inr (Or.inl ⟨m, by omega, rfl, rfl, rfl, rfl⟩)) hw
  · exact ps_none h hn (o := 2) (by decide) rfl (a := 0) rfl (by decide) (fun w => by show f_X8_readParameters 2 w = _; unfold f_X8_readParameters; rw [if_neg (by decide), if_neg (by decide), if_pos rfl]) (fun x y => Or.inr (Or.inr (Or.inl ⟨rfl, rfl, rfl⟩))) hw
  · exact ps_one h hn (o := 3) (lo := 1) (hi := 15) (by decide) rfl rfl rfl (by decide) (by decide) (a := 1) rfl (by decide) (fun w => by show f_X8_readParameters 3 w = _; unfold f_X8_readParameters; rw [if_neg (by decide), if_neg (by decide), if_neg (by decide), if_pos rfl]; rfl) (fun m _ m2 y => Or.inr (Or.inr (Or.inr (Or.inl ⟨m, by omega, rfl, rfl, rfl, rfl⟩)))) hw
  · exact ps_one h hn (o := 4) (lo := 1) (hi := 15) (by decide) rfl rfl rfl (by decide) (by decide) (a := 2) rfl (by decide) (fun w => by show f_X8_readParameters 4 w = _; unfold f_X8_readParameters; rw [if_neg (by decide), if_neg (by decide), if_neg (by decide), if_neg (by decide), if_pos rfl]; rfl) (fun m _ m2 y => Or.inr (Or.inr (Or.inr (Or.inr (Or.inl ⟨m, by omega, rfl, rfl, rfl, rfl⟩))))) hw
  · exact ps_one h hn (o := 5) (lo := 0) (hi := 14) (by decide) rfl rfl rfl (by decide) (by decide) (a := 3) rfl (by decide) (fun w => by show f_X8_readParameters 5 w = _; unfold f_X8_readParameters; rw [if_neg (by decide), if_neg (by decide), if_neg (by decide), if_neg (by decide), if_neg (by decide), if_pos rfl]; rfl) (fun m _ m2 y => Or.inr (Or.inr (Or.inr (Or.inr (Or.inr (Or.inl ⟨m, by omega, rfl, rfl, rfl, rfl⟩)))))) hw
  · exact ps_one h hn (o := 6) (lo := 0) (hi := 7) (by decide) rfl rfl rfl (by decide) (by decide) (a := 4) rfl (by decide) (fun w => by show f_X8_readParameters 6 w = _; unfold f_X8_readParameters; rw [if_neg (by decide), if_neg (by decide), if_neg (by decide), if_neg (by decide), if_neg (by decide), if_neg (by decide), if_pos rfl]; rfl) (fun m _ m2 y => Or.inr (Or.inr (Or.inr (Or.inr (Or.inr (Or.inr (Or.inl ⟨m, by omega, rfl, rfl, rfl, rfl⟩))))))) hw
  · exact ps_one h hn (o := 7) (lo := 0) (hi := 7) (by decide) rfl rfl rfl (by decide) (by decide) (a := 5) rfl (by decide) (fun w => by show f_X8_readParameters 7 w = _; unfold f_X8_readParameters; rw [if_neg (by decide), if_neg (by decide), if_neg (by decide), if_neg (by decide), if_neg (by decide), if_neg (by decide), if_neg (by decide), if_pos rfl]; rfl) (fun m _ m2 y => Or.inr (Or.inr (Or.inr (Or.inr (Or.inr (Or.inr (Or.inr (Or.inl ⟨m, by omega, rfl, rfl, rfl, rfl⟩)))))))) hw
  · exact ps_none h hn (o := 8) (by decide) rfl (a := 6) rfl (by decide) (fun w => by show f_X8_readParameters 8 w = _; unfold f_X8_readParameters; rw [if_neg (by decide), if_neg (by decide), if_neg (by decide), if_neg (by decide), if_neg (by decide), if_neg (by decide), if_neg (by decide), if_neg (by decide), if_pos rfl]) (fun x y => Or.inr (Or.inr (Or.inr (Or.inr (Or.inr (Or.inr (Or.inr (Or.inr (Or.inl ⟨rfl, rfl, rfl⟩))))))))) hw
  · exact ps_return h hn hw
  · exact ps_none h hn (o := 10) (by decide) rfl (a := 9) rfl (by decide) (fun w => by show f_X8_readParameters 10 w = _; unfold f_X8_readParameters; rw [if_neg (by decide), if_neg (by decide), if_neg (by decide), if_neg (by decide), if_neg (by decide), if_neg (by decide), if_neg (by decide), if_neg (by decide), if_neg (by decide), if_neg (by decide)]) (fun x y => Or.inr (Or.inr (Or.inr (Or.inr (Or.inr (Or.inr (Or.inr (Or.inr (Or.inr (Or.inr (Or.inr (Or.inl ⟨rfl, rfl, rfl⟩)))))))))))) hw
  · exact ps_none h hn (o := 11) (by decide) rfl (a := 10) rfl (by decide) (fun w => by show f_X8_readParameters 11 w = _; unfold f_X8_readParameters; rw [if_neg (by decide), if_neg (by decide), if_neg (by decide), if_neg (by decide), if_neg (by decide), if_neg (by decide), if_neg (by decide), if_neg (by decide), if_neg (by decide), if_neg (by decide)]) (fun x y => Or.inr (Or.inr (Or.inr (Or.inr (Or.inr (Or.inr (Or.inr (Or.inr (Or.inr (Or.inr (Or.inr (Or.inr ⟨rfl, rfl, rfl⟩)))))))))))) hw
/-- no word of a command -/
theorem ps_bad (h : pS t n v w) : ∃ v' w', f_X3_fail 1 v = some ((), v') ∧ (∀ x, f_X8_readCommand_22 x 0 w = some ((), w')) ∧ pS t n v' w' ∧ pF v w v' w' ∧ ¬ v' 251 6 = 0 := by
  obtain ⟨v', w', a1, a2, a3, a4, a5, a6⟩ := ps_fail h (k := 1) (by decide) (by decide)
  refine ⟨v', w', a1, fun x => ?_, a3, a4.toF, a5⟩
  have m3 := ps_must0 (ps_stuck a3 a5 3)
  unfold f_X8_readCommand_22 f_X8_readCommand_41
  rw [ms_cl (ps_must0 (k := 1) (show f_X8_fails 1 w = _ from a2))]
  by_cases q : 30 ≤ w' 0 24
  · rw [if_pos q, ms_cl m3, if_neg (ps_gt a3 a5)]
  · rw [if_neg q, ms_cl (ps_must1 3 w'), if_neg (ps_gt a3 a5)]
/-- a command -/
theorem ps_cmd (h : pS t n v w) (z : v 251 6 = 0) : pR t n v w (f_X3_parseCommand v) (f_X8_readCommand w) := by
  have h0 := h
  have e6 := ps_e6 h
  have e8 := ps_e8 h
  obtain ⟨hT, hC, hE, s, e, hK⟩ := h
  obtain ⟨c1, c2, c3, c4⟩ := hC
  obtain ⟨r, r1, r2⟩ := pw_word hT hK
  obtain ⟨v0, w0, b1, b2, b3, b4, b5⟩ := ps_bad h0
  have z8 : w 0 21 = 0 := e6.symm.trans z
  -- the word is none of a command
  have bad : r = -1 ∨ r = 12 → f_X8_readCommand w = some ((), w0) := fun y => by
    unfold f_X8_readCommand f_X8_readCommand_21
    rw [ms_cl r1]
    by_cases y1 : r = -1
    · rw [if_pos y1]; exact b2 r
    · rw [if_neg y1, if_pos (y.resolve_left y1)]; exact b2 r
  by_cases k1 : w 0 19 = 1
  · obtain ⟨g, g1, g2⟩ := pw_cmd hT hK
    rcases g2 with ⟨g2, g3⟩ | ⟨o, g2, g3, g4, g5⟩
    · have hr : r = -1 ∨ r = 12 := by
        rcases r2 with ⟨_, y⟩ | ⟨_, ⟨y, _⟩ | ⟨o, y1, y2, y3, _⟩⟩
        · exact Or.inl y
        · exact Or.inl y
        · by_cases y4 : o < 12
          · exact absurd y3 (g3 o y4)
          · have : o = 12 := by omega
            rw [this] at y2
            exact Or.inr y2
      refine ⟨n, v0, w0, ?_, bad hr, b3, b4, fun q => absurd q b5⟩
      unfold f_X3_parseCommand
      rw [e8, if_pos k1, ms_cl g1, g2, pp_ocn, ms_cl b1]
    · have hr : r = nI o := by
        rcases r2 with ⟨y, _⟩ | ⟨_, ⟨_, y⟩ | ⟨o', y1, y2, y3, y4⟩⟩
        · exact absurd k1 y
        · exact absurd g4 (y o (by omega))
        · have : o' = o := by
            rcases Nat.lt_trichotomy o' o with q | q | q
            · exact absurd y3 (g5 o' q)
            · exact q
            · exact absurd g4 (y4 o q)
          rw [← this]; exact y2
      have e22 : f_X8_readCommand w = (if 30 ≤ w 0 24 then f_X8_readCommand_41 r 0 w else f_X8_readCommand_41 r 1 w) := by
        unfold f_X8_readCommand f_X8_readCommand_22
        rw [ms_cl r1, if_neg (by rw [hr]; exact mz_neg (by omega)), if_neg (fun y => by
          have := (nI_eq (a := o) (b := 12) (by omega) (by decide)).mp (hr.symm.trans y)
          omega), ms_cl (ps_must1 1 w)]
      have e70 : f_X3_parseCommand v = (if (v 251 5) < 30 then tm_cl (f_X3_nextToken v) fun _ v8 => pA o v8 else tm_cl (f_X3_fail 3 v) fun _ v30 => some ((), v30)) := by
        unfold f_X3_parseCommand pA
        rw [e8, if_pos k1, ms_cl g1, g3, pp_ocs]
      rw [e22, e70, c2, c3]
      unfold f_X8_readCommand_41
      by_cases hn : n < 30
      · rw [if_pos (show nI n < 30 from nI_lt (b := 30) hn (by decide)), if_neg (show ¬ (30 : Int32) ≤ nI n from nI_ge (b := 30) hn (by decide)), ms_cl (ps_must1 3 w), if_pos (show w 0 21 ≤ 0 by rw [z8]; decide)]
        obtain ⟨v1, w1, d1, d2, d3, d4⟩ := ps_tok h0
        have g24 : w1 0 24 = nI n := d3.2.1.2.2.1
        obtain ⟨hS2, hF2⟩ := ps_w d3 (c := 10) (Or.inl rfl) r
        rw [ms_cl d1, ms_cl d2, g24, ms_gi hn (by decide), nI_clamp (by omega), tS_lt]
        have := ps_par hS2 hn g2 ((mu_eq _ _ _ _).trans hr)
        rw [← hr] at this
        obtain ⟨n', v', w', a1, a2, a3, a4, a5⟩ := this
        exact ⟨n', v', w', a1, a2, a3, (d4.toF.trans hF2).trans a4, a5⟩
      · obtain ⟨v', w', a1, a2, a3, a4, a5, a6⟩ := ps_fail h0 (k := 3) (by decide) (by decide)
        rw [if_neg (show ¬ nI n < 30 from nI_nlt (b := 30) (by omega) (by omega)), if_pos (show (30 : Int32) ≤ nI n from nI_le (a := 30) (by omega) (by omega)), ms_cl (show f_X3_fail 3 v = _ from a1), ms_cl (ps_must0 (k := 3) (show f_X8_fails 3 w = _ from a2)), if_neg (ps_gt a3 a5)]
        exact ⟨n, v', w', rfl, rfl, a3, a4.toF, fun q => absurd q a5⟩
  · have hr : r = -1 := by
      rcases r2 with ⟨_, y⟩ | ⟨y, _⟩
      · exact y
      · exact absurd y k1
    refine ⟨n, v0, w0, ?_, bad (Or.inl hr), b3, b4, fun q => absurd q b5⟩
    unfold f_X3_parseCommand
    rw [e8, if_neg k1, ms_cl b1]
end
