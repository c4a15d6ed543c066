/-! ===== comparisons with saved states; events; promises; troubles; totals; means ===== -/
theorem mf_eq {x : UInt64} (h : vf_n64 x) : FP.dcmp x x = some .eq := Jvm.FP.Core.dcmp_refl (Jvm.Free.Fl.noNaN64_no.mp h)
theorem mf_div (a b : Int32) (hb : b ≠ 0) : vf_n64 (FP.ddiv (FP.i2d a) (FP.i2d b)) := Jvm.Free.Fl.ddiv_out (Jvm.Free.Fl.i2d_fin a).noNaN (Jvm.Free.Fl.i2d_fin b) (Jvm.Free.Fl.i2d_nz hb)
theorem mf_fdiv (a b : Int32) (hb : b ≠ 0) : vf_n32 (FP.fdiv (FP.i2f a) (FP.i2f b)) := Jvm.Free.Fl.fdiv_out (Jvm.Free.Fl.i2f_fin a).noNaN (Jvm.Free.Fl.i2f_fin b) (Jvm.Free.Fl.i2f_nz hb)
theorem mf_f2d {a : UInt32} (h : vf_n32 a) : vf_n64 (FP.f2d a) := Jvm.Free.Fl.f2d_out h
theorem mf_one : vf_n32 FP.fconst1 := by unfold vf_n32; decide
theorem mf_m1 : vf_n64 (13830554455654793216 : UInt64) := by unfold vf_n64; decide
theorem mFold_snoc {α : Type} (g : Nat → α → α) : ∀ (d i : Nat) (a : α), mFold g (d + 1) i a = g (i + d) (mFold g d i a)
  | 0, _, _ => rfl
  | d + 1, i, a => by
    show mFold g (d + 1) (i + 1) (g i a) = _
    rw [mFold_snoc g d (i + 1) (g i a), show i + 1 + d = i + (d + 1) by omega]
    rfl
def mChg (v : tmM) (q k : Nat) (a : Int32) : Int32 := a + (if v 3 k = v (q + 3) k ∧ v 4 k = v (q + 4) k then 0 else 1)
def mKp1 (v : tmM) (x : Int32) (i : Nat) (a : Int32) : Int32 := a + (if v 11 i = x then 1 else 0)
def mLat (v : tmM) (x : Int32) (i : Nat) (a : Int32) : Int32 := if v 11 i = x then v 12 i else a
section
variable {B : Nat} {v w : tmM} {bs : List Int32}
theorem mt_changed (h : mG B v bs w) (x1 : Int32) : mAn B v bs w (some 1) none none (f_X7_changed x1 v) (f_X8_changed x1 w) := by
  have h0 := mG_0 h
  unfold f_X7_changed f_X8_changed f_X8_changed_13 f_X8_changed_32
  rcases mk_side x1 with e | ⟨s, hs, rfl, e⟩
  · refine mE h (i := 0) (c := 1) ?_ (fun _ => rfl) (by decide) ?_
    · rw [ms_cl (e v w).2.1, mx_i0]
    · rw [ms_cl (e v w).2.2.1, if_pos rfl, tS_lt, if_pos (by rw [mu_eq]; decide), if_neg mz_le1]
  · generalize hw0 : tm_up w 0 0 0 = w0 at h0
    have hw00 : w0 0 0 = 0 := by rw [← hw0, mu_eq]
    obtain ⟨m, m1, m2, m3⟩ := h0.2.2.1
    obtain ⟨p1, p2⟩ := m3 s hs
    rw [← m2] at p1 p2
    have hn : ¬ (0 : Int32) < w0 0 0 := by rw [hw00]; decide
    rcases mh_01 (v 247 5) (nI s) with z | z
    · refine mO h (r := -1) ?_ ?_
      · rw [ms_cl (e v w).2.1, mx_i1, ms_cl (mh_7 _ _ _), if_pos z]
      · rw [ms_cl (e v w).2.2.1, if_neg mr_10, tS_lt, hw0, if_neg hn, ms_gi hs (by decide), nI_clamp (by omega), if_pos (p1.trans z), if_pos (by rw [hw00]; decide)]
    · have hP := p2 z
      have q4 : ¬ w0 4 s = 0 := by rw [p1, z]; decide
      have hT := h0.1.2.1
      have hT2 := hP.2.1
      have c3 : ∀ k, k < 60 → v (209 + 19 * s + 3) k = w0 3 (491 * s + (11 + k)) := fun k hk => hT2.1 k hk
      have c4 : ∀ k, k < 60 → v (209 + 19 * s + 4) k = w0 3 (491 * s + (71 + k)) := fun k hk => hT2.2.1 k hk
      have L7 : ∀ (d i F : Nat) (a : Int32), d + i = 60 → d < F → f_X5_changesAgainst_4 (209 + 19 * s) (fun x14 v15 => some (x14, v15)) F a (nI i) v = some (mFold (mChg v (209 + 19 * s)) d i a, v) := by
        intro d
        induction d with
        | zero =>
          intro i F a hd hF
          obtain ⟨F, rfl⟩ : ∃ G, F = G + 1 := ⟨F - 1, by omega⟩
          show f_X5_changesAgainst_4b _ _ _ a (nI i) v = _
          unfold f_X5_changesAgainst_4b
          rw [if_pos (show (60 : Int32) ≤ nI i from nI_le (a := 60) (by omega) (by omega))]
          rfl
        | succ d ih =>
          intro i F a hd hF
          obtain ⟨F, rfl⟩ : ∃ G, F = G + 1 := ⟨F - 1, by omega⟩
          show f_X5_changesAgainst_4b _ _ _ a (nI i) v = _
          unfold f_X5_changesAgainst_4b f_X5_changesAgainst_52 f_X5_changesAgainst_53 f_X5_changesAgainst_66
          have g0 : ∀ {β : Type} (x : Option β), tm_g (tm_ix 0 2) x = x := fun x => ms_g (by decide)
          have g1 : ∀ {β : Type} (x : Option β), tm_g (tm_ix 1 2) x = x := fun x => ms_g (by decide)
          have gk : ∀ {β : Type} (x : Option β), tm_g (tm_ix (nI i) 60) x = x := fun x => ms_gi (by omega) (by decide)
          rw [if_neg (show ¬ (60 : Int32) ≤ nI i from nI_ge (b := 60) (by omega) (by decide))]
          simp only [g0, g1, gk, tS_lt, nI_clamp (show i < 2 ^ 31 by omega)]
          show _ = some (mFold (mChg v (209 + 19 * s)) d (i + 1) (mChg v (209 + 19 * s) i a), v)
          show (if v 3 i = v (209 + 19 * s + 3) i then (if v 4 i = v (209 + 19 * s + 4) i then _ else _) else _) = _
          unfold mChg
          by_cases t3 : v 3 i = v (209 + 19 * s + 3) i
          · by_cases t4 : v 4 i = v (209 + 19 * s + 4) i
            · rw [if_pos t3, if_pos t4, if_neg mr_10, if_pos ⟨t3, t4⟩, nI_1]
              exact ih (i + 1) F _ (by omega) (by omega)
            · rw [if_pos t3, if_neg t4, if_pos trivial, if_neg (fun q => t4 q.2), nI_1]
              exact ih (i + 1) F _ (by omega) (by omega)
          · rw [if_neg t3, if_pos trivial, if_neg (fun q => t3 q.1), nI_1]
            exact ih (i + 1) F _ (by omega) (by omega)
      have L8 : ∀ (d i F : Nat) (a : Int32), d + i = 60 → d < F → f_X8_changed_49 (fun x5 v6 => some (x5, v6)) F (nI s) a (nI i) w0 = some (mFold (mChg v (209 + 19 * s)) d i a, w0) := by
        intro d
        induction d with
        | zero =>
          intro i F a hd hF
          obtain ⟨F, rfl⟩ : ∃ G, F = G + 1 := ⟨F - 1, by omega⟩
          show f_X8_changed_49b _ _ (nI s) a (nI i) w0 = _
          unfold f_X8_changed_49b
          rw [if_pos (show (60 : Int32) ≤ nI i from nI_le (a := 60) (by omega) (by omega))]
          rfl
        | succ d ih =>
          intro i F a hd hF
          obtain ⟨F, rfl⟩ : ∃ G, F = G + 1 := ⟨F - 1, by omega⟩
          show f_X8_changed_49b _ _ (nI s) a (nI i) w0 = _
          have e11 : (491 : Int32) * nI s + 11 + nI i = nI (491 * s + (11 + i)) := by
            rw [show (491 : Int32) * nI s = nI (491 * s) from pk_mul 491 s, show nI (491 * s) + 11 = nI (491 * s + 11) from nI_add _ 11, nI_add, Nat.add_assoc]
          have e71 : (491 : Int32) * nI s + 71 + nI i = nI (491 * s + (71 + i)) := by
            rw [show (491 : Int32) * nI s = nI (491 * s) from pk_mul 491 s, show nI (491 * s) + 71 = nI (491 * s + 71) from nI_add _ 71, nI_add, Nat.add_assoc]
          unfold f_X8_changed_49b f_X8_changed_87 f_X8_changed_121 f_X8_changed_134 f_X8_changed_139
          rw [if_neg (show ¬ (60 : Int32) ≤ nI i from nI_ge (b := 60) (by omega) (by decide)), e11, e71, mz_11, mz_71, ms_gi (show 11 + i < 491 by omega) (by decide), ms_gi (show 491 * s + (11 + i) < 982 by omega) (by decide), nI_clamp (show 11 + i < 2 ^ 31 by omega), nI_clamp (show 491 * s + (11 + i) < 2 ^ 31 by omega)]
          have g71 : ∀ {β : Type} (x : Option β), tm_g (tm_ix (nI (71 + i)) 491) x = x := fun x => ms_gi (by omega) (by decide)
          have g49 : ∀ {β : Type} (x : Option β), tm_g (tm_ix (nI (491 * s + (71 + i))) 982) x = x := fun x => ms_gi (by omega) (by decide)
          simp only [g71, g49, tS_lt, nI_clamp (show 71 + i < 2 ^ 31 by omega), nI_clamp (show 491 * s + (71 + i) < 2 ^ 31 by omega)]
          rw [← c3 i (by omega), ← c4 i (by omega), ← hT.1 i (by omega), ← hT.2.1 i (by omega)]
          show _ = some (mFold (mChg v (209 + 19 * s)) d (i + 1) (mChg v (209 + 19 * s) i a), w0)
          unfold mChg
          by_cases t3 : v 3 i = v (209 + 19 * s + 3) i
          · by_cases t4 : v 4 i = v (209 + 19 * s + 4) i
            · rw [if_pos t3, if_pos t4, if_pos trivial, if_pos trivial, if_pos ⟨t3, t4⟩, nI_1]
              exact ih (i + 1) F _ (by omega) (by omega)
            · rw [if_pos t3, if_neg t4, if_pos trivial, if_neg mr_10, if_neg (fun q => t4 q.2), nI_1]
              exact ih (i + 1) F _ (by omega) (by omega)
          · have t5 : ¬ (v 3 i = v (209 + 19 * s + 3) i ∧ v 4 i = v (209 + 19 * s + 4) i) := fun q => t3 q.1
            by_cases t4 : v 4 i = v (209 + 19 * s + 4) i
            · rw [if_neg t3, if_pos t4, if_neg mr_10, if_neg t5, nI_1]; exact ih (i + 1) F _ (by omega) (by omega)
            · rw [if_neg t3, if_neg t4, if_neg mr_10, if_neg t5, nI_1]; exact ih (i + 1) F _ (by omega) (by omega)
      refine mO h (r := mFold (mChg v (209 + 19 * s)) 60 0 0) ?_ ?_
      · have := L7 60 0 10000 0 rfl (by decide)
        rw [ms_cl (e v w).2.1, mx_i1, ms_cl (mh_7 _ _ _), if_neg (by rw [z]; decide), ms_gi hs (by decide), tS_lt, mz_slot hs, ms_cl (show f_X5_changesAgainst (209 + 19 * s) v = _ from this)]
      · rw [ms_cl (e v w).2.2.1, if_neg mr_10, tS_lt, hw0, if_neg hn, ms_gi hs (by decide), nI_clamp (by omega), if_neg q4]
        exact L8 60 0 10000 0 rfl (by decide)
theorem mt_eventsOf (h : mG B v bs w) (x1 x2 : Int32) : mAn B v bs w none (some 1) none (f_X7_eventsOf x1 x2 v) (f_X8_eventsOf x1 x2 w) := by
  have h0 := mG_0 h
  have hin := mk_inL x1 8 8 rfl (by decide) w
  unfold f_X7_eventsOf f_X8_eventsOf f_X7_eventsOf_19 f_X7_eventsOf_23 f_X7_eventsOf_24 f_X8_eventsOf_24 f_X8_eventsOf_25
  rcases pk_ix x1 (n := 9) (by decide) with q | q | ⟨k, hk, rfl⟩
  · refine mE h (i := 1) (c := 1) ?_ (fun _ => rfl) (by decide) ?_
    · rw [if_pos q, mx_a0]
    · rw [ms_cl (hin.1 q), if_pos rfl, tS_lt, if_neg mz_le1]
  · refine mE h (i := 1) (c := 1) ?_ (fun _ => rfl) (by decide) ?_
    · by_cases z : x1 < 0
      · rw [if_pos z, mx_a0]
      · rw [if_neg z, if_pos (show (9 : Int32) ≤ x1 from q), mx_a0]
    · rw [ms_cl (hin.2.1 q), if_pos rfl, tS_lt, if_neg mz_le1]
  · have z1 : ¬ nI k < 0 := nI_pos (by omega)
    have z2 : ¬ (9 : Int32) ≤ nI k := nI_ge hk (by decide)
    rcases mk_side x2 with f | ⟨s, hs, rfl, f⟩
    · have hne : ¬ x2 = 0 ∧ ¬ x2 = 1 := by
        constructor
        · intro q
          have := (f v w).1
          rw [q] at this
          exact absurd this (by unfold f_X7_isSide f_X7_isSide_9; simp)
        · intro q
          have := (f v w).1
          rw [q] at this
          exact absurd this (by unfold f_X7_isSide f_X7_isSide_9; simp)
      refine mE h (i := 1) (c := 1) ?_ (fun _ => rfl) (by decide) ?_
      · rw [if_neg z1, if_neg z2, if_neg hne.1, if_neg hne.2, mx_a0]
      · rw [ms_cl (hin.2.2 k (by omega) rfl), if_neg mr_10, ms_cl (f v w).2.2.2, if_pos rfl, tS_lt, if_neg mz_le1]
    · rw [ms_cl (hin.2.2 k (by omega) rfl), if_neg mr_10, ms_cl (f v w).2.2.2, if_neg mr_10, tS_lt, if_pos mz_le0, if_neg z1, if_neg z2]
      generalize hw0 : tm_up w 0 0 0 = w0 at h0
      obtain ⟨n, e1, e2, e3, e4⟩ := h0.1.2.2.2.2.1
      have L7 : ∀ (d i F : Nat) (a : Int32), d + i = n → d < F → f_X1_keptOf_4 (fun x2 v3 => some (x2, v3)) F (nI k) a (nI i) v = some (mFold (mKp1 v (nI k)) d i a, v) := by
        intro d
        induction d with
        | zero =>
          intro i F a hd hF
          obtain ⟨F, rfl⟩ : ∃ G, F = G + 1 := ⟨F - 1, by omega⟩
          show f_X1_keptOf_4b _ _ (nI k) a (nI i) v = _
          unfold f_X1_keptOf_4b
          rw [e2, if_pos (nI_le (by omega) (by omega))]
          rfl
        | succ d ih =>
          intro i F a hd hF
          obtain ⟨F, rfl⟩ : ∃ G, F = G + 1 := ⟨F - 1, by omega⟩
          show f_X1_keptOf_4b _ _ (nI k) a (nI i) v = _
          unfold f_X1_keptOf_4b f_X1_keptOf_28
          rw [e2, if_neg (nI_ge (by omega) (by omega)), ms_gi (show i < 30 by omega) (by decide), nI_clamp (by omega)]
          show _ = some (mFold (mKp1 v (nI k)) d (i + 1) (mKp1 v (nI k) i a), v)
          unfold mKp1
          by_cases t : v 11 i = nI k
          · rw [if_pos t, if_pos t, tS_lt, nI_1]; exact ih (i + 1) F _ (by omega) (by omega)
          · rw [if_neg t, if_neg t, tS_lt, nI_1]; exact ih (i + 1) F _ (by omega) (by omega)
      have L9 : ∀ (d F : Nat), d ≤ n → d < F → f_X1_latestOf_7 (fun v2 => some ((-1), v2)) F (nI k) (nI d - 1) v = some (mFold (mLat v (nI k)) d 0 (-1), v) := by
        intro d
        induction d with
        | zero =>
          intro F hd hF
          obtain ⟨F, rfl⟩ : ∃ G, F = G + 1 := ⟨F - 1, by omega⟩
          show f_X1_latestOf_7b _ _ (nI k) (nI 0 - 1) v = _
          unfold f_X1_latestOf_7b
          rw [if_pos (by decide)]
          rfl
        | succ d ih =>
          intro F hd hF
          obtain ⟨F, rfl⟩ : ∃ G, F = G + 1 := ⟨F - 1, by omega⟩
          show f_X1_latestOf_7b _ _ (nI k) (nI (d + 1) - 1) v = _
          unfold f_X1_latestOf_7b
          rw [nI_pred, if_neg (nI_pos (by omega)), ms_gi (show d < 30 by omega) (by decide), nI_clamp (by omega), mFold_snoc, Nat.zero_add]
          unfold mLat
          by_cases t : v 11 d = nI k
          · rw [if_pos t, if_pos t, ms_gi (show d < 30 by omega) (by decide)]
          · rw [if_neg t, if_neg t, show nI d + (-1) = nI d - 1 from (Int32.sub_eq_add_neg (nI d) 1).symm]
            exact ih F (by omega) (by omega)
      have L8 : ∀ (d i F : Nat) (a b : Int32), d + i = n → d < F → f_X8_eventsOf_45 (fun x5 x6 x7 v8 => (if x5 = 0 then some (x6, v8) else some (x7, v8))) F (nI k) (nI s) a b (nI i) w0 = some (if nI s = 0 then mFold (mKp1 v (nI k)) d i a else mFold (mLat v (nI k)) d i b, w0) := by
        intro d
        induction d with
        | zero =>
          intro i F a b hd hF
          obtain ⟨F, rfl⟩ : ∃ G, F = G + 1 := ⟨F - 1, by omega⟩
          show f_X8_eventsOf_45b _ _ (nI k) (nI s) a b (nI i) w0 = _
          unfold f_X8_eventsOf_45b
          rw [mr_g10, mr_n10, e3, if_pos (nI_le (by omega) (by omega))]
          show (if nI s = 0 then some (a, w0) else some (b, w0)) = some (if nI s = 0 then a else b, w0)
          split <;> rfl
        | succ d ih =>
          intro i F a b hd hF
          obtain ⟨F, rfl⟩ : ∃ G, F = G + 1 := ⟨F - 1, by omega⟩
          show f_X8_eventsOf_45b _ _ (nI k) (nI s) a b (nI i) w0 = _
          have ep : (371 : Int32) + 2 * nI i = nI (371 + 2 * i) := by
            rw [show (2 : Int32) * nI i = nI (2 * i) from pk_mul 2 i, show (371 : Int32) + nI (2 * i) = nI (371 + 2 * i) from nI_add 371 _]
          have ei := e4 i (by omega)
          unfold f_X8_eventsOf_45b f_X8_eventsOf_79 f_X8_eventsOf_92 f_X8_eventsOf_119
          rw [mr_g10, mr_n10, e3, if_neg (nI_ge (by omega) (by omega)), ep, ms_gi (show 371 + 2 * i < 491 by omega) (by decide), nI_clamp (show 371 + 2 * i < 2 ^ 31 by omega), ← ei.1, nI_1 (371 + 2 * i)]
          show _ = some (if nI s = 0 then mFold (mKp1 v (nI k)) d (i + 1) (mKp1 v (nI k) i a) else mFold (mLat v (nI k)) d (i + 1) (mLat v (nI k) i b), w0)
          unfold mKp1 mLat
          by_cases t : v 11 i = nI k
          · rw [if_pos t, if_neg mr_10, tS_lt, if_neg mr_10, ms_gi (show 371 + 2 * i + 1 < 491 by omega) (by decide), nI_clamp (by omega), ← ei.2, if_pos t, if_pos t, nI_1]
            exact ih (i + 1) F _ _ (by omega) (by omega)
          · rw [if_neg t, if_pos rfl, tS_lt, if_pos rfl, if_neg t, if_neg t, nI_1]
            exact ih (i + 1) F _ _ (by omega) (by omega)
      have l8 := L8 n 0 10000 0 (-1) rfl (by omega)
      rcases (show s = 0 ∨ s = 1 by omega) with rfl | rfl
      · have l7 := L7 n 0 10000 0 rfl (by omega)
        refine mO h (r := mFold (mKp1 v (nI k)) n 0 0) ?_ ?_
        · rw [if_pos (show nI 0 = 0 from rfl), mx_a1, if_pos (show nI 0 = 0 from rfl), ms_cl (show f_X1_keptOf (nI k) v = _ from l7)]
        · rw [if_pos (show nI 0 = 0 from rfl)] at l8
          rw [hw0]; exact l8
      · have l7 := L9 n 10000 (Nat.le_refl _) (by omega)
        refine mO h (r := mFold (mLat v (nI k)) n 0 (-1)) ?_ ?_
        · rw [if_neg (show ¬ nI 1 = 0 by decide), if_pos (show nI 1 = 1 from rfl), mx_a1, if_neg (show ¬ nI 1 = 0 by decide)]
          unfold f_X1_latestOf
          rw [e2, tS_lt, ms_cl l7]
        · rw [if_neg (show ¬ nI 1 = 0 by decide)] at l8
          rw [hw0]; exact l8
theorem mt_brokenPromise (h : mG B v bs w) : mDi B bs (f_X7_brokenPromise v) (f_X8_brokenPromise w) := by
  have h0 := mG_0 h
  have hd := mr_dbl h0.1
  obtain ⟨n, hQ⟩ := h0.1.2.2.2.1
  have e3 := (mz_cs h0.1).1
  unfold f_X7_brokenPromise f_X8_brokenPromise
  rw [tS_lt, ms_cl hd.1]
  by_cases z : mDb v = 0
  · rw [if_pos z]
    refine ⟨-1, v, _, rfl, ?_, h0⟩
    show f_X8_brokenPromise_7b _ _ 0 (tm_up w 0 0 0) = _
    unfold f_X8_brokenPromise_7b
    rw [if_neg (by decide), ms_cl hd.2, if_pos z]
  · rw [if_neg z]
    have L : ∀ (d i F : Nat), d + i = 60 → d < F → ∃ r, f_X7_brokenPromise_14 (fun v9 => some ((-1), v9)) F (nI i) v = some (r, v) ∧ f_X8_brokenPromise_7 (fun v10 => some ((-1), v10)) F (nI i) (tm_up w 0 0 0) = some (r, tm_up w 0 0 0) := by
      intro d
      induction d with
      | zero =>
        intro i F hd2 hF
        obtain ⟨F, rfl⟩ : ∃ G, F = G + 1 := ⟨F - 1, by omega⟩
        have e : (60 : Int32) ≤ nI i := nI_le (a := 60) (by omega) (by omega)
        refine ⟨-1, ?_, ?_⟩
        · show f_X7_brokenPromise_14b _ _ (nI i) v = _
          unfold f_X7_brokenPromise_14b
          rw [if_pos e]
        · show f_X8_brokenPromise_7b _ _ (nI i) _ = _
          unfold f_X8_brokenPromise_7b
          rw [if_pos e]
      | succ d ih =>
        intro i F hd2 hF
        obtain ⟨F, rfl⟩ : ∃ G, F = G + 1 := ⟨F - 1, by omega⟩
        have e : ¬ (60 : Int32) ≤ nI i := nI_ge (b := 60) (by omega) (by decide)
        have hq := mr_dif h0.1 (k := i) (by omega)
        have hpl := mr_pl hQ (nI i)
        have hho := mr_holds hQ (nI i)
        show ∃ r, f_X7_brokenPromise_14b _ _ (nI i) v = _ ∧ f_X8_brokenPromise_7b _ _ (nI i) _ = _
        unfold f_X7_brokenPromise_14b f_X8_brokenPromise_7b f_X7_brokenPromise_66 f_X8_brokenPromise_54
        rw [if_neg e, if_neg e, ms_gd (by decide), ms_cl (mh_7 _ _ _), ms_cl hd.2, if_neg z, mr_g3, ms_gd (by decide), mr_n3', ms_cl (mh_8 _ _ _), ← e3]
        by_cases y : mHas (v 0 2) (nI i / 4) = 0
        · rw [if_pos y, if_pos y, nI_1]; exact ih (i + 1) F (by omega) (by omega)
        · rw [if_neg y, if_neg y, ms_cl hho, ms_cl hpl.2]
          by_cases t : mPl v n (nI i) = -1
          · rw [if_pos t, if_pos rfl, if_pos t, ms_cl hq.1, ms_cl hq.2]
            rcases mDf_01 v i with q | q
            · rw [q, if_pos rfl, if_pos rfl, nI_1]; exact ih (i + 1) F (by omega) (by omega)
            · rw [q, if_neg mr_10, if_neg mr_10]; exact ⟨nI i, rfl, rfl⟩
          · rw [if_neg t, if_neg mr_10, if_neg t, nI_1]; exact ih (i + 1) F (by omega) (by omega)
    obtain ⟨r, r1, r2⟩ := L 60 0 10000 rfl (by decide)
    exact ⟨r, v, _, r1, r2, h0⟩
end
