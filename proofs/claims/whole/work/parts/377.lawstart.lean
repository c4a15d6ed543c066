set_option maxRecDepth 512
theorem dL_law_0 : decode cL_law 0 = .ok (.new 8, 3) := by decide +kernel
theorem dL_law_3 : decode cL_law 3 = .ok (.dup, 1) := by decide +kernel
theorem dL_law_4 : decode cL_law 4 = .ok (.invokespecial 135, 3) := by decide +kernel
theorem dL_law_7 : decode cL_law 7 = .ok (.astore_n 1, 1) := by decide +kernel
theorem dL_law_8 : decode cL_law 8 = .ok (.new 136, 3) := by decide +kernel
theorem dL_law_11 : decode cL_law 11 = .ok (.dup, 1) := by decide +kernel
theorem dL_law_12 : decode cL_law 12 = .ok (.invokespecial 138, 3) := by decide +kernel
theorem dL_law_15 : decode cL_law 15 = .ok (.astore_n 2, 1) := by decide +kernel
theorem dL_law_16 : decode cL_law 16 = .ok (.iconst 1, 1) := by decide +kernel
theorem dL_law_17 : decode cL_law 17 = .ok (.newarray .long, 2) := by decide +kernel
theorem dL_law_19 : decode cL_law 19 = .ok (.astore_n 3, 1) := by decide +kernel
theorem dL_law_20 : decode cL_law 20 = .ok (.iconst 1, 1) := by decide +kernel
theorem dL_law_21 : decode cL_law 21 = .ok (.newarray .double, 2) := by decide +kernel
theorem dL_law_23 : decode cL_law 23 = .ok (.astore 4, 2) := by decide +kernel
theorem dL_law_25 : decode cL_law 25 = .ok (.iconst 0, 1) := by decide +kernel
theorem dL_law_26 : decode cL_law 26 = .ok (.istore 5, 2) := by decide +kernel
theorem tcl_L_8 : Cond.classLink RL 8 RX7 ∈ TMW := tm_in 137 (by decide +kernel) (by decide +kernel)
theorem tcl_L_136 : Cond.classLink RL 136 RX8 ∈ TMW := tm_in 1541 (by decide +kernel) (by decide +kernel)
theorem tin_X7 : Cond.instantiable RX7 9 ∈ TMW := tm_in 138 (by decide +kernel) (by decide +kernel)
theorem tin_X8 : Cond.instantiable RX8 28 ∈ TMW := tm_in 1542 (by decide +kernel) (by decide +kernel)
theorem tl_L_135 : Cond.methodLink RL 135 yX7_init ∈ TMW := tm_in 139 (by decide +kernel) (by decide +kernel)
theorem tl_L_138 : Cond.methodLink RL 138 yX8_init ∈ TMW := tm_in 1543 (by decide +kernel) (by decide +kernel)
theorem ti_X7_init : Cond.instanceMethod yX7_init ∈ TMW := tm_in 140 (by decide +kernel) (by decide +kernel)
theorem ti_X8_init : Cond.instanceMethod yX8_init ∈ TMW := tm_in 1544 (by decide +kernel) (by decide +kernel)
theorem tc_X7_init : Cond.code yX7_init cX7_init 2 none ∈ TMW := tm_in 141 (by decide +kernel) (by decide +kernel)
set_option maxRecDepth 1000000 in
theorem tc_X8_init : Cond.code yX8_init cX8_init 1 none ∈ TMW := tm_in 1545 (by rfl) (by decide +kernel)
theorem tacL : Cond.arrayClass .long ∈ TMW := tm_in 2154 (by decide +kernel) (by decide +kernel)
theorem tacD : Cond.arrayClass .double ∈ TMW := tm_in 2155 (by decide +kernel) (by decide +kernel)
section TSA
variable {p : Program} {l : Launch} {e : Env} {R : Room} {s : State} {m : MethodId} {args : Array Value} {below : List Frame} {meth : Method} {c : Code} {cells slots : Nat} {Q : State → Prop} {cc : ByteArray} {nL : Nat} {ret : Option FieldType} {own : String} {D : va_G} {cy : Nat → ClassId} {cL cD : ClassId} {A : Nat → Prop} {X : va_W} {pc : Nat} {lv : List (Nat × Value)} {st : List Value}
theorem ts_newL (C0 : tmC p s m args meth c cc nL ret own TMW tm_NWC D cy tm_s0 tm_a0 0 X A) (hF : tlF D cy cL cD s) (hdg : decode cc pc = .ok (.newarray .long, 2)) (harr : Cond.arrayClass .long ∈ TMW) (hcs : cells + 1 ≤ R.cells ∧ slots + 1 ≤ R.slots) (k : ∀ q : Nat, tmC p s m args meth c cc nL ret own TMW tm_NWC D cy tm_s0 tm_a0 0 (X ++ [(q, .inl (cL, 1, .inr (.inl (tl_L 0))))]) A → tmG p l e R s m args below meth c (cells + 1) (slots + 1) Q nL D cy tm_s0 tm_a0 0 (X ++ [(q, .inl (cL, 1, .inr (.inl (tl_L 0))))]) A () (pc + 2) lv (.ref q :: st) tm_v0 (some ())) : tmG p l e R s m args below meth c cells slots Q nL D cy tm_s0 tm_a0 0 X A () pc lv (.int 1 :: st) tm_v0 (some ()) := fun hz H locs ls hP hS hL => by
  have hP : va_P D vwCl X H := hP
  have hD : va_D A X := C0.dd (v := tm_v0)
  have e0 : (fun _ : Nat => (0 : Int64)) = tl_L 0 := funext fun j => by show (0 : Int64) = if j = 0 then 0 else 0; split <;> rfl
  refine va_newa (atype := .long) (N' := 1) (a0 := (1, .inr (.inl (fun _ => 0)))) C0.1 C0.2.1 (C0.2.2.2.2.2.2.1 _ harr) rfl hF.1 hP hD hS C0.2.2.2.2.2.2.2.2.2.2.2 (fun cA => rfl) (by decide) rfl (by decide) hcs.1 hcs.2 hdg (fun q cA H1 hK1 hP1 hD1 hS1 => ?_)
  have hc2 : cA = cL := tm_cyu (ty := .long) (k := 6) (fun h1 h2 => Option.some.inj ((show s.vm.findClass _ = some cA from h1).symm.trans (show s.vm.findClass _ = some _ from h2))) hK1 rfl
  subst hc2
  rw [e0] at hP1 hD1
  exact k q (C0.ad (v := tm_v0) hD1) hz H1 locs ls hP1 hS1 hL
theorem ts_newD (C0 : tmC p s m args meth c cc nL ret own TMW tm_NWC D cy tm_s0 tm_a0 0 X A) (hF : tlF D cy cL cD s) (hdg : decode cc pc = .ok (.newarray .double, 2)) (harr : Cond.arrayClass .double ∈ TMW) (hcs : cells + 1 ≤ R.cells ∧ slots + 1 ≤ R.slots) (k : ∀ q : Nat, tmC p s m args meth c cc nL ret own TMW tm_NWC D cy tm_s0 tm_a0 0 (X ++ [(q, .inl (cD, 1, .inr (.inr (.inr (.inl (tl_D 0))))))]) A → tmG p l e R s m args below meth c (cells + 1) (slots + 1) Q nL D cy tm_s0 tm_a0 0 (X ++ [(q, .inl (cD, 1, .inr (.inr (.inr (.inl (tl_D 0))))))]) A () (pc + 2) lv (.ref q :: st) tm_v0 (some ())) : tmG p l e R s m args below meth c cells slots Q nL D cy tm_s0 tm_a0 0 X A () pc lv (.int 1 :: st) tm_v0 (some ()) := fun hz H locs ls hP hS hL => by
  have hP : va_P D vwCl X H := hP
  have hD : va_D A X := C0.dd (v := tm_v0)
  have e0 : (fun _ : Nat => (0 : UInt64)) = tl_D 0 := funext fun j => by show (0 : UInt64) = if j = 0 then 0 else 0; split <;> rfl
  refine va_newa (atype := .double) (N' := 1) (a0 := (1, .inr (.inr (.inr (.inl (fun _ => 0)))))) C0.1 C0.2.1 (C0.2.2.2.2.2.2.1 _ harr) rfl hF.1 hP hD hS C0.2.2.2.2.2.2.2.2.2.2.2 (fun cA => rfl) (by decide) rfl (by decide) hcs.1 hcs.2 hdg (fun q cA H1 hK1 hP1 hD1 hS1 => ?_)
  have hc2 : cA = cD := tm_cyu (ty := .double) (k := 7) (fun h1 h2 => Option.some.inj ((show s.vm.findClass _ = some cA from h1).symm.trans (show s.vm.findClass _ = some _ from h2))) hK1 rfl
  subst hc2
  rw [e0] at hP1 hD1
  exact k q (C0.ad (v := tm_v0) hD1) hz H1 locs ls hP1 hS1 hL
end TSA
theorem ts_tx0 : tmTx 16 (fun _ _ => 0) [] := ⟨Or.inl rfl, by decide, rfl, rfl, (fun i hi => absurd hi (by show ¬ i < 0; omega)), (fun i hi => absurd hi (by show ¬ i < 0; omega)), (fun i _ => rfl)⟩
set_option maxRecDepth 100000 in
/-- from the entry, for every script: the law ends with true, if the two sides' numbers stay related -/
theorem law_start {Rl : Nat → tmM → List Int32 → tmM → Prop} (hp : ∀ k, k < 512 → tP_all (Rl k) (Rl (k + 1))) (hR0 : Rl 0 tm_vC0 [] tm_vR1) {p : Program} {e : Env} {s : State} {m : MethodId} {below : List Frame} {meth : Method} {c : Code} (l : Launch) (hflags : l.flags = flags0) {b L : Nat} {xs : Nat → Int32} (hL : L ≤ 2560) (C0 : lw_At p s m meth c b L xs) : W p l e room_1 s m #[Value.ref b] below meth c s.heap [] 0 0 (lw_Z below #[Value.ref b] s) (entryFrame m ([Value.ref b] : List Value).toArray 10) := by
  obtain ⟨hx, hb, hr, hml, hown, hts, hX, hbl, hlocks, hgv0⟩ := C0
  have hgv := flat_of_before _ hgv0
  have hl : l.stackTraces = false := by
    unfold Launch.stackTraces
    rw [hflags]
    decide +kernel
  have hA0 : ∀ a : Nat, a < s.heap.size → ¬ (fun q : Nat => s.heap.size ≤ q) a := fun a h q => absurd h (Nat.not_lt.mpr q)
  obtain ⟨D, hD⟩ := ts_known hts
  obtain ⟨cy, cL, cD, hK⟩ := ts_arr hts hD
  obtain ⟨adK, adV, adE, tC, hSc⟩ := ts_Sc (A := (fun q : Nat => s.heap.size ≤ q)) hts hA0 hgv
  have hTh := ts_Th (A := (fun q : Nat => s.heap.size ≤ q)) hts hA0 hgv
  have hF := ts_F hts hgv hK
  have hE : tnE adK adV adE tC (fun q : Nat => s.heap.size ≤ q) s s.heap := ⟨hSc, va_AOA.of (hts (.arrayOver (.array .int)) (List.mem_of_getElem? (i := 158) (by decide +kernel))), va_AO.of (hts (.arrayOver (.object RX4)) (List.mem_of_getElem? (i := 270) (by decide +kernel)))⟩
  have hN : tmNs tm_NWC s := ts_N hts tm_NWC (ts_us [147, 160, 162, 164, 165, 179, 184, 185, 187, 188, 196, 201, 203, 205, 215, 221, 223, 230, 232, 234, 236, 238, 240, 242, 244, 246, 248, 273, 278, 279, 282, 284, 286, 288, 290, 292, 404, 490, 640, 643, 671, 672, 1156, 2172, 2173, 2174, 2175, 2176, 1311, 1475, 2170, 908, 828, 948, 2171, 831, 832, 1476, 1477, 829, 830, 833, 834] (by decide +kernel)) (by decide +kernel)
  have hK1 : va_K D vwCl (tm_tys cy) s := hK.sub (tys' := tm_tys cy) [0, 1, 2, 3, 4, 5] rfl
  have C0 : tmC p s m #[Value.ref b] meth c cL_law 10 ret RL TMW tm_NWC D cy tm_s0 tm_a0 0 (([] : va_W)) (fun q : Nat => s.heap.size ≤ q) := ⟨hx, hb, hml, hr, hlocks, hown, ts_hts hts, hK1, hN, tm_NWC_ok, ⟨fun i j p q h => by simp [tm_w] at h, fun k q h => by simp [tm_w] at h⟩, fun q h => h⟩
  have hl0 := lv_entry ([.ref b]) (n := 10) (Nat.le_of_ble_eq_true rfl)
  rw [lg_entry_eq]
  generalize (lg_sl ([.ref b]) ++ List.replicate (10 - (lg_sl ([.ref b])).length) Slot.unset).toArray = ls at hl0 ⊢
  suffices G : tmG p l e room_1 s m #[Value.ref b] below meth c (0) (0) (lw_Z below #[Value.ref b] s) 10 D cy tm_s0 tm_a0 0 (([] : va_W)) (fun q : Nat => s.heap.size ≤ q) () 0 [(0, .ref b)] [] tm_v0 (some ()) from G rfl s.heap [] ls (fun k q h => by simp [tm_w] at h) va_S.rf hl0
  refine tn_new (ci := 10) (fs := [.null, .null, .int 0, .int 0, .null, .int 0, .null, .null, .null]) C0 dL_law_0 rfl tu_X7 tyX7_ok tcl_L_8 tin_X7 tn_X7 (fun j hj => by rcases (show j = 0 ∨ j = 1 ∨ j = 2 ∨ j = 3 ∨ j = 4 ∨ j = 5 ∨ j = 6 ∨ j = 7 ∨ j = 8 by omega) with rfl | rfl | rfl | rfl | rfl | rfl | rfl | rfl | rfl <;> rfl) ⟨Nat.le_of_ble_eq_true rfl, Nat.le_of_ble_eq_true rfl⟩ (fun q1 C0 => ?_)
  refine tg_dup C0 dL_law_3 rfl ?_
  have C1 : tmC p s m #[Value.ref b] meth c cL_law 10 ret RL TMW tm_NWC D cy tm_s0 tm_a0 0 (([] : va_W) ++ k0_X7 q1) (fun q : Nat => s.heap.size ≤ q) := C0
  refine tn_X (X' := ([] : va_W) ++ k0_X7 q1) rfl ?_
  refine tn_call (w0 := k0_X7) (w1 := k1_X7) (b := q1) 0 C1 hE dL_law_4 (c_X7_init l) rfl rfl (tm_gc tc_X7_init) tl_L_135 tn_X7 ti_X7_init rfl rfl rfl rfl (by decide +kernel) ⟨Nat.le_of_ble_eq_true rfl, Nat.le_of_ble_eq_true rfl⟩ (Nat.le_of_ble_eq_true rfl) ⟨Nat.le_of_ble_eq_true rfl, Nat.le_of_ble_eq_true rfl⟩ (fun u1 C0 => ?_)
  refine tg_astore_n [(1, .ref q1), (0, .ref b)] C0 dL_law_7 rfl (by decide) rfl ?_
  refine tn_new (ci := 11) (fs := [.int 0, .null, .null, .int 0, .null, .null, .null, .int 0, .int 0, .int 0, .int 0, .int 0, .null, .int 0, .null, .null, .int 0, .int 0, .int 0, .int 0, .int 0, .int 0, .int 0, .null, .int 0, .null, .null, .null]) C0 dL_law_8 rfl tu_X8 tyX8_ok tcl_L_136 tin_X8 tn_X8 (fun j hj => by rcases (show j = 0 ∨ j = 1 ∨ j = 2 ∨ j = 3 ∨ j = 4 ∨ j = 5 ∨ j = 6 ∨ j = 7 ∨ j = 8 ∨ j = 9 ∨ j = 10 ∨ j = 11 ∨ j = 12 ∨ j = 13 ∨ j = 14 ∨ j = 15 ∨ j = 16 ∨ j = 17 ∨ j = 18 ∨ j = 19 ∨ j = 20 ∨ j = 21 ∨ j = 22 ∨ j = 23 ∨ j = 24 ∨ j = 25 ∨ j = 26 ∨ j = 27 by omega) with rfl | rfl | rfl | rfl | rfl | rfl | rfl | rfl | rfl | rfl | rfl | rfl | rfl | rfl | rfl | rfl | rfl | rfl | rfl | rfl | rfl | rfl | rfl | rfl | rfl | rfl | rfl | rfl <;> rfl) ⟨Nat.le_of_ble_eq_true rfl, Nat.le_of_ble_eq_true rfl⟩ (fun q2 C0 => ?_)
  refine tg_dup C0 dL_law_11 rfl ?_
  have C1 : tmC p s m #[Value.ref b] meth c cL_law 10 ret RL TMW tm_NWC D cy tm_s0 tm_a0 0 ((([] : va_W) ++ k1_X7 cy q1 u1) ++ k0_X8 q2) (fun q : Nat => s.heap.size ≤ q) := C0
  refine tn_X (X' := (([] : va_W) ++ k1_X7 cy q1 u1) ++ k0_X8 q2) rfl ?_
  refine tn_call (w0 := k0_X8) (w1 := k1_X8) (b := q2) 0 C1 hE dL_law_12 (ts_k8 l) rfl rfl (tm_gc tc_X8_init) tl_L_138 tn_X8 ti_X8_init rfl rfl rfl rfl (by decide +kernel) ⟨Nat.le_of_ble_eq_true rfl, Nat.le_of_ble_eq_true rfl⟩ (Nat.le_of_ble_eq_true rfl) ⟨Nat.le_of_ble_eq_true rfl, Nat.le_of_ble_eq_true rfl⟩ (fun u2 C0 => ?_)
  refine tg_astore_n [(2, .ref q2), (1, .ref q1), (0, .ref b)] C0 dL_law_15 rfl (by decide) rfl ?_
  refine tg_iconst (x := 1) C0 dL_law_16 (by decide) ?_
  refine ts_newL C0 hF dL_law_17 tacL ⟨Nat.le_of_ble_eq_true rfl, Nat.le_of_ble_eq_true rfl⟩ (fun o1 C0 => ?_)
  refine tg_astore_n [(3, .ref o1), (2, .ref q2), (1, .ref q1), (0, .ref b)] C0 dL_law_19 rfl (by decide) rfl ?_
  refine tg_iconst (x := 1) C0 dL_law_20 (by decide) ?_
  refine ts_newD C0 hF dL_law_21 tacD ⟨Nat.le_of_ble_eq_true rfl, Nat.le_of_ble_eq_true rfl⟩ (fun o2 C0 => ?_)
  refine tg_astore [(4, .ref o2), (3, .ref o1), (2, .ref q2), (1, .ref q1), (0, .ref b)] C0 dL_law_23 (by decide) rfl ?_
  refine tg_iconst (x := 0) C0 dL_law_25 (by decide) ?_
  refine tg_istore [(5, .int 0), (4, .ref o2), (3, .ref o1), (2, .ref q2), (1, .ref q1), (0, .ref b)] C0 dL_law_26 (by decide) rfl ?_
  have hXe : ((([] : va_W) ++ k1_X7 cy q1 u1) ++ k1_X8 cy q2 u2) ++ [(o1, .inl (cL, 1, .inr (.inl (tl_L 0))))] ++ [(o2, .inl (cD, 1, .inr (.inr (.inr (.inl (tl_D 0))))))] = tlW cy (tn_ad q1 u1) (tn_u0 q2 u2) o1 o2 cL cD 16 (u1 257) (fun _ _ => 0) tm_vC0 tm_vR1 0 0 := by
    rw [List.append_assoc, List.append_assoc]
    rfl
  rw [hXe] at C0
  refine tn_X hXe ?_
  refine tg_sub (lv' := [(0, .ref b), (1, .ref (tn_ad q1 u1 247)), (2, .ref (tn_u0 q2 u2 0)), (3, .ref o1), (4, .ref o2), (5, .int (nI 0))]) [5, 4, 3, 2, 1, 0] rfl ?_
  refine tl_widen (c2 := 273) (s2 := 14661) (Nat.le_of_ble_eq_true rfl) (Nat.le_of_ble_eq_true rfl) ?_
  exact law_loop hl hp hX hbl hL hSc hTh hF 512 0 273 14661 0 (by omega) (by omega) (Nat.zero_le _) (fun _ => rfl) (Nat.le_of_ble_eq_true rfl) (Nat.le_of_ble_eq_true rfl) 16 (u1 257) (fun _ _ => 0) tm_vC0 tm_vR1 [] 0 0 C0 ts_tx0 hR0
