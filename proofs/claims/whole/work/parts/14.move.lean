-- ----- X7_remember
theorem dX7_remember_0 : decode cX7_remember 0 = .ok (.aload_n 0, 1) := by decide +kernel
theorem dX7_remember_1 : decode cX7_remember 1 = .ok (.getfield 173, 3) := by decide +kernel
theorem dX7_remember_4 : decode cX7_remember 4 = .ok (.bipush 10, 2) := by decide +kernel
theorem dX7_remember_6 : decode cX7_remember 6 = .ok (.if_icmp .ne 26, 3) := by decide +kernel
theorem dX7_remember_9 : decode cX7_remember 9 = .ok (.aload_n 0, 1) := by decide +kernel
theorem dX7_remember_10 : decode cX7_remember 10 = .ok (.aload_n 0, 1) := by decide +kernel
theorem dX7_remember_11 : decode cX7_remember 11 = .ok (.getfield 307, 3) := by decide +kernel
theorem dX7_remember_14 : decode cX7_remember 14 = .ok (.iconst 1, 1) := by decide +kernel
theorem dX7_remember_15 : decode cX7_remember 15 = .ok (.iadd, 1) := by decide +kernel
theorem dX7_remember_16 : decode cX7_remember 16 = .ok (.bipush 10, 2) := by decide +kernel
theorem dX7_remember_18 : decode cX7_remember 18 = .ok (.irem, 1) := by decide +kernel
theorem dX7_remember_19 : decode cX7_remember 19 = .ok (.putfield 307, 3) := by decide +kernel
theorem dX7_remember_22 : decode cX7_remember 22 = .ok (.aload_n 0, 1) := by decide +kernel
theorem dX7_remember_23 : decode cX7_remember 23 = .ok (.dup, 1) := by decide +kernel
theorem dX7_remember_24 : decode cX7_remember 24 = .ok (.getfield 173, 3) := by decide +kernel
theorem dX7_remember_27 : decode cX7_remember 27 = .ok (.iconst 1, 1) := by decide +kernel
theorem dX7_remember_28 : decode cX7_remember 28 = .ok (.isub, 1) := by decide +kernel
theorem dX7_remember_29 : decode cX7_remember 29 = .ok (.putfield 173, 3) := by decide +kernel
theorem dX7_remember_32 : decode cX7_remember 32 = .ok (.aload_n 0, 1) := by decide +kernel
theorem dX7_remember_33 : decode cX7_remember 33 = .ok (.getfield 16, 3) := by decide +kernel
theorem dX7_remember_36 : decode cX7_remember 36 = .ok (.aload_n 0, 1) := by decide +kernel
theorem dX7_remember_37 : decode cX7_remember 37 = .ok (.getfield 307, 3) := by decide +kernel
theorem dX7_remember_40 : decode cX7_remember 40 = .ok (.aload_n 0, 1) := by decide +kernel
theorem dX7_remember_41 : decode cX7_remember 41 = .ok (.getfield 173, 3) := by decide +kernel
theorem dX7_remember_44 : decode cX7_remember 44 = .ok (.iadd, 1) := by decide +kernel
theorem dX7_remember_45 : decode cX7_remember 45 = .ok (.bipush 10, 2) := by decide +kernel
theorem dX7_remember_47 : decode cX7_remember 47 = .ok (.irem, 1) := by decide +kernel
theorem dX7_remember_48 : decode cX7_remember 48 = .ok (.aaload, 1) := by decide +kernel
theorem dX7_remember_49 : decode cX7_remember 49 = .ok (.aload_n 0, 1) := by decide +kernel
theorem dX7_remember_50 : decode cX7_remember 50 = .ok (.getfield 12, 3) := by decide +kernel
theorem dX7_remember_53 : decode cX7_remember 53 = .ok (.invokevirtual 310, 3) := by decide +kernel
theorem dX7_remember_56 : decode cX7_remember 56 = .ok (.aload_n 0, 1) := by decide +kernel
theorem dX7_remember_57 : decode cX7_remember 57 = .ok (.dup, 1) := by decide +kernel
theorem dX7_remember_58 : decode cX7_remember 58 = .ok (.getfield 173, 3) := by decide +kernel
theorem dX7_remember_61 : decode cX7_remember 61 = .ok (.iconst 1, 1) := by decide +kernel
theorem dX7_remember_62 : decode cX7_remember 62 = .ok (.iadd, 1) := by decide +kernel
theorem dX7_remember_63 : decode cX7_remember 63 = .ok (.putfield 173, 3) := by decide +kernel
theorem dX7_remember_66 : decode cX7_remember 66 = .ok (.return_, 1) := by decide +kernel
theorem tf_X7_173 : Cond.fieldLink RX7 173 "TableMove" (TX7 3).2.1 (TX7 3).2.2.1 ∈ TMW := tm_in 356 (by decide +kernel) (by decide +kernel)
theorem tu_X7 : ∀ w ∈ u_ws RX7 TX7 9, w ∈ TMW := tm_us [362, 364, 366, 368, 370, 372, 374, 376, 378] (by decide +kernel) (by decide +kernel)
theorem tf_X7_16 : Cond.fieldLink RX7 16 "TableMove" (TX7 1).2.1 (TX7 1).2.2.1 ∈ TMW := tm_in 354 (by decide +kernel) (by decide +kernel)
theorem tf_X7_307 : Cond.fieldLink RX7 307 "TableMove" (TX7 2).2.1 (TX7 2).2.2.1 ∈ TMW := tm_in 355 (by decide +kernel) (by decide +kernel)
theorem tf_X7_12 : Cond.fieldLink RX7 12 "TableMove" (TX7 0).2.1 (TX7 0).2.2.1 ∈ TMW := tm_in 353 (by decide +kernel) (by decide +kernel)
theorem tl_X7_310 : Cond.methodLink RX7 310 yX4_become ∈ TMW := tm_in 497 (by decide +kernel) (by decide +kernel)
theorem ti_X4_become : Cond.instanceMethod yX4_become ∈ TMW := tm_in 498 (by decide +kernel) (by decide +kernel)
theorem ts_X4_become : Cond.selects RX4 yX4_become yX4_become ∈ TMW := tm_in 499 (by decide +kernel) (by decide +kernel)
theorem tc_X4_become : Cond.code yX4_become cX4_become 2 none ∈ TMW := tm_in 500 (by decide +kernel) (by decide +kernel)
def f_X7_remember_32 (v : tmM) : Option (Unit × tmM) := tm_g (decide (¬ 10 = 0)) (tm_g (tm_ix (((v 247 2) + (v 247 3)) - ((v 247 2) + (v 247 3)) / 10 * 10) 10) (tm_lt (([19, 38, 57, 76, 95, 114, 133, 152, 171, 190] : List Nat).getD (((v 247 2) + (v 247 3)) - ((v 247 2) + (v 247 3)) / 10 * 10).toNatClampNeg 0) fun q2 => tm_cl (f_X4_become q2 0 v) fun _ v4 => tm_lt (tm_up v4 247 3 ((v4 247 3) + 1)) fun v6 => some ((), v6)))
set_option maxRecDepth 100000 in
set_option maxHeartbeats 4000000 in
theorem w_X7_remember_32 {p : Program} {l : Launch} {e : Env} {s : State} {m : MethodId} {args : Array Value} {below : List Frame} {meth : Method} {c : Code} {D : va_G} {cy : Nat → ClassId} {ad : Nat → Nat} {A : Nat → Prop} {z : (Unit × tmM)} (C0 : tmC p s m args meth c cX7_remember 1 none RX7 TMW tm_NWC D cy tm_shC ad 256 [] A) (v : tmM) : tmG p l e ({ frames := 4, cells := 0, slots := 0, locals := 104 } : Room) s m args below meth c 0 0 (MQ below (va_Qv (fun u => z = ((), u)) (tmAt tm_shC 256 D cy ad A) A) args s 0 0 A) 1 D cy tm_shC ad 256 [] A z 32 [(0, .ref (ad 247))] [] v (f_X7_remember_32 v) := by
  unfold f_X7_remember_32
  refine tg_aload_n 0 C0 dX7_remember_32 rfl rfl ?_
  refine tg_get 247 1 C0 dX7_remember_33 (by decide) rfl rfl tu_X7 (by decide) tf_X7_16 rfl rfl rfl ?_
  refine tg_aload_n 0 C0 dX7_remember_36 rfl rfl ?_
  refine tg_get 247 2 C0 dX7_remember_37 (by decide) rfl rfl tu_X7 (by decide) tf_X7_307 rfl rfl rfl ?_
  refine tg_aload_n 0 C0 dX7_remember_40 rfl rfl ?_
  refine tg_get 247 3 C0 dX7_remember_41 (by decide) rfl rfl tu_X7 (by decide) tf_X7_173 rfl rfl rfl ?_
  refine tg_iadd C0 dX7_remember_44 ?_
  refine tg_bipush (x := 10) C0 dX7_remember_45 (by decide) ?_
  refine tg_irem C0 dX7_remember_47 (fun _ => ?_)
  refine tg_aald 248 C0 dX7_remember_48 (by decide) rfl (by decide) rfl (fun q2 h1 e3 => ?_)
  have q2f := tm_all (P := tm_isS) h1 e3 (by decide +kernel)
  refine tg_aload_n 0 C0 dX7_remember_49 rfl rfl ?_
  refine tg_get 247 0 C0 dX7_remember_50 (by decide) rfl rfl tu_X7 (by decide) tf_X7_12 rfl rfl rfl ?_
  refine tg_callVv (As := [.ref (ad 0)]) q2 1 C0 dX7_remember_53 (c_X4_become l q2 0 q2f tm_S0 v) rfl rfl (tm_Sl 0 (by decide) q2f) (tm_S 0 (by decide) q2f) rfl (tm_gV tl_X7_310 ti_X4_become ts_X4_become tn_X4 tc_X4_become)  rfl rfl rfl rfl (by decide +kernel) ⟨by decide, by decide⟩ (Nat.le_of_ble_eq_true rfl) ⟨by decide, by decide⟩ (fun v4 _ => ?_)
  refine tg_aload_n 0 C0 dX7_remember_56 rfl rfl ?_
  refine tg_dup C0 dX7_remember_57 rfl ?_
  refine tg_get 247 3 C0 dX7_remember_58 (by decide) rfl rfl tu_X7 (by decide) tf_X7_173 rfl rfl rfl ?_
  refine tg_iconst (x := 1) C0 dX7_remember_61 (by decide) ?_
  refine tg_iadd C0 dX7_remember_62 ?_
  refine tg_put 247 3 C0 dX7_remember_63 (by decide) rfl rfl tu_X7 tyX7_ok nmX7 (by decide) tf_X7_173 rfl rfl rfl rfl rfl rfl ?_
  refine tg_letm (fun v6 _ => ?_)
  exact tg_vret C0 dX7_remember_66
def f_X7_remember (v : tmM) : Option (Unit × tmM) := (if (v 247 3) = 10 then tm_g (decide (¬ 10 = 0)) (tm_lt (tm_up v 247 2 (((v 247 2) + 1) - ((v 247 2) + 1) / 10 * 10)) fun v7 => tm_lt (tm_up v7 247 3 ((v7 247 3) - 1)) fun v8 => f_X7_remember_32 v8) else f_X7_remember_32 v)
set_option maxRecDepth 100000 in
set_option maxHeartbeats 4000000 in
theorem w_X7_remember {p : Program} {l : Launch} {e : Env} {s : State} {m : MethodId} {args : Array Value} {below : List Frame} {meth : Method} {c : Code} {D : va_G} {cy : Nat → ClassId} {ad : Nat → Nat} {A : Nat → Prop} {z : (Unit × tmM)} (C0 : tmC p s m args meth c cX7_remember 1 none RX7 TMW tm_NWC D cy tm_shC ad 256 [] A) (v : tmM) : tmG p l e ({ frames := 4, cells := 0, slots := 0, locals := 104 } : Room) s m args below meth c 0 0 (MQ below (va_Qv (fun u => z = ((), u)) (tmAt tm_shC 256 D cy ad A) A) args s 0 0 A) 1 D cy tm_shC ad 256 [] A z 0 [(0, .ref (ad 247))] [] v (f_X7_remember v) := by
  unfold f_X7_remember
  refine tg_aload_n 0 C0 dX7_remember_0 rfl rfl ?_
  refine tg_get 247 3 C0 dX7_remember_1 (by decide) rfl rfl tu_X7 (by decide) tf_X7_173 rfl rfl rfl ?_
  refine tg_bipush (x := 10) C0 dX7_remember_4 (by decide) ?_
  refine tg_icmp_ne 32 C0 dX7_remember_6 (by decide) (fun _ => ?_) (fun _ => ?_)
  · exact w_X7_remember_32 C0 v
  · refine tg_aload_n 0 C0 dX7_remember_9 rfl rfl ?_
    refine tg_aload_n 0 C0 dX7_remember_10 rfl rfl ?_
    refine tg_get 247 2 C0 dX7_remember_11 (by decide) rfl rfl tu_X7 (by decide) tf_X7_307 rfl rfl rfl ?_
    refine tg_iconst (x := 1) C0 dX7_remember_14 (by decide) ?_
    refine tg_iadd C0 dX7_remember_15 ?_
    refine tg_bipush (x := 10) C0 dX7_remember_16 (by decide) ?_
    refine tg_irem C0 dX7_remember_18 (fun _ => ?_)
    refine tg_put 247 2 C0 dX7_remember_19 (by decide) rfl rfl tu_X7 tyX7_ok nmX7 (by decide) tf_X7_307 rfl rfl rfl rfl rfl rfl ?_
    refine tg_letm (fun v7 _ => ?_)
    refine tg_aload_n 0 C0 dX7_remember_22 rfl rfl ?_
    refine tg_dup C0 dX7_remember_23 rfl ?_
    refine tg_get 247 3 C0 dX7_remember_24 (by decide) rfl rfl tu_X7 (by decide) tf_X7_173 rfl rfl rfl ?_
    refine tg_iconst (x := 1) C0 dX7_remember_27 (by decide) ?_
    refine tg_isub C0 dX7_remember_28 ?_
    refine tg_put 247 3 C0 dX7_remember_29 (by decide) rfl rfl tu_X7 tyX7_ok nmX7 (by decide) tf_X7_173 rfl rfl rfl rfl rfl rfl ?_
    refine tg_letm (fun v8 _ => ?_)
    exact w_X7_remember_32 C0 v8
theorem c_X7_remember (l : Launch) (v : tmM) : tmMv tm_NWC tm_shC 256 l yX7_remember (Cond.code yX7_remember cX7_remember 1 none :: TMW) ({ frames := 4, cells := 0, slots := 0, locals := 104 } : Room) (fun ad => [.ref (ad 247)]) v (f_X7_remember v) :=
  tmMv.of (cc := cX7_remember) (nL := 1) (by decide +kernel) rfl tm_NWC_ok (fun _ => Nat.le_of_ble_eq_true rfl) (fun p e s m args below meth c A D cy ad z C0 => w_X7_remember C0 v)
-- ----- X7_attempt
theorem dX7_attempt_0 : decode cX7_attempt 0 = .ok (.aload_n 0, 1) := by decide +kernel
theorem dX7_attempt_1 : decode cX7_attempt 1 = .ok (.getfield 12, 3) := by decide +kernel
theorem dX7_attempt_4 : decode cX7_attempt 4 = .ok (.iload_n 1, 1) := by decide +kernel
theorem dX7_attempt_5 : decode cX7_attempt 5 = .ok (.iload_n 2, 1) := by decide +kernel
theorem dX7_attempt_6 : decode cX7_attempt 6 = .ok (.invokevirtual 234, 3) := by decide +kernel
theorem dX7_attempt_9 : decode cX7_attempt 9 = .ok (.istore_n 3, 1) := by decide +kernel
theorem dX7_attempt_10 : decode cX7_attempt 10 = .ok (.aload_n 0, 1) := by decide +kernel
theorem dX7_attempt_11 : decode cX7_attempt 11 = .ok (.getfield 23, 3) := by decide +kernel
theorem dX7_attempt_14 : decode cX7_attempt 14 = .ok (.iload_n 3, 1) := by decide +kernel
theorem dX7_attempt_15 : decode cX7_attempt 15 = .ok (.dup2, 1) := by decide +kernel
theorem dX7_attempt_16 : decode cX7_attempt 16 = .ok (.iaload, 1) := by decide +kernel
theorem dX7_attempt_17 : decode cX7_attempt 17 = .ok (.iconst 1, 1) := by decide +kernel
theorem dX7_attempt_18 : decode cX7_attempt 18 = .ok (.iadd, 1) := by decide +kernel
theorem dX7_attempt_19 : decode cX7_attempt 19 = .ok (.iastore, 1) := by decide +kernel
theorem dX7_attempt_20 : decode cX7_attempt 20 = .ok (.iload_n 3, 1) := by decide +kernel
theorem dX7_attempt_21 : decode cX7_attempt 21 = .ok (.ifCond .ne 16, 3) := by decide +kernel
theorem dX7_attempt_24 : decode cX7_attempt 24 = .ok (.aload_n 0, 1) := by decide +kernel
theorem dX7_attempt_25 : decode cX7_attempt 25 = .ok (.invokevirtual 95, 3) := by decide +kernel
theorem dX7_attempt_28 : decode cX7_attempt 28 = .ok (.aload_n 0, 1) := by decide +kernel
theorem dX7_attempt_29 : decode cX7_attempt 29 = .ok (.getfield 12, 3) := by decide +kernel
theorem dX7_attempt_32 : decode cX7_attempt 32 = .ok (.iload_n 1, 1) := by decide +kernel
theorem dX7_attempt_33 : decode cX7_attempt 33 = .ok (.iload_n 2, 1) := by decide +kernel
theorem dX7_attempt_34 : decode cX7_attempt 34 = .ok (.invokevirtual 331, 3) := by decide +kernel
theorem dX7_attempt_37 : decode cX7_attempt 37 = .ok (.iload_n 3, 1) := by decide +kernel
theorem dX7_attempt_38 : decode cX7_attempt 38 = .ok (.ireturn, 1) := by decide +kernel
theorem tl_X7_234 : Cond.methodLink RX7 234 yX4_reasonAgainst ∈ TMW := tm_in 596 (by decide +kernel) (by decide +kernel)
theorem ti_X4_reasonAgainst : Cond.instanceMethod yX4_reasonAgainst ∈ TMW := tm_in 597 (by decide +kernel) (by decide +kernel)
theorem ts_X4_reasonAgainst : Cond.selects RX4 yX4_reasonAgainst yX4_reasonAgainst ∈ TMW := tm_in 598 (by decide +kernel) (by decide +kernel)
theorem tc_X4_reasonAgainst : Cond.code yX4_reasonAgainst cX4_reasonAgainst 3 (some .int) ∈ TMW := tm_in 599 (by decide +kernel) (by decide +kernel)
theorem tf_X7_23 : Cond.fieldLink RX7 23 "TableMove" (TX7 6).2.1 (TX7 6).2.2.1 ∈ TMW := tm_in 359 (by decide +kernel) (by decide +kernel)
theorem tl_X7_95 : Cond.methodLink RX7 95 yX7_remember ∈ TMW := tm_in 493 (by decide +kernel) (by decide +kernel)
theorem ti_X7_remember : Cond.instanceMethod yX7_remember ∈ TMW := tm_in 495 (by decide +kernel) (by decide +kernel)
theorem ts_X7_remember : Cond.selects RX7 yX7_remember yX7_remember ∈ TMW := tm_in 9 (by decide +kernel) (by decide +kernel)
theorem tc_X7_remember : Cond.code yX7_remember cX7_remember 1 none ∈ TMW := tm_in 496 (by decide +kernel) (by decide +kernel)
theorem tl_X7_331 : Cond.methodLink RX7 331 yX4_perform ∈ TMW := tm_in 659 (by decide +kernel) (by decide +kernel)
theorem ti_X4_perform : Cond.instanceMethod yX4_perform ∈ TMW := tm_in 660 (by decide +kernel) (by decide +kernel)
theorem ts_X4_perform : Cond.selects RX4 yX4_perform yX4_perform ∈ TMW := tm_in 661 (by decide +kernel) (by decide +kernel)
theorem tc_X4_perform : Cond.code yX4_perform cX4_perform 3 none ∈ TMW := tm_in 662 (by decide +kernel) (by decide +kernel)
def f_X7_attempt (x1 x2 : Int32) (v : tmM) : Option (Int32 × tmM) := tm_cl (f_X4_reasonAgainst x1 x2 v) fun r2 v1 => tm_g (tm_ix r2 10) (tm_g (tm_ix r2 10) (tm_lt (tm_up v1 250 r2.toNatClampNeg ((v1 250 r2.toNatClampNeg) + 1)) fun v3 => (if r2 = 0 then tm_cl (f_X7_remember v3) fun _ v4 => tm_cl (f_X4_perform x1 x2 v4) fun _ v6 => some (r2, v6) else some (r2, v3))))
set_option maxRecDepth 100000 in
set_option maxHeartbeats 4000000 in
theorem w_X7_attempt {p : Program} {l : Launch} {e : Env} {s : State} {m : MethodId} {args : Array Value} {below : List Frame} {meth : Method} {c : Code} {D : va_G} {cy : Nat → ClassId} {ad : Nat → Nat} {A : Nat → Prop} {z : (Int32 × tmM)} (C0 : tmC p s m args meth c cX7_attempt 4 (some .int) RX7 TMW tm_NWC D cy tm_shC ad 256 [] A) (x1 x2 : Int32) (v : tmM) : tmG p l e ({ frames := 5, cells := 0, slots := 0, locals := 131 } : Room) s m args below meth c 0 0 (MQ below (va_Qi (fun r u => z = (r, u)) (tmAt tm_shC 256 D cy ad A) A) args s 0 0 A) 4 D cy tm_shC ad 256 [] A z 0 [(0, .ref (ad 247)), (1, .int x1), (2, .int x2)] [] v (f_X7_attempt x1 x2 v) := by
  unfold f_X7_attempt
  refine tg_aload_n 0 C0 dX7_attempt_0 rfl rfl ?_
  refine tg_get 247 0 C0 dX7_attempt_1 (by decide) rfl rfl tu_X7 (by decide) tf_X7_12 rfl rfl rfl ?_
  refine tg_iload_n 1 C0 dX7_attempt_4 rfl rfl ?_
  refine tg_iload_n 2 C0 dX7_attempt_5 rfl rfl ?_
  refine tg_callVi (As := [.int x1, .int x2]) 0 2 C0 dX7_attempt_6 (c_X4_reasonAgainst l x1 x2 v) rfl rfl (by decide) rfl rfl (tm_gV tl_X7_234 ti_X4_reasonAgainst ts_X4_reasonAgainst tn_X4 tc_X4_reasonAgainst)  rfl rfl rfl rfl (by decide +kernel) ⟨by decide, by decide⟩ (Nat.le_of_ble_eq_true rfl) ⟨by decide, by decide⟩ (fun r2 v1 _ => ?_)
  refine tg_istore_n [(3, .int r2), (0, .ref (ad 247)), (1, .int x1), (2, .int x2)] C0 dX7_attempt_9 rfl (by decide) rfl ?_
  refine tg_aload_n 1 C0 dX7_attempt_10 rfl rfl ?_
  refine tg_get 247 6 C0 dX7_attempt_11 (by decide) rfl rfl tu_X7 (by decide) tf_X7_23 rfl rfl rfl ?_
  refine tg_iload_n 0 C0 dX7_attempt_14 rfl rfl ?_
  refine tg_dup2 C0 dX7_attempt_15 ⟨rfl, rfl⟩ ?_
  refine tg_iald 250 C0 dX7_attempt_16 (by decide) rfl (fun _ => ?_)
  refine tg_iconst (x := 1) C0 dX7_attempt_17 (by decide) ?_
  refine tg_iadd C0 dX7_attempt_18 ?_
  refine tg_iast 250 C0 dX7_attempt_19 (by decide) rfl (fun _ => ?_)
  refine tg_letm (fun v3 _ => ?_)
  refine tg_iload_n 0 C0 dX7_attempt_20 rfl rfl ?_
  refine tg_if_ne 37 C0 dX7_attempt_21 (by decide) (fun _ => ?_) (fun _ => ?_)
  · refine tg_iload_n 0 C0 dX7_attempt_37 rfl rfl ?_
    exact tg_iret C0 dX7_attempt_38
  · refine tg_aload_n 1 C0 dX7_attempt_24 rfl rfl ?_
    refine tg_callVv (As := []) 247 0 C0 dX7_attempt_25 (c_X7_remember l v3) rfl rfl (by decide) rfl rfl (tm_gV tl_X7_95 ti_X7_remember ts_X7_remember tn_X7 tc_X7_remember)  rfl rfl rfl rfl (by decide +kernel) ⟨by decide, by decide⟩ (Nat.le_of_ble_eq_true rfl) ⟨by decide, by decide⟩ (fun v4 _ => ?_)
    refine tg_aload_n 1 C0 dX7_attempt_28 rfl rfl ?_
    refine tg_get 247 0 C0 dX7_attempt_29 (by decide) rfl rfl tu_X7 (by decide) tf_X7_12 rfl rfl rfl ?_
    refine tg_iload_n 2 C0 dX7_attempt_32 rfl rfl ?_
    refine tg_iload_n 3 C0 dX7_attempt_33 rfl rfl ?_
    refine tg_callVv (As := [.int x1, .int x2]) 0 2 C0 dX7_attempt_34 (c_X4_perform l x1 x2 v4) rfl rfl (by decide) rfl rfl (tm_gV tl_X7_331 ti_X4_perform ts_X4_perform tn_X4 tc_X4_perform)  rfl rfl rfl rfl (by decide +kernel) ⟨by decide, by decide⟩ (Nat.le_of_ble_eq_true rfl) ⟨by decide, by decide⟩ (fun v6 _ => ?_)
    refine tg_iload_n 0 C0 dX7_attempt_37 rfl rfl ?_
    exact tg_iret C0 dX7_attempt_38
theorem c_X7_attempt (l : Launch) (x1 x2 : Int32) (v : tmM) : tmMi tm_NWC tm_shC 256 l yX7_attempt (Cond.code yX7_attempt cX7_attempt 4 (some .int) :: TMW) ({ frames := 5, cells := 0, slots := 0, locals := 131 } : Room) (fun ad => [.ref (ad 247), .int x1, .int x2]) v (f_X7_attempt x1 x2 v) :=
  tmMi.of (cc := cX7_attempt) (nL := 4) (by decide +kernel) rfl tm_NWC_ok (fun _ => Nat.le_of_ble_eq_true rfl) (fun p e s m args below meth c A D cy ad z C0 => w_X7_attempt C0 x1 x2 v)
-- ----- X7_writeRows
theorem dX7_writeRows_0 : decode cX7_writeRows 0 = .ok (.aload_n 0, 1) := by decide +kernel
theorem dX7_writeRows_1 : decode cX7_writeRows 1 = .ok (.getfield 12, 3) := by decide +kernel
theorem dX7_writeRows_4 : decode cX7_writeRows 4 = .ok (.invokevirtual 335, 3) := by decide +kernel
theorem dX7_writeRows_7 : decode cX7_writeRows 7 = .ok (.istore 5, 2) := by decide +kernel
theorem dX7_writeRows_9 : decode cX7_writeRows 9 = .ok (.aload_n 0, 1) := by decide +kernel
theorem dX7_writeRows_10 : decode cX7_writeRows 10 = .ok (.getfield 23, 3) := by decide +kernel
theorem dX7_writeRows_13 : decode cX7_writeRows 13 = .ok (.iload 5, 2) := by decide +kernel
theorem dX7_writeRows_15 : decode cX7_writeRows 15 = .ok (.dup2, 1) := by decide +kernel
theorem dX7_writeRows_16 : decode cX7_writeRows 16 = .ok (.iaload, 1) := by decide +kernel
theorem dX7_writeRows_17 : decode cX7_writeRows 17 = .ok (.iconst 1, 1) := by decide +kernel
theorem dX7_writeRows_18 : decode cX7_writeRows 18 = .ok (.iadd, 1) := by decide +kernel
theorem dX7_writeRows_19 : decode cX7_writeRows 19 = .ok (.iastore, 1) := by decide +kernel
theorem dX7_writeRows_20 : decode cX7_writeRows 20 = .ok (.iload 5, 2) := by decide +kernel
theorem dX7_writeRows_22 : decode cX7_writeRows 22 = .ok (.ifCond .ne 44, 3) := by decide +kernel
theorem dX7_writeRows_25 : decode cX7_writeRows 25 = .ok (.aload_n 0, 1) := by decide +kernel
theorem dX7_writeRows_26 : decode cX7_writeRows 26 = .ok (.invokevirtual 95, 3) := by decide +kernel
theorem dX7_writeRows_29 : decode cX7_writeRows 29 = .ok (.iload_n 1, 1) := by decide +kernel
theorem dX7_writeRows_30 : decode cX7_writeRows 30 = .ok (.istore 6, 2) := by decide +kernel
theorem dX7_writeRows_32 : decode cX7_writeRows 32 = .ok (.iload 6, 2) := by decide +kernel
theorem dX7_writeRows_34 : decode cX7_writeRows 34 = .ok (.iload_n 2, 1) := by decide +kernel
theorem dX7_writeRows_35 : decode cX7_writeRows 35 = .ok (.if_icmp .gt 31, 3) := by decide +kernel
theorem dX7_writeRows_38 : decode cX7_writeRows 38 = .ok (.aload_n 0, 1) := by decide +kernel
theorem dX7_writeRows_39 : decode cX7_writeRows 39 = .ok (.getfield 12, 3) := by decide +kernel
theorem dX7_writeRows_42 : decode cX7_writeRows 42 = .ok (.iload 6, 2) := by decide +kernel
theorem dX7_writeRows_44 : decode cX7_writeRows 44 = .ok (.iload_n 3, 1) := by decide +kernel
theorem dX7_writeRows_45 : decode cX7_writeRows 45 = .ok (.iload 6, 2) := by decide +kernel
theorem dX7_writeRows_47 : decode cX7_writeRows 47 = .ok (.iload_n 1, 1) := by decide +kernel
theorem dX7_writeRows_48 : decode cX7_writeRows 48 = .ok (.isub, 1) := by decide +kernel
theorem dX7_writeRows_49 : decode cX7_writeRows 49 = .ok (.iload 4, 2) := by decide +kernel
theorem dX7_writeRows_51 : decode cX7_writeRows 51 = .ok (.imul, 1) := by decide +kernel
theorem dX7_writeRows_52 : decode cX7_writeRows 52 = .ok (.iadd, 1) := by decide +kernel
theorem dX7_writeRows_53 : decode cX7_writeRows 53 = .ok (.sipush 1000, 3) := by decide +kernel
theorem dX7_writeRows_56 : decode cX7_writeRows 56 = .ok (.irem, 1) := by decide +kernel
theorem dX7_writeRows_57 : decode cX7_writeRows 57 = .ok (.invokevirtual 338, 3) := by decide +kernel
theorem dX7_writeRows_60 : decode cX7_writeRows 60 = .ok (.iinc 6 1, 3) := by decide +kernel
theorem dX7_writeRows_63 : decode cX7_writeRows 63 = .ok (.goto (-31), 3) := by decide +kernel
theorem dX7_writeRows_66 : decode cX7_writeRows 66 = .ok (.iload 5, 2) := by decide +kernel
theorem dX7_writeRows_68 : decode cX7_writeRows 68 = .ok (.ireturn, 1) := by decide +kernel
theorem tl_X7_335 : Cond.methodLink RX7 335 yX4_reasonAgainstWriting ∈ TMW := tm_in 482 (by decide +kernel) (by decide +kernel)
theorem ti_X4_reasonAgainstWriting : Cond.instanceMethod yX4_reasonAgainstWriting ∈ TMW := tm_in 483 (by decide +kernel) (by decide +kernel)
theorem ts_X4_reasonAgainstWriting : Cond.selects RX4 yX4_reasonAgainstWriting yX4_reasonAgainstWriting ∈ TMW := tm_in 484 (by decide +kernel) (by decide +kernel)
theorem tc_X4_reasonAgainstWriting : Cond.code yX4_reasonAgainstWriting cX4_reasonAgainstWriting 1 (some .int) ∈ TMW := tm_in 485 (by decide +kernel) (by decide +kernel)
theorem tl_X7_338 : Cond.methodLink RX7 338 yX4_writeRow ∈ TMW := tm_in 527 (by decide +kernel) (by decide +kernel)
theorem ti_X4_writeRow : Cond.instanceMethod yX4_writeRow ∈ TMW := tm_in 528 (by decide +kernel) (by decide +kernel)
theorem ts_X4_writeRow : Cond.selects RX4 yX4_writeRow yX4_writeRow ∈ TMW := tm_in 529 (by decide +kernel) (by decide +kernel)
theorem tc_X4_writeRow : Cond.code yX4_writeRow cX4_writeRow 4 none ∈ TMW := tm_in 530 (by decide +kernel) (by decide +kernel)
def f_X7_writeRows_32b (K0 : Int32 → tmM → Option (Int32 × tmM)) (L : Int32 → Int32 → Int32 → Int32 → Int32 → Int32 → tmM → Option (Int32 × tmM)) (x1 x2 x3 x4 x5 x6 : Int32) (v : tmM) : Option (Int32 × tmM) := (if x2 < x6 then K0 x5 v else tm_g (decide (¬ 1000 = 0)) (tm_cl (f_X4_writeRow x6 ((x3 + ((x6 - x1) * x4)) - (x3 + ((x6 - x1) * x4)) / 1000 * 1000) v) fun _ v6 => L x1 x2 x3 x4 x5 (x6 + 1) v6))
set_option maxRecDepth 100000 in
set_option maxHeartbeats 4000000 in
theorem w_X7_writeRows_32b {p : Program} {l : Launch} {e : Env} {s : State} {m : MethodId} {args : Array Value} {below : List Frame} {meth : Method} {c : Code} {D : va_G} {cy : Nat → ClassId} {ad : Nat → Nat} {A : Nat → Prop} {z : (Int32 × tmM)} {K0 : Int32 → tmM → Option (Int32 × tmM)} {L : Int32 → Int32 → Int32 → Int32 → Int32 → Int32 → tmM → Option (Int32 × tmM)} (C0 : tmC p s m args meth c cX7_writeRows 7 (some .int) RX7 TMW tm_NWC D cy tm_shC ad 256 [] A) (hK0 : ∀ (a5 : Int32) (w : tmM), tmG p l e ({ frames := 5, cells := 0, slots := 0, locals := 124 } : Room) s m args below meth c 0 0 (MQ below (va_Qi (fun r u => z = (r, u)) (tmAt tm_shC 256 D cy ad A) A) args s 0 0 A) 7 D cy tm_shC ad 256 [] A z 66 [(5, .int a5)] [] w (K0 a5 w)) (hL : ∀ (a1 a2 a3 a4 a5 a6 : Int32) (w : tmM), tmG p l e ({ frames := 5, cells := 0, slots := 0, locals := 124 } : Room) s m args below meth c 0 0 (MQ below (va_Qi (fun r u => z = (r, u)) (tmAt tm_shC 256 D cy ad A) A) args s 0 0 A) 7 D cy tm_shC ad 256 [] A z 32 [(0, .ref (ad 247)), (1, .int a1), (2, .int a2), (3, .int a3), (4, .int a4), (5, .int a5), (6, .int a6)] [] w (L a1 a2 a3 a4 a5 a6 w)) (x1 x2 x3 x4 x5 x6 : Int32) (v : tmM) : tmG p l e ({ frames := 5, cells := 0, slots := 0, locals := 124 } : Room) s m args below meth c 0 0 (MQ below (va_Qi (fun r u => z = (r, u)) (tmAt tm_shC 256 D cy ad A) A) args s 0 0 A) 7 D cy tm_shC ad 256 [] A z 32 [(0, .ref (ad 247)), (1, .int x1), (2, .int x2), (3, .int x3), (4, .int x4), (5, .int x5), (6, .int x6)] [] v (f_X7_writeRows_32b K0 L x1 x2 x3 x4 x5 x6 v) := by
  unfold f_X7_writeRows_32b
  refine tg_iload 6 C0 dX7_writeRows_32 rfl ?_
  refine tg_iload_n 2 C0 dX7_writeRows_34 rfl rfl ?_
  refine tg_icmp_gt 66 C0 dX7_writeRows_35 (by decide) (fun _ => ?_) (fun _ => ?_)
  · refine tg_sub [5] rfl ?_
    exact hK0 x5 v
  · refine tg_aload_n 0 C0 dX7_writeRows_38 rfl rfl ?_
    refine tg_get 247 0 C0 dX7_writeRows_39 (by decide) rfl rfl tu_X7 (by decide) tf_X7_12 rfl rfl rfl ?_
    refine tg_iload 6 C0 dX7_writeRows_42 rfl ?_
    refine tg_iload_n 3 C0 dX7_writeRows_44 rfl rfl ?_
    refine tg_iload 6 C0 dX7_writeRows_45 rfl ?_
    refine tg_iload_n 1 C0 dX7_writeRows_47 rfl rfl ?_
    refine tg_isub C0 dX7_writeRows_48 ?_
    refine tg_iload 4 C0 dX7_writeRows_49 rfl ?_
    refine tg_imul C0 dX7_writeRows_51 ?_
    refine tg_iadd C0 dX7_writeRows_52 ?_
    refine tg_sipush (x := 1000) C0 dX7_writeRows_53 (by decide) ?_
    refine tg_irem C0 dX7_writeRows_56 (fun _ => ?_)
    refine tg_callVv (As := [.int x6, .int ((x3 + ((x6 - x1) * x4)) - (x3 + ((x6 - x1) * x4)) / 1000 * 1000)]) 0 2 C0 dX7_writeRows_57 (c_X4_writeRow l x6 ((x3 + ((x6 - x1) * x4)) - (x3 + ((x6 - x1) * x4)) / 1000 * 1000) v) rfl rfl (by decide) rfl rfl (tm_gV tl_X7_338 ti_X4_writeRow ts_X4_writeRow tn_X4 tc_X4_writeRow)  rfl rfl rfl rfl (by decide +kernel) ⟨by decide, by decide⟩ (Nat.le_of_ble_eq_true rfl) ⟨by decide, by decide⟩ (fun v6 _ => ?_)
    refine tg_iinc [(6, .int (x6 + 1)), (0, .ref (ad 247)), (1, .int x1), (2, .int x2), (3, .int x3), (4, .int x4), (5, .int x5)] 6 C0 dX7_writeRows_60 rfl rfl (by decide) rfl ?_
    refine tg_goto 32 C0 dX7_writeRows_63 (by decide) ?_
    refine tg_sub [1, 2, 3, 4, 5, 6, 0] rfl ?_
    exact hL x1 x2 x3 x4 x5 (x6 + 1) v6
def f_X7_writeRows_32 (K0 : Int32 → tmM → Option (Int32 × tmM)) : Nat → Int32 → Int32 → Int32 → Int32 → Int32 → Int32 → tmM → Option (Int32 × tmM)
  | 0 => fun _ _ _ _ _ _ _ => none
  | n + 1 => f_X7_writeRows_32b K0 (f_X7_writeRows_32 K0 n)
theorem w_X7_writeRows_32 {p : Program} {l : Launch} {e : Env} {s : State} {m : MethodId} {args : Array Value} {below : List Frame} {meth : Method} {c : Code} {D : va_G} {cy : Nat → ClassId} {ad : Nat → Nat} {A : Nat → Prop} {z : (Int32 × tmM)} {K0 : Int32 → tmM → Option (Int32 × tmM)} (C0 : tmC p s m args meth c cX7_writeRows 7 (some .int) RX7 TMW tm_NWC D cy tm_shC ad 256 [] A) (hK0 : ∀ (a5 : Int32) (w : tmM), tmG p l e ({ frames := 5, cells := 0, slots := 0, locals := 124 } : Room) s m args below meth c 0 0 (MQ below (va_Qi (fun r u => z = (r, u)) (tmAt tm_shC 256 D cy ad A) A) args s 0 0 A) 7 D cy tm_shC ad 256 [] A z 66 [(5, .int a5)] [] w (K0 a5 w)) (nn : Nat) : ∀ (x1 x2 x3 x4 x5 x6 : Int32) (v : tmM), tmG p l e ({ frames := 5, cells := 0, slots := 0, locals := 124 } : Room) s m args below meth c 0 0 (MQ below (va_Qi (fun r u => z = (r, u)) (tmAt tm_shC 256 D cy ad A) A) args s 0 0 A) 7 D cy tm_shC ad 256 [] A z 32 [(0, .ref (ad 247)), (1, .int x1), (2, .int x2), (3, .int x3), (4, .int x4), (5, .int x5), (6, .int x6)] [] v (f_X7_writeRows_32 K0 nn x1 x2 x3 x4 x5 x6 v) := by
  induction nn with
  | zero => intro _ _ _ _ _ _ _; exact tg_none
  | succ n ih => intro x1 x2 x3 x4 x5 x6 v; exact w_X7_writeRows_32b C0 hK0 ih x1 x2 x3 x4 x5 x6 v
def f_X7_writeRows (x1 x2 x3 x4 : Int32) (v : tmM) : Option (Int32 × tmM) := tm_cl (f_X4_reasonAgainstWriting v) fun r2 v1 => tm_g (tm_ix r2 10) (tm_g (tm_ix r2 10) (tm_lt (tm_up v1 250 r2.toNatClampNeg ((v1 250 r2.toNatClampNeg) + 1)) fun v3 => (if r2 = 0 then tm_cl (f_X7_remember v3) fun _ v4 => f_X7_writeRows_32 (fun x8 v9 => some (x8, v9)) 10000 x1 x2 x3 x4 r2 x1 v4 else some (r2, v3))))
set_option maxRecDepth 100000 in
set_option maxHeartbeats 4000000 in
theorem w_X7_writeRows {p : Program} {l : Launch} {e : Env} {s : State} {m : MethodId} {args : Array Value} {below : List Frame} {meth : Method} {c : Code} {D : va_G} {cy : Nat → ClassId} {ad : Nat → Nat} {A : Nat → Prop} {z : (Int32 × tmM)} (C0 : tmC p s m args meth c cX7_writeRows 7 (some .int) RX7 TMW tm_NWC D cy tm_shC ad 256 [] A) (x1 x2 x3 x4 : Int32) (v : tmM) : tmG p l e ({ frames := 5, cells := 0, slots := 0, locals := 124 } : Room) s m args below meth c 0 0 (MQ below (va_Qi (fun r u => z = (r, u)) (tmAt tm_shC 256 D cy ad A) A) args s 0 0 A) 7 D cy tm_shC ad 256 [] A z 0 [(0, .ref (ad 247)), (1, .int x1), (2, .int x2), (3, .int x3), (4, .int x4)] [] v (f_X7_writeRows x1 x2 x3 x4 v) := by
  unfold f_X7_writeRows
  refine tg_aload_n 0 C0 dX7_writeRows_0 rfl rfl ?_
  refine tg_get 247 0 C0 dX7_writeRows_1 (by decide) rfl rfl tu_X7 (by decide) tf_X7_12 rfl rfl rfl ?_
  refine tg_callVi (As := []) 0 0 C0 dX7_writeRows_4 (c_X4_reasonAgainstWriting l v) rfl rfl (by decide) rfl rfl (tm_gV tl_X7_335 ti_X4_reasonAgainstWriting ts_X4_reasonAgainstWriting tn_X4 tc_X4_reasonAgainstWriting)  rfl rfl rfl rfl (by decide +kernel) ⟨by decide, by decide⟩ (Nat.le_of_ble_eq_true rfl) ⟨by decide, by decide⟩ (fun r2 v1 _ => ?_)
  refine tg_istore [(5, .int r2), (0, .ref (ad 247)), (1, .int x1), (2, .int x2), (3, .int x3), (4, .int x4)] C0 dX7_writeRows_7 (by decide) rfl ?_
  refine tg_aload_n 1 C0 dX7_writeRows_9 rfl rfl ?_
  refine tg_get 247 6 C0 dX7_writeRows_10 (by decide) rfl rfl tu_X7 (by decide) tf_X7_23 rfl rfl rfl ?_
  refine tg_iload 0 C0 dX7_writeRows_13 rfl ?_
  refine tg_dup2 C0 dX7_writeRows_15 ⟨rfl, rfl⟩ ?_
  refine tg_iald 250 C0 dX7_writeRows_16 (by decide) rfl (fun _ => ?_)
  refine tg_iconst (x := 1) C0 dX7_writeRows_17 (by decide) ?_
  refine tg_iadd C0 dX7_writeRows_18 ?_
  refine tg_iast 250 C0 dX7_writeRows_19 (by decide) rfl (fun _ => ?_)
  refine tg_letm (fun v3 _ => ?_)
  refine tg_iload 0 C0 dX7_writeRows_20 rfl ?_
  refine tg_if_ne 66 C0 dX7_writeRows_22 (by decide) (fun _ => ?_) (fun _ => ?_)
  · refine tg_iload 0 C0 dX7_writeRows_66 rfl ?_
    exact tg_iret C0 dX7_writeRows_68
  · refine tg_aload_n 1 C0 dX7_writeRows_25 rfl rfl ?_
    refine tg_callVv (As := []) 247 0 C0 dX7_writeRows_26 (c_X7_remember l v3) rfl rfl (by decide) rfl rfl (tm_gV tl_X7_95 ti_X7_remember ts_X7_remember tn_X7 tc_X7_remember)  rfl rfl rfl rfl (by decide +kernel) ⟨by decide, by decide⟩ (Nat.le_of_ble_eq_true rfl) ⟨by decide, by decide⟩ (fun v4 _ => ?_)
    refine tg_iload_n 2 C0 dX7_writeRows_29 rfl rfl ?_
    refine tg_istore [(6, .int x1), (5, .int r2), (0, .ref (ad 247)), (1, .int x1), (2, .int x2), (3, .int x3), (4, .int x4)] C0 dX7_writeRows_30 (by decide) rfl ?_
    refine tg_sub [2, 3, 4, 5, 6, 1, 0] rfl ?_
    refine w_X7_writeRows_32 C0 (fun x8 v9 => ?_) 10000 x1 x2 x3 x4 r2 x1 v4
    refine tg_iload 0 C0 dX7_writeRows_66 rfl ?_
    exact tg_iret C0 dX7_writeRows_68
theorem c_X7_writeRows (l : Launch) (x1 x2 x3 x4 : Int32) (v : tmM) : tmMi tm_NWC tm_shC 256 l yX7_writeRows (Cond.code yX7_writeRows cX7_writeRows 7 (some .int) :: TMW) ({ frames := 5, cells := 0, slots := 0, locals := 124 } : Room) (fun ad => [.ref (ad 247), .int x1, .int x2, .int x3, .int x4]) v (f_X7_writeRows x1 x2 x3 x4 v) :=
  tmMi.of (cc := cX7_writeRows) (nL := 7) (by decide +kernel) rfl tm_NWC_ok (fun _ => Nat.le_of_ble_eq_true rfl) (fun p e s m args below meth c A D cy ad z C0 => w_X7_writeRows C0 x1 x2 x3 x4 v)
-- ----- X7_removeRows
theorem dX7_removeRows_0 : decode cX7_removeRows 0 = .ok (.aload_n 0, 1) := by decide +kernel
theorem dX7_removeRows_1 : decode cX7_removeRows 1 = .ok (.getfield 12, 3) := by decide +kernel
theorem dX7_removeRows_4 : decode cX7_removeRows 4 = .ok (.iload_n 1, 1) := by decide +kernel
theorem dX7_removeRows_5 : decode cX7_removeRows 5 = .ok (.iload_n 2, 1) := by decide +kernel
theorem dX7_removeRows_6 : decode cX7_removeRows 6 = .ok (.invokevirtual 341, 3) := by decide +kernel
theorem dX7_removeRows_9 : decode cX7_removeRows 9 = .ok (.istore_n 3, 1) := by decide +kernel
theorem dX7_removeRows_10 : decode cX7_removeRows 10 = .ok (.aload_n 0, 1) := by decide +kernel
theorem dX7_removeRows_11 : decode cX7_removeRows 11 = .ok (.getfield 23, 3) := by decide +kernel
theorem dX7_removeRows_14 : decode cX7_removeRows 14 = .ok (.iload_n 3, 1) := by decide +kernel
theorem dX7_removeRows_15 : decode cX7_removeRows 15 = .ok (.dup2, 1) := by decide +kernel
theorem dX7_removeRows_16 : decode cX7_removeRows 16 = .ok (.iaload, 1) := by decide +kernel
theorem dX7_removeRows_17 : decode cX7_removeRows 17 = .ok (.iconst 1, 1) := by decide +kernel
theorem dX7_removeRows_18 : decode cX7_removeRows 18 = .ok (.iadd, 1) := by decide +kernel
theorem dX7_removeRows_19 : decode cX7_removeRows 19 = .ok (.iastore, 1) := by decide +kernel
theorem dX7_removeRows_20 : decode cX7_removeRows 20 = .ok (.iload_n 3, 1) := by decide +kernel
theorem dX7_removeRows_21 : decode cX7_removeRows 21 = .ok (.ifCond .ne 44, 3) := by decide +kernel
theorem dX7_removeRows_24 : decode cX7_removeRows 24 = .ok (.aload_n 0, 1) := by decide +kernel
theorem dX7_removeRows_25 : decode cX7_removeRows 25 = .ok (.invokevirtual 95, 3) := by decide +kernel
theorem dX7_removeRows_28 : decode cX7_removeRows 28 = .ok (.iload_n 1, 1) := by decide +kernel
theorem dX7_removeRows_29 : decode cX7_removeRows 29 = .ok (.istore 4, 2) := by decide +kernel
theorem dX7_removeRows_31 : decode cX7_removeRows 31 = .ok (.iload 4, 2) := by decide +kernel
theorem dX7_removeRows_33 : decode cX7_removeRows 33 = .ok (.iload_n 2, 1) := by decide +kernel
theorem dX7_removeRows_34 : decode cX7_removeRows 34 = .ok (.if_icmp .gt 31, 3) := by decide +kernel
theorem dX7_removeRows_37 : decode cX7_removeRows 37 = .ok (.aload_n 0, 1) := by decide +kernel
theorem dX7_removeRows_38 : decode cX7_removeRows 38 = .ok (.getfield 12, 3) := by decide +kernel
theorem dX7_removeRows_41 : decode cX7_removeRows 41 = .ok (.iload 4, 2) := by decide +kernel
theorem dX7_removeRows_43 : decode cX7_removeRows 43 = .ok (.invokevirtual 344, 3) := by decide +kernel
theorem dX7_removeRows_46 : decode cX7_removeRows 46 = .ok (.ifCond .eq 13, 3) := by decide +kernel
theorem dX7_removeRows_49 : decode cX7_removeRows 49 = .ok (.aload_n 0, 1) := by decide +kernel
theorem dX7_removeRows_50 : decode cX7_removeRows 50 = .ok (.getfield 12, 3) := by decide +kernel
theorem dX7_removeRows_53 : decode cX7_removeRows 53 = .ok (.iload 4, 2) := by decide +kernel
theorem dX7_removeRows_55 : decode cX7_removeRows 55 = .ok (.iconst (-1), 1) := by decide +kernel
theorem dX7_removeRows_56 : decode cX7_removeRows 56 = .ok (.invokevirtual 338, 3) := by decide +kernel
theorem dX7_removeRows_59 : decode cX7_removeRows 59 = .ok (.iinc 4 1, 3) := by decide +kernel
theorem dX7_removeRows_62 : decode cX7_removeRows 62 = .ok (.goto (-31), 3) := by decide +kernel
theorem dX7_removeRows_65 : decode cX7_removeRows 65 = .ok (.iload_n 3, 1) := by decide +kernel
theorem dX7_removeRows_66 : decode cX7_removeRows 66 = .ok (.ireturn, 1) := by decide +kernel
theorem tl_X7_341 : Cond.methodLink RX7 341 yX4_reasonAgainstRemoving ∈ TMW := tm_in 583 (by decide +kernel) (by decide +kernel)
theorem ti_X4_reasonAgainstRemoving : Cond.instanceMethod yX4_reasonAgainstRemoving ∈ TMW := tm_in 584 (by decide +kernel) (by decide +kernel)
theorem ts_X4_reasonAgainstRemoving : Cond.selects RX4 yX4_reasonAgainstRemoving yX4_reasonAgainstRemoving ∈ TMW := tm_in 585 (by decide +kernel) (by decide +kernel)
theorem tc_X4_reasonAgainstRemoving : Cond.code yX4_reasonAgainstRemoving cX4_reasonAgainstRemoving 4 (some .int) ∈ TMW := tm_in 586 (by decide +kernel) (by decide +kernel)
theorem tl_X7_344 : Cond.methodLink RX7 344 yX4_leadsRow ∈ TMW := tm_in 591 (by decide +kernel) (by decide +kernel)
def f_X7_removeRows_59 (K0 : Int32 → tmM → Option (Int32 × tmM)) (L : Int32 → Int32 → Int32 → tmM → Option (Int32 × tmM)) (x2 x3 x4 : Int32) (v : tmM) : Option (Int32 × tmM) := L x2 x3 (x4 + 1) v
set_option maxRecDepth 100000 in
set_option maxHeartbeats 4000000 in
theorem w_X7_removeRows_59 {p : Program} {l : Launch} {e : Env} {s : State} {m : MethodId} {args : Array Value} {below : List Frame} {meth : Method} {c : Code} {D : va_G} {cy : Nat → ClassId} {ad : Nat → Nat} {A : Nat → Prop} {z : (Int32 × tmM)} {K0 : Int32 → tmM → Option (Int32 × tmM)} {L : Int32 → Int32 → Int32 → tmM → Option (Int32 × tmM)} (C0 : tmC p s m args meth c cX7_removeRows 5 (some .int) RX7 TMW tm_NWC D cy tm_shC ad 256 [] A) (hK0 : ∀ (a3 : Int32) (w : tmM), tmG p l e ({ frames := 5, cells := 0, slots := 0, locals := 124 } : Room) s m args below meth c 0 0 (MQ below (va_Qi (fun r u => z = (r, u)) (tmAt tm_shC 256 D cy ad A) A) args s 0 0 A) 5 D cy tm_shC ad 256 [] A z 65 [(3, .int a3)] [] w (K0 a3 w)) (hL : ∀ (a2 a3 a4 : Int32) (w : tmM), tmG p l e ({ frames := 5, cells := 0, slots := 0, locals := 124 } : Room) s m args below meth c 0 0 (MQ below (va_Qi (fun r u => z = (r, u)) (tmAt tm_shC 256 D cy ad A) A) args s 0 0 A) 5 D cy tm_shC ad 256 [] A z 31 [(0, .ref (ad 247)), (2, .int a2), (3, .int a3), (4, .int a4)] [] w (L a2 a3 a4 w)) (x2 x3 x4 : Int32) (v : tmM) : tmG p l e ({ frames := 5, cells := 0, slots := 0, locals := 124 } : Room) s m args below meth c 0 0 (MQ below (va_Qi (fun r u => z = (r, u)) (tmAt tm_shC 256 D cy ad A) A) args s 0 0 A) 5 D cy tm_shC ad 256 [] A z 59 [(0, .ref (ad 247)), (2, .int x2), (3, .int x3), (4, .int x4)] [] v (f_X7_removeRows_59 K0 L x2 x3 x4 v) := by
  unfold f_X7_removeRows_59
  refine tg_iinc [(4, .int (x4 + 1)), (0, .ref (ad 247)), (2, .int x2), (3, .int x3)] 3 C0 dX7_removeRows_59 rfl rfl (by decide) rfl ?_
  refine tg_goto 31 C0 dX7_removeRows_62 (by decide) ?_
  refine tg_sub [1, 2, 3, 0] rfl ?_
  exact hL x2 x3 (x4 + 1) v
def f_X7_removeRows_31b (K0 : Int32 → tmM → Option (Int32 × tmM)) (L : Int32 → Int32 → Int32 → tmM → Option (Int32 × tmM)) (x2 x3 x4 : Int32) (v : tmM) : Option (Int32 × tmM) := (if x2 < x4 then K0 x3 v else tm_cl (f_X4_leadsRow x4 v) fun r7 v6 => (if r7 = 0 then f_X7_removeRows_59 K0 L x2 x3 x4 v6 else tm_cl (f_X4_writeRow x4 (-1) v6) fun _ v8 => f_X7_removeRows_59 K0 L x2 x3 x4 v8))
set_option maxRecDepth 100000 in
set_option maxHeartbeats 4000000 in
theorem w_X7_removeRows_31b {p : Program} {l : Launch} {e : Env} {s : State} {m : MethodId} {args : Array Value} {below : List Frame} {meth : Method} {c : Code} {D : va_G} {cy : Nat → ClassId} {ad : Nat → Nat} {A : Nat → Prop} {z : (Int32 × tmM)} {K0 : Int32 → tmM → Option (Int32 × tmM)} {L : Int32 → Int32 → Int32 → tmM → Option (Int32 × tmM)} (C0 : tmC p s m args meth c cX7_removeRows 5 (some .int) RX7 TMW tm_NWC D cy tm_shC ad 256 [] A) (hK0 : ∀ (a3 : Int32) (w : tmM), tmG p l e ({ frames := 5, cells := 0, slots := 0, locals := 124 } : Room) s m args below meth c 0 0 (MQ below (va_Qi (fun r u => z = (r, u)) (tmAt tm_shC 256 D cy ad A) A) args s 0 0 A) 5 D cy tm_shC ad 256 [] A z 65 [(3, .int a3)] [] w (K0 a3 w)) (hL : ∀ (a2 a3 a4 : Int32) (w : tmM), tmG p l e ({ frames := 5, cells := 0, slots := 0, locals := 124 } : Room) s m args below meth c 0 0 (MQ below (va_Qi (fun r u => z = (r, u)) (tmAt tm_shC 256 D cy ad A) A) args s 0 0 A) 5 D cy tm_shC ad 256 [] A z 31 [(0, .ref (ad 247)), (2, .int a2), (3, .int a3), (4, .int a4)] [] w (L a2 a3 a4 w)) (x2 x3 x4 : Int32) (v : tmM) : tmG p l e ({ frames := 5, cells := 0, slots := 0, locals := 124 } : Room) s m args below meth c 0 0 (MQ below (va_Qi (fun r u => z = (r, u)) (tmAt tm_shC 256 D cy ad A) A) args s 0 0 A) 5 D cy tm_shC ad 256 [] A z 31 [(0, .ref (ad 247)), (2, .int x2), (3, .int x3), (4, .int x4)] [] v (f_X7_removeRows_31b K0 L x2 x3 x4 v) := by
  unfold f_X7_removeRows_31b
  refine tg_iload 3 C0 dX7_removeRows_31 rfl ?_
  refine tg_iload_n 1 C0 dX7_removeRows_33 rfl rfl ?_
  refine tg_icmp_gt 65 C0 dX7_removeRows_34 (by decide) (fun _ => ?_) (fun _ => ?_)
  · refine tg_sub [2] rfl ?_
    exact hK0 x3 v
  · refine tg_aload_n 0 C0 dX7_removeRows_37 rfl rfl ?_
    refine tg_get 247 0 C0 dX7_removeRows_38 (by decide) rfl rfl tu_X7 (by decide) tf_X7_12 rfl rfl rfl ?_
    refine tg_iload 3 C0 dX7_removeRows_41 rfl ?_
    refine tg_callVi (As := [.int x4]) 0 1 C0 dX7_removeRows_43 (c_X4_leadsRow l x4 v) rfl rfl (by decide) rfl rfl (tm_gV tl_X7_344 ti_X4_leadsRow ts_X4_leadsRow tn_X4 tc_X4_leadsRow)  rfl rfl rfl rfl (by decide +kernel) ⟨by decide, by decide⟩ (Nat.le_of_ble_eq_true rfl) ⟨by decide, by decide⟩ (fun r7 v6 _ => ?_)
    refine tg_if_eq 59 C0 dX7_removeRows_46 (by decide) (fun _ => ?_) (fun _ => ?_)
    · exact w_X7_removeRows_59 C0 hK0 hL x2 x3 x4 v6
    · refine tg_aload_n 0 C0 dX7_removeRows_49 rfl rfl ?_
      refine tg_get 247 0 C0 dX7_removeRows_50 (by decide) rfl rfl tu_X7 (by decide) tf_X7_12 rfl rfl rfl ?_
      refine tg_iload 3 C0 dX7_removeRows_53 rfl ?_
      refine tg_iconst (x := (-1)) C0 dX7_removeRows_55 (by decide) ?_
      refine tg_callVv (As := [.int x4, .int (-1)]) 0 2 C0 dX7_removeRows_56 (c_X4_writeRow l x4 (-1) v6) rfl rfl (by decide) rfl rfl (tm_gV tl_X7_338 ti_X4_writeRow ts_X4_writeRow tn_X4 tc_X4_writeRow)  rfl rfl rfl rfl (by decide +kernel) ⟨by decide, by decide⟩ (Nat.le_of_ble_eq_true rfl) ⟨by decide, by decide⟩ (fun v8 _ => ?_)
      exact w_X7_removeRows_59 C0 hK0 hL x2 x3 x4 v8
def f_X7_removeRows_31 (K0 : Int32 → tmM → Option (Int32 × tmM)) : Nat → Int32 → Int32 → Int32 → tmM → Option (Int32 × tmM)
  | 0 => fun _ _ _ _ => none
  | n + 1 => f_X7_removeRows_31b K0 (f_X7_removeRows_31 K0 n)
theorem w_X7_removeRows_31 {p : Program} {l : Launch} {e : Env} {s : State} {m : MethodId} {args : Array Value} {below : List Frame} {meth : Method} {c : Code} {D : va_G} {cy : Nat → ClassId} {ad : Nat → Nat} {A : Nat → Prop} {z : (Int32 × tmM)} {K0 : Int32 → tmM → Option (Int32 × tmM)} (C0 : tmC p s m args meth c cX7_removeRows 5 (some .int) RX7 TMW tm_NWC D cy tm_shC ad 256 [] A) (hK0 : ∀ (a3 : Int32) (w : tmM), tmG p l e ({ frames := 5, cells := 0, slots := 0, locals := 124 } : Room) s m args below meth c 0 0 (MQ below (va_Qi (fun r u => z = (r, u)) (tmAt tm_shC 256 D cy ad A) A) args s 0 0 A) 5 D cy tm_shC ad 256 [] A z 65 [(3, .int a3)] [] w (K0 a3 w)) (nn : Nat) : ∀ (x2 x3 x4 : Int32) (v : tmM), tmG p l e ({ frames := 5, cells := 0, slots := 0, locals := 124 } : Room) s m args below meth c 0 0 (MQ below (va_Qi (fun r u => z = (r, u)) (tmAt tm_shC 256 D cy ad A) A) args s 0 0 A) 5 D cy tm_shC ad 256 [] A z 31 [(0, .ref (ad 247)), (2, .int x2), (3, .int x3), (4, .int x4)] [] v (f_X7_removeRows_31 K0 nn x2 x3 x4 v) := by
  induction nn with
  | zero => intro _ _ _ _; exact tg_none
  | succ n ih => intro x2 x3 x4 v; exact w_X7_removeRows_31b C0 hK0 ih x2 x3 x4 v
def f_X7_removeRows (x1 x2 : Int32) (v : tmM) : Option (Int32 × tmM) := tm_cl (f_X4_reasonAgainstRemoving x1 x2 v) fun r2 v1 => tm_g (tm_ix r2 10) (tm_g (tm_ix r2 10) (tm_lt (tm_up v1 250 r2.toNatClampNeg ((v1 250 r2.toNatClampNeg) + 1)) fun v3 => (if r2 = 0 then tm_cl (f_X7_remember v3) fun _ v4 => f_X7_removeRows_31 (fun x10 v11 => some (x10, v11)) 10000 x2 r2 x1 v4 else some (r2, v3))))
set_option maxRecDepth 100000 in
set_option maxHeartbeats 4000000 in
theorem w_X7_removeRows {p : Program} {l : Launch} {e : Env} {s : State} {m : MethodId} {args : Array Value} {below : List Frame} {meth : Method} {c : Code} {D : va_G} {cy : Nat → ClassId} {ad : Nat → Nat} {A : Nat → Prop} {z : (Int32 × tmM)} (C0 : tmC p s m args meth c cX7_removeRows 5 (some .int) RX7 TMW tm_NWC D cy tm_shC ad 256 [] A) (x1 x2 : Int32) (v : tmM) : tmG p l e ({ frames := 5, cells := 0, slots := 0, locals := 124 } : Room) s m args below meth c 0 0 (MQ below (va_Qi (fun r u => z = (r, u)) (tmAt tm_shC 256 D cy ad A) A) args s 0 0 A) 5 D cy tm_shC ad 256 [] A z 0 [(0, .ref (ad 247)), (1, .int x1), (2, .int x2)] [] v (f_X7_removeRows x1 x2 v) := by
  unfold f_X7_removeRows
  refine tg_aload_n 0 C0 dX7_removeRows_0 rfl rfl ?_
  refine tg_get 247 0 C0 dX7_removeRows_1 (by decide) rfl rfl tu_X7 (by decide) tf_X7_12 rfl rfl rfl ?_
  refine tg_iload_n 1 C0 dX7_removeRows_4 rfl rfl ?_
  refine tg_iload_n 2 C0 dX7_removeRows_5 rfl rfl ?_
  refine tg_callVi (As := [.int x1, .int x2]) 0 2 C0 dX7_removeRows_6 (c_X4_reasonAgainstRemoving l x1 x2 v) rfl rfl (by decide) rfl rfl (tm_gV tl_X7_341 ti_X4_reasonAgainstRemoving ts_X4_reasonAgainstRemoving tn_X4 tc_X4_reasonAgainstRemoving)  rfl rfl rfl rfl (by decide +kernel) ⟨by decide, by decide⟩ (Nat.le_of_ble_eq_true rfl) ⟨by decide, by decide⟩ (fun r2 v1 _ => ?_)
  refine tg_istore_n [(3, .int r2), (0, .ref (ad 247)), (1, .int x1), (2, .int x2)] C0 dX7_removeRows_9 rfl (by decide) rfl ?_
  refine tg_aload_n 1 C0 dX7_removeRows_10 rfl rfl ?_
  refine tg_get 247 6 C0 dX7_removeRows_11 (by decide) rfl rfl tu_X7 (by decide) tf_X7_23 rfl rfl rfl ?_
  refine tg_iload_n 0 C0 dX7_removeRows_14 rfl rfl ?_
  refine tg_dup2 C0 dX7_removeRows_15 ⟨rfl, rfl⟩ ?_
  refine tg_iald 250 C0 dX7_removeRows_16 (by decide) rfl (fun _ => ?_)
  refine tg_iconst (x := 1) C0 dX7_removeRows_17 (by decide) ?_
  refine tg_iadd C0 dX7_removeRows_18 ?_
  refine tg_iast 250 C0 dX7_removeRows_19 (by decide) rfl (fun _ => ?_)
  refine tg_letm (fun v3 _ => ?_)
  refine tg_iload_n 0 C0 dX7_removeRows_20 rfl rfl ?_
  refine tg_if_ne 65 C0 dX7_removeRows_21 (by decide) (fun _ => ?_) (fun _ => ?_)
  · refine tg_iload_n 0 C0 dX7_removeRows_65 rfl rfl ?_
    exact tg_iret C0 dX7_removeRows_66
  · refine tg_aload_n 1 C0 dX7_removeRows_24 rfl rfl ?_
    refine tg_callVv (As := []) 247 0 C0 dX7_removeRows_25 (c_X7_remember l v3) rfl rfl (by decide) rfl rfl (tm_gV tl_X7_95 ti_X7_remember ts_X7_remember tn_X7 tc_X7_remember)  rfl rfl rfl rfl (by decide +kernel) ⟨by decide, by decide⟩ (Nat.le_of_ble_eq_true rfl) ⟨by decide, by decide⟩ (fun v4 _ => ?_)
    refine tg_iload_n 2 C0 dX7_removeRows_28 rfl rfl ?_
    refine tg_istore [(4, .int x1), (3, .int r2), (0, .ref (ad 247)), (1, .int x1), (2, .int x2)] C0 dX7_removeRows_29 (by decide) rfl ?_
    refine tg_sub [2, 4, 1, 0] rfl ?_
    refine w_X7_removeRows_31 C0 (fun x10 v11 => ?_) 10000 x2 r2 x1 v4
    refine tg_iload_n 0 C0 dX7_removeRows_65 rfl rfl ?_
    exact tg_iret C0 dX7_removeRows_66
theorem c_X7_removeRows (l : Launch) (x1 x2 : Int32) (v : tmM) : tmMi tm_NWC tm_shC 256 l yX7_removeRows (Cond.code yX7_removeRows cX7_removeRows 5 (some .int) :: TMW) ({ frames := 5, cells := 0, slots := 0, locals := 124 } : Room) (fun ad => [.ref (ad 247), .int x1, .int x2]) v (f_X7_removeRows x1 x2 v) :=
  tmMi.of (cc := cX7_removeRows) (nL := 5) (by decide +kernel) rfl tm_NWC_ok (fun _ => Nat.le_of_ble_eq_true rfl) (fun p e s m args below meth c A D cy ad z C0 => w_X7_removeRows C0 x1 x2 v)
-- ----- X7_undo
theorem dX7_undo_0 : decode cX7_undo 0 = .ok (.aload_n 0, 1) := by decide +kernel
theorem dX7_undo_1 : decode cX7_undo 1 = .ok (.getfield 173, 3) := by decide +kernel
theorem dX7_undo_4 : decode cX7_undo 4 = .ok (.ifCond .ne 5, 3) := by decide +kernel
theorem dX7_undo_7 : decode cX7_undo 7 = .ok (.iconst (-1), 1) := by decide +kernel
theorem dX7_undo_8 : decode cX7_undo 8 = .ok (.ireturn, 1) := by decide +kernel
theorem dX7_undo_9 : decode cX7_undo 9 = .ok (.aload_n 0, 1) := by decide +kernel
theorem dX7_undo_10 : decode cX7_undo 10 = .ok (.dup, 1) := by decide +kernel
theorem dX7_undo_11 : decode cX7_undo 11 = .ok (.getfield 173, 3) := by decide +kernel
theorem dX7_undo_14 : decode cX7_undo 14 = .ok (.iconst 1, 1) := by decide +kernel
theorem dX7_undo_15 : decode cX7_undo 15 = .ok (.isub, 1) := by decide +kernel
theorem dX7_undo_16 : decode cX7_undo 16 = .ok (.putfield 173, 3) := by decide +kernel
theorem dX7_undo_19 : decode cX7_undo 19 = .ok (.aload_n 0, 1) := by decide +kernel
theorem dX7_undo_20 : decode cX7_undo 20 = .ok (.getfield 12, 3) := by decide +kernel
theorem dX7_undo_23 : decode cX7_undo 23 = .ok (.aload_n 0, 1) := by decide +kernel
theorem dX7_undo_24 : decode cX7_undo 24 = .ok (.getfield 16, 3) := by decide +kernel
theorem dX7_undo_27 : decode cX7_undo 27 = .ok (.aload_n 0, 1) := by decide +kernel
theorem dX7_undo_28 : decode cX7_undo 28 = .ok (.getfield 307, 3) := by decide +kernel
theorem dX7_undo_31 : decode cX7_undo 31 = .ok (.aload_n 0, 1) := by decide +kernel
theorem dX7_undo_32 : decode cX7_undo 32 = .ok (.getfield 173, 3) := by decide +kernel
theorem dX7_undo_35 : decode cX7_undo 35 = .ok (.iadd, 1) := by decide +kernel
theorem dX7_undo_36 : decode cX7_undo 36 = .ok (.bipush 10, 2) := by decide +kernel
theorem dX7_undo_38 : decode cX7_undo 38 = .ok (.irem, 1) := by decide +kernel
theorem dX7_undo_39 : decode cX7_undo 39 = .ok (.aaload, 1) := by decide +kernel
theorem dX7_undo_40 : decode cX7_undo 40 = .ok (.invokevirtual 310, 3) := by decide +kernel
theorem dX7_undo_43 : decode cX7_undo 43 = .ok (.aload_n 0, 1) := by decide +kernel
theorem dX7_undo_44 : decode cX7_undo 44 = .ok (.getfield 173, 3) := by decide +kernel
theorem dX7_undo_47 : decode cX7_undo 47 = .ok (.ireturn, 1) := by decide +kernel
def f_X7_undo (v : tmM) : Option (Int32 × tmM) := (if (v 247 3) = 0 then some ((-1), v) else tm_lt (tm_up v 247 3 ((v 247 3) - 1)) fun v1 => tm_g (decide (¬ 10 = 0)) (tm_g (tm_ix (((v1 247 2) + (v1 247 3)) - ((v1 247 2) + (v1 247 3)) / 10 * 10) 10) (tm_lt (([19, 38, 57, 76, 95, 114, 133, 152, 171, 190] : List Nat).getD (((v1 247 2) + (v1 247 3)) - ((v1 247 2) + (v1 247 3)) / 10 * 10).toNatClampNeg 0) fun q3 => tm_cl (f_X4_become 0 q3 v1) fun _ v5 => some (v5 247 3, v5))))
set_option maxRecDepth 100000 in
set_option maxHeartbeats 4000000 in
theorem w_X7_undo {p : Program} {l : Launch} {e : Env} {s : State} {m : MethodId} {args : Array Value} {below : List Frame} {meth : Method} {c : Code} {D : va_G} {cy : Nat → ClassId} {ad : Nat → Nat} {A : Nat → Prop} {z : (Int32 × tmM)} (C0 : tmC p s m args meth c cX7_undo 1 (some .int) RX7 TMW tm_NWC D cy tm_shC ad 256 [] A) (v : tmM) : tmG p l e ({ frames := 4, cells := 0, slots := 0, locals := 104 } : Room) s m args below meth c 0 0 (MQ below (va_Qi (fun r u => z = (r, u)) (tmAt tm_shC 256 D cy ad A) A) args s 0 0 A) 1 D cy tm_shC ad 256 [] A z 0 [(0, .ref (ad 247))] [] v (f_X7_undo v) := by
  unfold f_X7_undo
  refine tg_aload_n 0 C0 dX7_undo_0 rfl rfl ?_
  refine tg_get 247 3 C0 dX7_undo_1 (by decide) rfl rfl tu_X7 (by decide) tf_X7_173 rfl rfl rfl ?_
  refine tg_if_ne 9 C0 dX7_undo_4 (by decide) (fun _ => ?_) (fun _ => ?_)
  · refine tg_aload_n 0 C0 dX7_undo_9 rfl rfl ?_
    refine tg_dup C0 dX7_undo_10 rfl ?_
    refine tg_get 247 3 C0 dX7_undo_11 (by decide) rfl rfl tu_X7 (by decide) tf_X7_173 rfl rfl rfl ?_
    refine tg_iconst (x := 1) C0 dX7_undo_14 (by decide) ?_
    refine tg_isub C0 dX7_undo_15 ?_
    refine tg_put 247 3 C0 dX7_undo_16 (by decide) rfl rfl tu_X7 tyX7_ok nmX7 (by decide) tf_X7_173 rfl rfl rfl rfl rfl rfl ?_
    refine tg_letm (fun v1 _ => ?_)
    refine tg_aload_n 0 C0 dX7_undo_19 rfl rfl ?_
    refine tg_get 247 0 C0 dX7_undo_20 (by decide) rfl rfl tu_X7 (by decide) tf_X7_12 rfl rfl rfl ?_
    refine tg_aload_n 0 C0 dX7_undo_23 rfl rfl ?_
    refine tg_get 247 1 C0 dX7_undo_24 (by decide) rfl rfl tu_X7 (by decide) tf_X7_16 rfl rfl rfl ?_
    refine tg_aload_n 0 C0 dX7_undo_27 rfl rfl ?_
    refine tg_get 247 2 C0 dX7_undo_28 (by decide) rfl rfl tu_X7 (by decide) tf_X7_307 rfl rfl rfl ?_
    refine tg_aload_n 0 C0 dX7_undo_31 rfl rfl ?_
    refine tg_get 247 3 C0 dX7_undo_32 (by decide) rfl rfl tu_X7 (by decide) tf_X7_173 rfl rfl rfl ?_
    refine tg_iadd C0 dX7_undo_35 ?_
    refine tg_bipush (x := 10) C0 dX7_undo_36 (by decide) ?_
    refine tg_irem C0 dX7_undo_38 (fun _ => ?_)
    refine tg_aald 248 C0 dX7_undo_39 (by decide) rfl (by decide) rfl (fun q3 h2 e4 => ?_)
    have q3f := tm_all (P := tm_isS) h2 e4 (by decide +kernel)
    refine tg_callVv (As := [.ref (ad q3)]) 0 1 C0 dX7_undo_40 (c_X4_become l 0 q3 tm_S0 q3f v1) rfl rfl (by decide) rfl rfl (tm_gV tl_X7_310 ti_X4_become ts_X4_become tn_X4 tc_X4_become)  rfl rfl rfl rfl (by decide +kernel) ⟨by decide, by decide⟩ (Nat.le_of_ble_eq_true rfl) ⟨by decide, by decide⟩ (fun v5 _ => ?_)
    refine tg_aload_n 0 C0 dX7_undo_43 rfl rfl ?_
    refine tg_get 247 3 C0 dX7_undo_44 (by decide) rfl rfl tu_X7 (by decide) tf_X7_173 rfl rfl rfl ?_
    exact tg_iret C0 dX7_undo_47
  · refine tg_iconst (x := (-1)) C0 dX7_undo_7 (by decide) ?_
    exact tg_iret C0 dX7_undo_8
theorem c_X7_undo (l : Launch) (v : tmM) : tmMi tm_NWC tm_shC 256 l yX7_undo (Cond.code yX7_undo cX7_undo 1 (some .int) :: TMW) ({ frames := 4, cells := 0, slots := 0, locals := 104 } : Room) (fun ad => [.ref (ad 247)]) v (f_X7_undo v) :=
  tmMi.of (cc := cX7_undo) (nL := 1) (by decide +kernel) rfl tm_NWC_ok (fun _ => Nat.le_of_ble_eq_true rfl) (fun p e s m args below meth c A D cy ad z C0 => w_X7_undo C0 v)
-- ----- X7_begin
theorem dX7_begin_0 : decode cX7_begin 0 = .ok (.aload_n 0, 1) := by decide +kernel
theorem dX7_begin_1 : decode cX7_begin 1 = .ok (.iconst 0, 1) := by decide +kernel
theorem dX7_begin_2 : decode cX7_begin 2 = .ok (.iconst 0, 1) := by decide +kernel
theorem dX7_begin_3 : decode cX7_begin 3 = .ok (.invokevirtual 82, 3) := by decide +kernel
theorem dX7_begin_6 : decode cX7_begin 6 = .ok (.ireturn, 1) := by decide +kernel
theorem tl_X7_82 : Cond.methodLink RX7 82 yX7_attempt ∈ TMW := tm_in 592 (by decide +kernel) (by decide +kernel)
theorem ti_X7_attempt : Cond.instanceMethod yX7_attempt ∈ TMW := tm_in 594 (by decide +kernel) (by decide +kernel)
theorem ts_X7_attempt : Cond.selects RX7 yX7_attempt yX7_attempt ∈ TMW := tm_in 15 (by decide +kernel) (by decide +kernel)
theorem tc_X7_attempt : Cond.code yX7_attempt cX7_attempt 4 (some .int) ∈ TMW := tm_in 595 (by decide +kernel) (by decide +kernel)
def f_X7_begin (v : tmM) : Option (Int32 × tmM) := tm_cl (f_X7_attempt 0 0 v) fun r2 v1 => some (r2, v1)
set_option maxRecDepth 100000 in
set_option maxHeartbeats 4000000 in
theorem w_X7_begin {p : Program} {l : Launch} {e : Env} {s : State} {m : MethodId} {args : Array Value} {below : List Frame} {meth : Method} {c : Code} {D : va_G} {cy : Nat → ClassId} {ad : Nat → Nat} {A : Nat → Prop} {z : (Int32 × tmM)} (C0 : tmC p s m args meth c cX7_begin 1 (some .int) RX7 TMW tm_NWC D cy tm_shC ad 256 [] A) (v : tmM) : tmG p l e ({ frames := 6, cells := 0, slots := 0, locals := 154 } : Room) s m args below meth c 0 0 (MQ below (va_Qi (fun r u => z = (r, u)) (tmAt tm_shC 256 D cy ad A) A) args s 0 0 A) 1 D cy tm_shC ad 256 [] A z 0 [(0, .ref (ad 247))] [] v (f_X7_begin v) := by
  unfold f_X7_begin
  refine tg_aload_n 0 C0 dX7_begin_0 rfl rfl ?_
  refine tg_iconst (x := 0) C0 dX7_begin_1 (by decide) ?_
  refine tg_iconst (x := 0) C0 dX7_begin_2 (by decide) ?_
  refine tg_callVi (As := [.int 0, .int 0]) 247 2 C0 dX7_begin_3 (c_X7_attempt l 0 0 v) rfl rfl (by decide) rfl rfl (tm_gV tl_X7_82 ti_X7_attempt ts_X7_attempt tn_X7 tc_X7_attempt)  rfl rfl rfl rfl (by decide +kernel) ⟨by decide, by decide⟩ (Nat.le_of_ble_eq_true rfl) ⟨by decide, by decide⟩ (fun r2 v1 _ => ?_)
  exact tg_iret C0 dX7_begin_6
theorem c_X7_begin (l : Launch) (v : tmM) : tmMi tm_NWC tm_shC 256 l yX7_begin (Cond.code yX7_begin cX7_begin 1 (some .int) :: TMW) ({ frames := 6, cells := 0, slots := 0, locals := 154 } : Room) (fun ad => [.ref (ad 247)]) v (f_X7_begin v) :=
  tmMi.of (cc := cX7_begin) (nL := 1) (by decide +kernel) rfl tm_NWC_ok (fun _ => Nat.le_of_ble_eq_true rfl) (fun p e s m args below meth c A D cy ad z C0 => w_X7_begin C0 v)
-- ----- X7_lead
theorem dX7_lead_0 : decode cX7_lead 0 = .ok (.aload_n 0, 1) := by decide +kernel
theorem dX7_lead_1 : decode cX7_lead 1 = .ok (.bipush 6, 2) := by decide +kernel
theorem dX7_lead_3 : decode cX7_lead 3 = .ok (.iconst 0, 1) := by decide +kernel
theorem dX7_lead_4 : decode cX7_lead 4 = .ok (.invokevirtual 82, 3) := by decide +kernel
theorem dX7_lead_7 : decode cX7_lead 7 = .ok (.ireturn, 1) := by decide +kernel
def f_X7_lead (v : tmM) : Option (Int32 × tmM) := tm_cl (f_X7_attempt 6 0 v) fun r2 v1 => some (r2, v1)
set_option maxRecDepth 100000 in
set_option maxHeartbeats 4000000 in
theorem w_X7_lead {p : Program} {l : Launch} {e : Env} {s : State} {m : MethodId} {args : Array Value} {below : List Frame} {meth : Method} {c : Code} {D : va_G} {cy : Nat → ClassId} {ad : Nat → Nat} {A : Nat → Prop} {z : (Int32 × tmM)} (C0 : tmC p s m args meth c cX7_lead 1 (some .int) RX7 TMW tm_NWC D cy tm_shC ad 256 [] A) (v : tmM) : tmG p l e ({ frames := 6, cells := 0, slots := 0, locals := 154 } : Room) s m args below meth c 0 0 (MQ below (va_Qi (fun r u => z = (r, u)) (tmAt tm_shC 256 D cy ad A) A) args s 0 0 A) 1 D cy tm_shC ad 256 [] A z 0 [(0, .ref (ad 247))] [] v (f_X7_lead v) := by
  unfold f_X7_lead
  refine tg_aload_n 0 C0 dX7_lead_0 rfl rfl ?_
  refine tg_bipush (x := 6) C0 dX7_lead_1 (by decide) ?_
  refine tg_iconst (x := 0) C0 dX7_lead_3 (by decide) ?_
  refine tg_callVi (As := [.int 6, .int 0]) 247 2 C0 dX7_lead_4 (c_X7_attempt l 6 0 v) rfl rfl (by decide) rfl rfl (tm_gV tl_X7_82 ti_X7_attempt ts_X7_attempt tn_X7 tc_X7_attempt)  rfl rfl rfl rfl (by decide +kernel) ⟨by decide, by decide⟩ (Nat.le_of_ble_eq_true rfl) ⟨by decide, by decide⟩ (fun r2 v1 _ => ?_)
  exact tg_iret C0 dX7_lead_7
theorem c_X7_lead (l : Launch) (v : tmM) : tmMi tm_NWC tm_shC 256 l yX7_lead (Cond.code yX7_lead cX7_lead 1 (some .int) :: TMW) ({ frames := 6, cells := 0, slots := 0, locals := 154 } : Room) (fun ad => [.ref (ad 247)]) v (f_X7_lead v) :=
  tmMi.of (cc := cX7_lead) (nL := 1) (by decide +kernel) rfl tm_NWC_ok (fun _ => Nat.le_of_ble_eq_true rfl) (fun p e s m args below meth c A D cy ad z C0 => w_X7_lead C0 v)
-- ----- X7_goBack
theorem dX7_goBack_0 : decode cX7_goBack 0 = .ok (.aload_n 0, 1) := by decide +kernel
theorem dX7_goBack_1 : decode cX7_goBack 1 = .ok (.iload_n 1, 1) := by decide +kernel
theorem dX7_goBack_2 : decode cX7_goBack 2 = .ok (.ifCond .eq 8, 3) := by decide +kernel
theorem dX7_goBack_5 : decode cX7_goBack 5 = .ok (.bipush 7, 2) := by decide +kernel
theorem dX7_goBack_7 : decode cX7_goBack 7 = .ok (.goto 5, 3) := by decide +kernel
theorem dX7_goBack_10 : decode cX7_goBack 10 = .ok (.bipush 8, 2) := by decide +kernel
theorem dX7_goBack_12 : decode cX7_goBack 12 = .ok (.iconst 0, 1) := by decide +kernel
theorem dX7_goBack_13 : decode cX7_goBack 13 = .ok (.invokevirtual 82, 3) := by decide +kernel
theorem dX7_goBack_16 : decode cX7_goBack 16 = .ok (.ireturn, 1) := by decide +kernel
def f_X7_goBack_12 (s0 : Int32) (v : tmM) : Option (Int32 × tmM) := tm_cl (f_X7_attempt s0 0 v) fun r2 v1 => some (r2, v1)
set_option maxRecDepth 100000 in
set_option maxHeartbeats 4000000 in
theorem w_X7_goBack_12 {p : Program} {l : Launch} {e : Env} {s : State} {m : MethodId} {args : Array Value} {below : List Frame} {meth : Method} {c : Code} {D : va_G} {cy : Nat → ClassId} {ad : Nat → Nat} {A : Nat → Prop} {z : (Int32 × tmM)} (C0 : tmC p s m args meth c cX7_goBack 2 (some .int) RX7 TMW tm_NWC D cy tm_shC ad 256 [] A) (s0 : Int32) (v : tmM) : tmG p l e ({ frames := 6, cells := 0, slots := 0, locals := 154 } : Room) s m args below meth c 0 0 (MQ below (va_Qi (fun r u => z = (r, u)) (tmAt tm_shC 256 D cy ad A) A) args s 0 0 A) 2 D cy tm_shC ad 256 [] A z 12 [] [.int s0, .ref (ad 247)] v (f_X7_goBack_12 s0 v) := by
  unfold f_X7_goBack_12
  refine tg_iconst (x := 0) C0 dX7_goBack_12 (by decide) ?_
  refine tg_callVi (As := [.int s0, .int 0]) 247 2 C0 dX7_goBack_13 (c_X7_attempt l s0 0 v) rfl rfl (by decide) rfl rfl (tm_gV tl_X7_82 ti_X7_attempt ts_X7_attempt tn_X7 tc_X7_attempt)  rfl rfl rfl rfl (by decide +kernel) ⟨by decide, by decide⟩ (Nat.le_of_ble_eq_true rfl) ⟨by decide, by decide⟩ (fun r2 v1 _ => ?_)
  exact tg_iret C0 dX7_goBack_16
def f_X7_goBack (x1 : Int32) (v : tmM) : Option (Int32 × tmM) := (if x1 = 0 then f_X7_goBack_12 8 v else f_X7_goBack_12 7 v)
set_option maxRecDepth 100000 in
set_option maxHeartbeats 4000000 in
theorem w_X7_goBack {p : Program} {l : Launch} {e : Env} {s : State} {m : MethodId} {args : Array Value} {below : List Frame} {meth : Method} {c : Code} {D : va_G} {cy : Nat → ClassId} {ad : Nat → Nat} {A : Nat → Prop} {z : (Int32 × tmM)} (C0 : tmC p s m args meth c cX7_goBack 2 (some .int) RX7 TMW tm_NWC D cy tm_shC ad 256 [] A) (x1 : Int32) (v : tmM) : tmG p l e ({ frames := 6, cells := 0, slots := 0, locals := 154 } : Room) s m args below meth c 0 0 (MQ below (va_Qi (fun r u => z = (r, u)) (tmAt tm_shC 256 D cy ad A) A) args s 0 0 A) 2 D cy tm_shC ad 256 [] A z 0 [(0, .ref (ad 247)), (1, .int x1)] [] v (f_X7_goBack x1 v) := by
  unfold f_X7_goBack
  refine tg_aload_n 0 C0 dX7_goBack_0 rfl rfl ?_
  refine tg_iload_n 1 C0 dX7_goBack_1 rfl rfl ?_
  refine tg_if_eq 10 C0 dX7_goBack_2 (by decide) (fun _ => ?_) (fun _ => ?_)
  · refine tg_bipush (x := 8) C0 dX7_goBack_10 (by decide) ?_
    refine tg_sub [] rfl ?_
    exact w_X7_goBack_12 C0 8 v
  · refine tg_bipush (x := 7) C0 dX7_goBack_5 (by decide) ?_
    refine tg_goto 12 C0 dX7_goBack_7 (by decide) ?_
    refine tg_sub [] rfl ?_
    exact w_X7_goBack_12 C0 7 v
theorem c_X7_goBack (l : Launch) (x1 : Int32) (v : tmM) : tmMi tm_NWC tm_shC 256 l yX7_goBack (Cond.code yX7_goBack cX7_goBack 2 (some .int) :: TMW) ({ frames := 6, cells := 0, slots := 0, locals := 154 } : Room) (fun ad => [.ref (ad 247), .int x1]) v (f_X7_goBack x1 v) :=
  tmMi.of (cc := cX7_goBack) (nL := 2) (by decide +kernel) rfl tm_NWC_ok (fun _ => Nat.le_of_ble_eq_true rfl) (fun p e s m args below meth c A D cy ad z C0 => w_X7_goBack C0 x1 v)
-- ----- X7_stop
theorem dX7_stop_0 : decode cX7_stop 0 = .ok (.aload_n 0, 1) := by decide +kernel
theorem dX7_stop_1 : decode cX7_stop 1 = .ok (.bipush 9, 2) := by decide +kernel
theorem dX7_stop_3 : decode cX7_stop 3 = .ok (.iconst 0, 1) := by decide +kernel
theorem dX7_stop_4 : decode cX7_stop 4 = .ok (.invokevirtual 82, 3) := by decide +kernel
theorem dX7_stop_7 : decode cX7_stop 7 = .ok (.ireturn, 1) := by decide +kernel
def f_X7_stop (v : tmM) : Option (Int32 × tmM) := tm_cl (f_X7_attempt 9 0 v) fun r2 v1 => some (r2, v1)
set_option maxRecDepth 100000 in
set_option maxHeartbeats 4000000 in
theorem w_X7_stop {p : Program} {l : Launch} {e : Env} {s : State} {m : MethodId} {args : Array Value} {below : List Frame} {meth : Method} {c : Code} {D : va_G} {cy : Nat → ClassId} {ad : Nat → Nat} {A : Nat → Prop} {z : (Int32 × tmM)} (C0 : tmC p s m args meth c cX7_stop 1 (some .int) RX7 TMW tm_NWC D cy tm_shC ad 256 [] A) (v : tmM) : tmG p l e ({ frames := 6, cells := 0, slots := 0, locals := 154 } : Room) s m args below meth c 0 0 (MQ below (va_Qi (fun r u => z = (r, u)) (tmAt tm_shC 256 D cy ad A) A) args s 0 0 A) 1 D cy tm_shC ad 256 [] A z 0 [(0, .ref (ad 247))] [] v (f_X7_stop v) := by
  unfold f_X7_stop
  refine tg_aload_n 0 C0 dX7_stop_0 rfl rfl ?_
  refine tg_bipush (x := 9) C0 dX7_stop_1 (by decide) ?_
  refine tg_iconst (x := 0) C0 dX7_stop_3 (by decide) ?_
  refine tg_callVi (As := [.int 9, .int 0]) 247 2 C0 dX7_stop_4 (c_X7_attempt l 9 0 v) rfl rfl (by decide) rfl rfl (tm_gV tl_X7_82 ti_X7_attempt ts_X7_attempt tn_X7 tc_X7_attempt)  rfl rfl rfl rfl (by decide +kernel) ⟨by decide, by decide⟩ (Nat.le_of_ble_eq_true rfl) ⟨by decide, by decide⟩ (fun r2 v1 _ => ?_)
  exact tg_iret C0 dX7_stop_7
theorem c_X7_stop (l : Launch) (v : tmM) : tmMi tm_NWC tm_shC 256 l yX7_stop (Cond.code yX7_stop cX7_stop 1 (some .int) :: TMW) ({ frames := 6, cells := 0, slots := 0, locals := 154 } : Room) (fun ad => [.ref (ad 247)]) v (f_X7_stop v) :=
  tmMi.of (cc := cX7_stop) (nL := 1) (by decide +kernel) rfl tm_NWC_ok (fun _ => Nat.le_of_ble_eq_true rfl) (fun p e s m args below meth c A D cy ad z C0 => w_X7_stop C0 v)
-- ----- X7_finish
theorem dX7_finish_0 : decode cX7_finish 0 = .ok (.aload_n 0, 1) := by decide +kernel
theorem dX7_finish_1 : decode cX7_finish 1 = .ok (.bipush 10, 2) := by decide +kernel
theorem dX7_finish_3 : decode cX7_finish 3 = .ok (.iconst 0, 1) := by decide +kernel
theorem dX7_finish_4 : decode cX7_finish 4 = .ok (.invokevirtual 82, 3) := by decide +kernel
theorem dX7_finish_7 : decode cX7_finish 7 = .ok (.ireturn, 1) := by decide +kernel
def f_X7_finish (v : tmM) : Option (Int32 × tmM) := tm_cl (f_X7_attempt 10 0 v) fun r2 v1 => some (r2, v1)
set_option maxRecDepth 100000 in
set_option maxHeartbeats 4000000 in
theorem w_X7_finish {p : Program} {l : Launch} {e : Env} {s : State} {m : MethodId} {args : Array Value} {below : List Frame} {meth : Method} {c : Code} {D : va_G} {cy : Nat → ClassId} {ad : Nat → Nat} {A : Nat → Prop} {z : (Int32 × tmM)} (C0 : tmC p s m args meth c cX7_finish 1 (some .int) RX7 TMW tm_NWC D cy tm_shC ad 256 [] A) (v : tmM) : tmG p l e ({ frames := 6, cells := 0, slots := 0, locals := 154 } : Room) s m args below meth c 0 0 (MQ below (va_Qi (fun r u => z = (r, u)) (tmAt tm_shC 256 D cy ad A) A) args s 0 0 A) 1 D cy tm_shC ad 256 [] A z 0 [(0, .ref (ad 247))] [] v (f_X7_finish v) := by
  unfold f_X7_finish
  refine tg_aload_n 0 C0 dX7_finish_0 rfl rfl ?_
  refine tg_bipush (x := 10) C0 dX7_finish_1 (by decide) ?_
  refine tg_iconst (x := 0) C0 dX7_finish_3 (by decide) ?_
  refine tg_callVi (As := [.int 10, .int 0]) 247 2 C0 dX7_finish_4 (c_X7_attempt l 10 0 v) rfl rfl (by decide) rfl rfl (tm_gV tl_X7_82 ti_X7_attempt ts_X7_attempt tn_X7 tc_X7_attempt)  rfl rfl rfl rfl (by decide +kernel) ⟨by decide, by decide⟩ (Nat.le_of_ble_eq_true rfl) ⟨by decide, by decide⟩ (fun r2 v1 _ => ?_)
  exact tg_iret C0 dX7_finish_7
theorem c_X7_finish (l : Launch) (v : tmM) : tmMi tm_NWC tm_shC 256 l yX7_finish (Cond.code yX7_finish cX7_finish 1 (some .int) :: TMW) ({ frames := 6, cells := 0, slots := 0, locals := 154 } : Room) (fun ad => [.ref (ad 247)]) v (f_X7_finish v) :=
  tmMi.of (cc := cX7_finish) (nL := 1) (by decide +kernel) rfl tm_NWC_ok (fun _ => Nat.le_of_ble_eq_true rfl) (fun p e s m args below meth c A D cy ad z C0 => w_X7_finish C0 v)
-- ----- X7_brokenPromise
theorem dX7_brokenPromise_0 : decode cX7_brokenPromise 0 = .ok (.aload_n 0, 1) := by decide +kernel
theorem dX7_brokenPromise_1 : decode cX7_brokenPromise 1 = .ok (.getfield 12, 3) := by decide +kernel
theorem dX7_brokenPromise_4 : decode cX7_brokenPromise 4 = .ok (.invokevirtual 198, 3) := by decide +kernel
theorem dX7_brokenPromise_7 : decode cX7_brokenPromise 7 = .ok (.ifCond .ne 5, 3) := by decide +kernel
theorem dX7_brokenPromise_10 : decode cX7_brokenPromise 10 = .ok (.iconst (-1), 1) := by decide +kernel
theorem dX7_brokenPromise_11 : decode cX7_brokenPromise 11 = .ok (.ireturn, 1) := by decide +kernel
theorem dX7_brokenPromise_12 : decode cX7_brokenPromise 12 = .ok (.iconst 0, 1) := by decide +kernel
theorem dX7_brokenPromise_13 : decode cX7_brokenPromise 13 = .ok (.istore_n 1, 1) := by decide +kernel
theorem dX7_brokenPromise_14 : decode cX7_brokenPromise 14 = .ok (.iload_n 1, 1) := by decide +kernel
theorem dX7_brokenPromise_15 : decode cX7_brokenPromise 15 = .ok (.bipush 60, 2) := by decide +kernel
theorem dX7_brokenPromise_17 : decode cX7_brokenPromise 17 = .ok (.if_icmp .ge 55, 3) := by decide +kernel
theorem dX7_brokenPromise_20 : decode cX7_brokenPromise 20 = .ok (.aload_n 0, 1) := by decide +kernel
theorem dX7_brokenPromise_21 : decode cX7_brokenPromise 21 = .ok (.getfield 12, 3) := by decide +kernel
theorem dX7_brokenPromise_24 : decode cX7_brokenPromise 24 = .ok (.getfield 134, 3) := by decide +kernel
theorem dX7_brokenPromise_27 : decode cX7_brokenPromise 27 = .ok (.iload_n 1, 1) := by decide +kernel
theorem dX7_brokenPromise_28 : decode cX7_brokenPromise 28 = .ok (.iconst 4, 1) := by decide +kernel
theorem dX7_brokenPromise_29 : decode cX7_brokenPromise 29 = .ok (.idiv, 1) := by decide +kernel
theorem dX7_brokenPromise_30 : decode cX7_brokenPromise 30 = .ok (.invokestatic 120, 3) := by decide +kernel
theorem dX7_brokenPromise_33 : decode cX7_brokenPromise 33 = .ok (.ifCond .eq 33, 3) := by decide +kernel
theorem dX7_brokenPromise_36 : decode cX7_brokenPromise 36 = .ok (.aload_n 0, 1) := by decide +kernel
theorem dX7_brokenPromise_37 : decode cX7_brokenPromise 37 = .ok (.getfield 12, 3) := by decide +kernel
theorem dX7_brokenPromise_40 : decode cX7_brokenPromise 40 = .ok (.getfield 145, 3) := by decide +kernel
theorem dX7_brokenPromise_43 : decode cX7_brokenPromise 43 = .ok (.iload_n 1, 1) := by decide +kernel
theorem dX7_brokenPromise_44 : decode cX7_brokenPromise 44 = .ok (.invokevirtual 208, 3) := by decide +kernel
theorem dX7_brokenPromise_47 : decode cX7_brokenPromise 47 = .ok (.ifCond .ne 19, 3) := by decide +kernel
theorem dX7_brokenPromise_50 : decode cX7_brokenPromise 50 = .ok (.aload_n 0, 1) := by decide +kernel
theorem dX7_brokenPromise_51 : decode cX7_brokenPromise 51 = .ok (.getfield 12, 3) := by decide +kernel
theorem dX7_brokenPromise_54 : decode cX7_brokenPromise 54 = .ok (.getfield 98, 3) := by decide +kernel
theorem dX7_brokenPromise_57 : decode cX7_brokenPromise 57 = .ok (.iload_n 1, 1) := by decide +kernel
theorem dX7_brokenPromise_58 : decode cX7_brokenPromise 58 = .ok (.invokevirtual 211, 3) := by decide +kernel
theorem dX7_brokenPromise_61 : decode cX7_brokenPromise 61 = .ok (.ifCond .eq 5, 3) := by decide +kernel
theorem dX7_brokenPromise_64 : decode cX7_brokenPromise 64 = .ok (.iload_n 1, 1) := by decide +kernel
theorem dX7_brokenPromise_65 : decode cX7_brokenPromise 65 = .ok (.ireturn, 1) := by decide +kernel
theorem dX7_brokenPromise_66 : decode cX7_brokenPromise 66 = .ok (.iinc 1 1, 3) := by decide +kernel
theorem dX7_brokenPromise_69 : decode cX7_brokenPromise 69 = .ok (.goto (-55), 3) := by decide +kernel
theorem dX7_brokenPromise_72 : decode cX7_brokenPromise 72 = .ok (.iconst (-1), 1) := by decide +kernel
theorem dX7_brokenPromise_73 : decode cX7_brokenPromise 73 = .ok (.ireturn, 1) := by decide +kernel
theorem tl_X7_198 : Cond.methodLink RX7 198 yX4_isDouble ∈ TMW := tm_in 746 (by decide +kernel) (by decide +kernel)
theorem tl_X7_208 : Cond.methodLink RX7 208 yX2_holds ∈ TMW := tm_in 748 (by decide +kernel) (by decide +kernel)
theorem tl_X7_211 : Cond.methodLink RX7 211 yX5_differ ∈ TMW := tm_in 749 (by decide +kernel) (by decide +kernel)
def f_X7_brokenPromise_66 (K0 : tmM → Option (Int32 × tmM)) (L : Int32 → tmM → Option (Int32 × tmM)) (x1 : Int32) (v : tmM) : Option (Int32 × tmM) := L (x1 + 1) v
set_option maxRecDepth 100000 in
set_option maxHeartbeats 4000000 in
theorem w_X7_brokenPromise_66 {p : Program} {l : Launch} {e : Env} {s : State} {m : MethodId} {args : Array Value} {below : List Frame} {meth : Method} {c : Code} {D : va_G} {cy : Nat → ClassId} {ad : Nat → Nat} {A : Nat → Prop} {z : (Int32 × tmM)} {K0 : tmM → Option (Int32 × tmM)} {L : Int32 → tmM → Option (Int32 × tmM)} (C0 : tmC p s m args meth c cX7_brokenPromise 2 (some .int) RX7 TMW tm_NWC D cy tm_shC ad 256 [] A) (hK0 : ∀ (w : tmM), tmG p l e ({ frames := 2, cells := 0, slots := 0, locals := 46 } : Room) s m args below meth c 0 0 (MQ below (va_Qi (fun r u => z = (r, u)) (tmAt tm_shC 256 D cy ad A) A) args s 0 0 A) 2 D cy tm_shC ad 256 [] A z 72 [] [] w (K0 w)) (hL : ∀ (a1 : Int32) (w : tmM), tmG p l e ({ frames := 2, cells := 0, slots := 0, locals := 46 } : Room) s m args below meth c 0 0 (MQ below (va_Qi (fun r u => z = (r, u)) (tmAt tm_shC 256 D cy ad A) A) args s 0 0 A) 2 D cy tm_shC ad 256 [] A z 14 [(0, .ref (ad 247)), (1, .int a1)] [] w (L a1 w)) (x1 : Int32) (v : tmM) : tmG p l e ({ frames := 2, cells := 0, slots := 0, locals := 46 } : Room) s m args below meth c 0 0 (MQ below (va_Qi (fun r u => z = (r, u)) (tmAt tm_shC 256 D cy ad A) A) args s 0 0 A) 2 D cy tm_shC ad 256 [] A z 66 [(0, .ref (ad 247)), (1, .int x1)] [] v (f_X7_brokenPromise_66 K0 L x1 v) := by
  unfold f_X7_brokenPromise_66
  refine tg_iinc [(1, .int (x1 + 1)), (0, .ref (ad 247))] 1 C0 dX7_brokenPromise_66 rfl rfl (by decide) rfl ?_
  refine tg_goto 14 C0 dX7_brokenPromise_69 (by decide) ?_
  refine tg_sub [1, 0] rfl ?_
  exact hL (x1 + 1) v
def f_X7_brokenPromise_14b (K0 : tmM → Option (Int32 × tmM)) (L : Int32 → tmM → Option (Int32 × tmM)) (x1 : Int32) (v : tmM) : Option (Int32 × tmM) := (if 60 ≤ x1 then K0 v else tm_g (decide (¬ 4 = 0)) (tm_cl (f_X7_has (v 0 2) (x1 / 4) v) fun r4 v3 => (if r4 = 0 then f_X7_brokenPromise_66 K0 L x1 v3 else tm_cl (f_X2_holds x1 v3) fun r6 v5 => (if r6 = 0 then tm_cl (f_X5_differ x1 v5) fun r8 v7 => (if r8 = 0 then f_X7_brokenPromise_66 K0 L x1 v7 else some (x1, v7)) else f_X7_brokenPromise_66 K0 L x1 v5))))
set_option maxRecDepth 100000 in
set_option maxHeartbeats 4000000 in
theorem w_X7_brokenPromise_14b {p : Program} {l : Launch} {e : Env} {s : State} {m : MethodId} {args : Array Value} {below : List Frame} {meth : Method} {c : Code} {D : va_G} {cy : Nat → ClassId} {ad : Nat → Nat} {A : Nat → Prop} {z : (Int32 × tmM)} {K0 : tmM → Option (Int32 × tmM)} {L : Int32 → tmM → Option (Int32 × tmM)} (C0 : tmC p s m args meth c cX7_brokenPromise 2 (some .int) RX7 TMW tm_NWC D cy tm_shC ad 256 [] A) (hK0 : ∀ (w : tmM), tmG p l e ({ frames := 2, cells := 0, slots := 0, locals := 46 } : Room) s m args below meth c 0 0 (MQ below (va_Qi (fun r u => z = (r, u)) (tmAt tm_shC 256 D cy ad A) A) args s 0 0 A) 2 D cy tm_shC ad 256 [] A z 72 [] [] w (K0 w)) (hL : ∀ (a1 : Int32) (w : tmM), tmG p l e ({ frames := 2, cells := 0, slots := 0, locals := 46 } : Room) s m args below meth c 0 0 (MQ below (va_Qi (fun r u => z = (r, u)) (tmAt tm_shC 256 D cy ad A) A) args s 0 0 A) 2 D cy tm_shC ad 256 [] A z 14 [(0, .ref (ad 247)), (1, .int a1)] [] w (L a1 w)) (x1 : Int32) (v : tmM) : tmG p l e ({ frames := 2, cells := 0, slots := 0, locals := 46 } : Room) s m args below meth c 0 0 (MQ below (va_Qi (fun r u => z = (r, u)) (tmAt tm_shC 256 D cy ad A) A) args s 0 0 A) 2 D cy tm_shC ad 256 [] A z 14 [(0, .ref (ad 247)), (1, .int x1)] [] v (f_X7_brokenPromise_14b K0 L x1 v) := by
  unfold f_X7_brokenPromise_14b
  refine tg_iload_n 1 C0 dX7_brokenPromise_14 rfl rfl ?_
  refine tg_bipush (x := 60) C0 dX7_brokenPromise_15 (by decide) ?_
  refine tg_icmp_ge 72 C0 dX7_brokenPromise_17 (by decide) (fun _ => ?_) (fun _ => ?_)
  · refine tg_sub [] rfl ?_
    exact hK0 v
  · refine tg_aload_n 0 C0 dX7_brokenPromise_20 rfl rfl ?_
    refine tg_get 247 0 C0 dX7_brokenPromise_21 (by decide) rfl rfl tu_X7 (by decide) tf_X7_12 rfl rfl rfl ?_
    refine tg_getN 0 2 C0 dX7_brokenPromise_24 (by decide) rfl rfl tu_X4 (by decide) tm_nwC_X7_134 rfl rfl rfl ?_
    refine tg_iload_n 1 C0 dX7_brokenPromise_27 rfl rfl ?_
    refine tg_iconst (x := 4) C0 dX7_brokenPromise_28 (by decide) ?_
    refine tg_idiv C0 dX7_brokenPromise_29 (fun _ => ?_)
    refine tg_callSi (As := [.int (v 0 2), .int (x1 / 4)]) 2 C0 dX7_brokenPromise_30 (c_X7_has l (v 0 2) (x1 / 4) v) rfl rfl (tm_gc tc_X7_has) tl_X7_120 tn_X7 tst_X7_has  rfl rfl rfl rfl (by decide +kernel) ⟨by decide, by decide⟩ (Nat.le_of_ble_eq_true rfl) ⟨by decide, by decide⟩ (fun r4 v3 _ => ?_)
    refine tg_if_eq 66 C0 dX7_brokenPromise_33 (by decide) (fun _ => ?_) (fun _ => ?_)
    · exact w_X7_brokenPromise_66 C0 hK0 hL x1 v3
    · refine tg_aload_n 0 C0 dX7_brokenPromise_36 rfl rfl ?_
      refine tg_get 247 0 C0 dX7_brokenPromise_37 (by decide) rfl rfl tu_X7 (by decide) tf_X7_12 rfl rfl rfl ?_
      refine tg_getN 0 6 C0 dX7_brokenPromise_40 (by decide) rfl rfl tu_X4 (by decide) tm_nwC_X7_145 rfl rfl rfl ?_
      refine tg_iload_n 1 C0 dX7_brokenPromise_43 rfl rfl ?_
      refine tg_callVi (As := [.int x1]) 8 1 C0 dX7_brokenPromise_44 (c_X2_holds l x1 v3) rfl rfl (by decide) rfl rfl (tm_gV tl_X7_208 ti_X2_holds ts_X2_holds tn_X2 tc_X2_holds)  rfl rfl rfl rfl (by decide +kernel) ⟨by decide, by decide⟩ (Nat.le_of_ble_eq_true rfl) ⟨by decide, by decide⟩ (fun r6 v5 _ => ?_)
      refine tg_if_ne 66 C0 dX7_brokenPromise_47 (by decide) (fun _ => ?_) (fun _ => ?_)
      · exact w_X7_brokenPromise_66 C0 hK0 hL x1 v5
      · refine tg_aload_n 0 C0 dX7_brokenPromise_50 rfl rfl ?_
        refine tg_get 247 0 C0 dX7_brokenPromise_51 (by decide) rfl rfl tu_X7 (by decide) tf_X7_12 rfl rfl rfl ?_
        refine tg_getN 0 5 C0 dX7_brokenPromise_54 (by decide) rfl rfl tu_X4 (by decide) tm_nwC_X7_98 rfl rfl rfl ?_
        refine tg_iload_n 1 C0 dX7_brokenPromise_57 rfl rfl ?_
        refine tg_callVi (As := [.int x1]) 1 1 C0 dX7_brokenPromise_58 (c_X5_differ l x1 v5) rfl rfl (by decide) rfl rfl (tm_gV tl_X7_211 ti_X5_differ ts_X5_differ tn_X5 tc_X5_differ)  rfl rfl rfl rfl (by decide +kernel) ⟨by decide, by decide⟩ (Nat.le_of_ble_eq_true rfl) ⟨by decide, by decide⟩ (fun r8 v7 _ => ?_)
        refine tg_if_eq 66 C0 dX7_brokenPromise_61 (by decide) (fun _ => ?_) (fun _ => ?_)
        · exact w_X7_brokenPromise_66 C0 hK0 hL x1 v7
        · refine tg_iload_n 1 C0 dX7_brokenPromise_64 rfl rfl ?_
          exact tg_iret C0 dX7_brokenPromise_65
def f_X7_brokenPromise_14 (K0 : tmM → Option (Int32 × tmM)) : Nat → Int32 → tmM → Option (Int32 × tmM)
  | 0 => fun _ _ => none
  | n + 1 => f_X7_brokenPromise_14b K0 (f_X7_brokenPromise_14 K0 n)
theorem w_X7_brokenPromise_14 {p : Program} {l : Launch} {e : Env} {s : State} {m : MethodId} {args : Array Value} {below : List Frame} {meth : Method} {c : Code} {D : va_G} {cy : Nat → ClassId} {ad : Nat → Nat} {A : Nat → Prop} {z : (Int32 × tmM)} {K0 : tmM → Option (Int32 × tmM)} (C0 : tmC p s m args meth c cX7_brokenPromise 2 (some .int) RX7 TMW tm_NWC D cy tm_shC ad 256 [] A) (hK0 : ∀ (w : tmM), tmG p l e ({ frames := 2, cells := 0, slots := 0, locals := 46 } : Room) s m args below meth c 0 0 (MQ below (va_Qi (fun r u => z = (r, u)) (tmAt tm_shC 256 D cy ad A) A) args s 0 0 A) 2 D cy tm_shC ad 256 [] A z 72 [] [] w (K0 w)) (nn : Nat) : ∀ (x1 : Int32) (v : tmM), tmG p l e ({ frames := 2, cells := 0, slots := 0, locals := 46 } : Room) s m args below meth c 0 0 (MQ below (va_Qi (fun r u => z = (r, u)) (tmAt tm_shC 256 D cy ad A) A) args s 0 0 A) 2 D cy tm_shC ad 256 [] A z 14 [(0, .ref (ad 247)), (1, .int x1)] [] v (f_X7_brokenPromise_14 K0 nn x1 v) := by
  induction nn with
  | zero => intro _ _; exact tg_none
  | succ n ih => intro x1 v; exact w_X7_brokenPromise_14b C0 hK0 ih x1 v
def f_X7_brokenPromise (v : tmM) : Option (Int32 × tmM) := tm_cl (f_X4_isDouble v) fun r2 v1 => (if r2 = 0 then some ((-1), v1) else f_X7_brokenPromise_14 (fun v9 => some ((-1), v9)) 10000 0 v1)
set_option maxRecDepth 100000 in
set_option maxHeartbeats 4000000 in
theorem w_X7_brokenPromise {p : Program} {l : Launch} {e : Env} {s : State} {m : MethodId} {args : Array Value} {below : List Frame} {meth : Method} {c : Code} {D : va_G} {cy : Nat → ClassId} {ad : Nat → Nat} {A : Nat → Prop} {z : (Int32 × tmM)} (C0 : tmC p s m args meth c cX7_brokenPromise 2 (some .int) RX7 TMW tm_NWC D cy tm_shC ad 256 [] A) (v : tmM) : tmG p l e ({ frames := 2, cells := 0, slots := 0, locals := 46 } : Room) s m args below meth c 0 0 (MQ below (va_Qi (fun r u => z = (r, u)) (tmAt tm_shC 256 D cy ad A) A) args s 0 0 A) 2 D cy tm_shC ad 256 [] A z 0 [(0, .ref (ad 247))] [] v (f_X7_brokenPromise v) := by
  unfold f_X7_brokenPromise
  refine tg_aload_n 0 C0 dX7_brokenPromise_0 rfl rfl ?_
  refine tg_get 247 0 C0 dX7_brokenPromise_1 (by decide) rfl rfl tu_X7 (by decide) tf_X7_12 rfl rfl rfl ?_
  refine tg_callVi (As := []) 0 0 C0 dX7_brokenPromise_4 (c_X4_isDouble l v) rfl rfl (by decide) rfl rfl (tm_gV tl_X7_198 ti_X4_isDouble ts_X4_isDouble tn_X4 tc_X4_isDouble)  rfl rfl rfl rfl (by decide +kernel) ⟨by decide, by decide⟩ (Nat.le_of_ble_eq_true rfl) ⟨by decide, by decide⟩ (fun r2 v1 _ => ?_)
  refine tg_if_ne 12 C0 dX7_brokenPromise_7 (by decide) (fun _ => ?_) (fun _ => ?_)
  · refine tg_iconst (x := 0) C0 dX7_brokenPromise_12 (by decide) ?_
    refine tg_istore_n [(1, .int 0), (0, .ref (ad 247))] C0 dX7_brokenPromise_13 rfl (by decide) rfl ?_
    refine tg_sub [1, 0] rfl ?_
    refine w_X7_brokenPromise_14 C0 (fun v9 => ?_) 10000 0 v1
    refine tg_iconst (x := (-1)) C0 dX7_brokenPromise_72 (by decide) ?_
    exact tg_iret C0 dX7_brokenPromise_73
  · refine tg_iconst (x := (-1)) C0 dX7_brokenPromise_10 (by decide) ?_
    exact tg_iret C0 dX7_brokenPromise_11
theorem c_X7_brokenPromise (l : Launch) (v : tmM) : tmMi tm_NWC tm_shC 256 l yX7_brokenPromise (Cond.code yX7_brokenPromise cX7_brokenPromise 2 (some .int) :: TMW) ({ frames := 2, cells := 0, slots := 0, locals := 46 } : Room) (fun ad => [.ref (ad 247)]) v (f_X7_brokenPromise v) :=
  tmMi.of (cc := cX7_brokenPromise) (nL := 2) (by decide +kernel) rfl tm_NWC_ok (fun _ => Nat.le_of_ble_eq_true rfl) (fun p e s m args below meth c A D cy ad z C0 => w_X7_brokenPromise C0 v)
-- ----- X7_troubledReaders
theorem dX7_troubledReaders_0 : decode cX7_troubledReaders 0 = .ok (.aload_n 0, 1) := by decide +kernel
theorem dX7_troubledReaders_1 : decode cX7_troubledReaders 1 = .ok (.getfield 12, 3) := by decide +kernel
theorem dX7_troubledReaders_4 : decode cX7_troubledReaders 4 = .ok (.getfield 98, 3) := by decide +kernel
theorem dX7_troubledReaders_7 : decode cX7_troubledReaders 7 = .ok (.iconst 1, 1) := by decide +kernel
theorem dX7_troubledReaders_8 : decode cX7_troubledReaders 8 = .ok (.invokevirtual 214, 3) := by decide +kernel
theorem dX7_troubledReaders_11 : decode cX7_troubledReaders 11 = .ok (.ifCond .le 7, 3) := by decide +kernel
theorem dX7_troubledReaders_14 : decode cX7_troubledReaders 14 = .ok (.iconst 1, 1) := by decide +kernel
theorem dX7_troubledReaders_15 : decode cX7_troubledReaders 15 = .ok (.goto 4, 3) := by decide +kernel
theorem dX7_troubledReaders_18 : decode cX7_troubledReaders 18 = .ok (.iconst 0, 1) := by decide +kernel
theorem dX7_troubledReaders_19 : decode cX7_troubledReaders 19 = .ok (.istore_n 1, 1) := by decide +kernel
theorem dX7_troubledReaders_20 : decode cX7_troubledReaders 20 = .ok (.iconst 0, 1) := by decide +kernel
theorem dX7_troubledReaders_21 : decode cX7_troubledReaders 21 = .ok (.istore_n 2, 1) := by decide +kernel
theorem dX7_troubledReaders_22 : decode cX7_troubledReaders 22 = .ok (.iconst 0, 1) := by decide +kernel
theorem dX7_troubledReaders_23 : decode cX7_troubledReaders 23 = .ok (.istore_n 3, 1) := by decide +kernel
theorem dX7_troubledReaders_24 : decode cX7_troubledReaders 24 = .ok (.iload_n 3, 1) := by decide +kernel
theorem dX7_troubledReaders_25 : decode cX7_troubledReaders 25 = .ok (.bipush 8, 2) := by decide +kernel
theorem dX7_troubledReaders_27 : decode cX7_troubledReaders 27 = .ok (.if_icmp .ge 50, 3) := by decide +kernel
theorem dX7_troubledReaders_30 : decode cX7_troubledReaders 30 = .ok (.aload_n 0, 1) := by decide +kernel
theorem dX7_troubledReaders_31 : decode cX7_troubledReaders 31 = .ok (.getfield 12, 3) := by decide +kernel
theorem dX7_troubledReaders_34 : decode cX7_troubledReaders 34 = .ok (.iload_n 3, 1) := by decide +kernel
theorem dX7_troubledReaders_35 : decode cX7_troubledReaders 35 = .ok (.invokevirtual 183, 3) := by decide +kernel
theorem dX7_troubledReaders_38 : decode cX7_troubledReaders 38 = .ok (.istore 4, 2) := by decide +kernel
theorem dX7_troubledReaders_40 : decode cX7_troubledReaders 40 = .ok (.aload_n 0, 1) := by decide +kernel
theorem dX7_troubledReaders_41 : decode cX7_troubledReaders 41 = .ok (.getfield 12, 3) := by decide +kernel
theorem dX7_troubledReaders_44 : decode cX7_troubledReaders 44 = .ok (.getfield 117, 3) := by decide +kernel
theorem dX7_troubledReaders_47 : decode cX7_troubledReaders 47 = .ok (.iload 4, 2) := by decide +kernel
theorem dX7_troubledReaders_49 : decode cX7_troubledReaders 49 = .ok (.invokestatic 120, 3) := by decide +kernel
theorem dX7_troubledReaders_52 : decode cX7_troubledReaders 52 = .ok (.ifCond .eq 13, 3) := by decide +kernel
theorem dX7_troubledReaders_55 : decode cX7_troubledReaders 55 = .ok (.iload 4, 2) := by decide +kernel
theorem dX7_troubledReaders_57 : decode cX7_troubledReaders 57 = .ok (.iconst 1, 1) := by decide +kernel
theorem dX7_troubledReaders_58 : decode cX7_troubledReaders 58 = .ok (.if_icmp .ne 13, 3) := by decide +kernel
theorem dX7_troubledReaders_61 : decode cX7_troubledReaders 61 = .ok (.iload_n 1, 1) := by decide +kernel
theorem dX7_troubledReaders_62 : decode cX7_troubledReaders 62 = .ok (.ifCond .eq 9, 3) := by decide +kernel
theorem dX7_troubledReaders_65 : decode cX7_troubledReaders 65 = .ok (.iload_n 2, 1) := by decide +kernel
theorem dX7_troubledReaders_66 : decode cX7_troubledReaders 66 = .ok (.iconst 1, 1) := by decide +kernel
theorem dX7_troubledReaders_67 : decode cX7_troubledReaders 67 = .ok (.iload_n 3, 1) := by decide +kernel
theorem dX7_troubledReaders_68 : decode cX7_troubledReaders 68 = .ok (.ishl, 1) := by decide +kernel
theorem dX7_troubledReaders_69 : decode cX7_troubledReaders 69 = .ok (.ior, 1) := by decide +kernel
theorem dX7_troubledReaders_70 : decode cX7_troubledReaders 70 = .ok (.istore_n 2, 1) := by decide +kernel
theorem dX7_troubledReaders_71 : decode cX7_troubledReaders 71 = .ok (.iinc 3 1, 3) := by decide +kernel
theorem dX7_troubledReaders_74 : decode cX7_troubledReaders 74 = .ok (.goto (-50), 3) := by decide +kernel
theorem dX7_troubledReaders_77 : decode cX7_troubledReaders 77 = .ok (.iload_n 2, 1) := by decide +kernel
theorem dX7_troubledReaders_78 : decode cX7_troubledReaders 78 = .ok (.ireturn, 1) := by decide +kernel
theorem tl_X7_214 : Cond.methodLink RX7 214 yX5_brokenCells ∈ TMW := tm_in 754 (by decide +kernel) (by decide +kernel)
theorem ti_X5_brokenCells : Cond.instanceMethod yX5_brokenCells ∈ TMW := tm_in 755 (by decide +kernel) (by decide +kernel)
theorem ts_X5_brokenCells : Cond.selects RX5 yX5_brokenCells yX5_brokenCells ∈ TMW := tm_in 756 (by decide +kernel) (by decide +kernel)
theorem tc_X5_brokenCells : Cond.code yX5_brokenCells cX5_brokenCells 4 (some .int) ∈ TMW := tm_in 757 (by decide +kernel) (by decide +kernel)
theorem tl_X7_183 : Cond.methodLink RX7 183 yX4_sideOf ∈ TMW := tm_in 758 (by decide +kernel) (by decide +kernel)
theorem ti_X4_sideOf : Cond.instanceMethod yX4_sideOf ∈ TMW := tm_in 759 (by decide +kernel) (by decide +kernel)
theorem ts_X4_sideOf : Cond.selects RX4 yX4_sideOf yX4_sideOf ∈ TMW := tm_in 760 (by decide +kernel) (by decide +kernel)
theorem tc_X4_sideOf : Cond.code yX4_sideOf cX4_sideOf 2 (some .int) ∈ TMW := tm_in 761 (by decide +kernel) (by decide +kernel)
def f_X7_troubledReaders_71 (K0 : Int32 → tmM → Option (Int32 × tmM)) (L : Int32 → Int32 → Int32 → tmM → Option (Int32 × tmM)) (x1 x2 x3 : Int32) (v : tmM) : Option (Int32 × tmM) := L x1 x2 (x3 + 1) v
set_option maxRecDepth 100000 in
set_option maxHeartbeats 4000000 in
theorem w_X7_troubledReaders_71 {p : Program} {l : Launch} {e : Env} {s : State} {m : MethodId} {args : Array Value} {below : List Frame} {meth : Method} {c : Code} {D : va_G} {cy : Nat → ClassId} {ad : Nat → Nat} {A : Nat → Prop} {z : (Int32 × tmM)} {K0 : Int32 → tmM → Option (Int32 × tmM)} {L : Int32 → Int32 → Int32 → tmM → Option (Int32 × tmM)} (C0 : tmC p s m args meth c cX7_troubledReaders 5 (some .int) RX7 TMW tm_NWC D cy tm_shC ad 256 [] A) (hK0 : ∀ (a2 : Int32) (w : tmM), tmG p l e ({ frames := 2, cells := 0, slots := 0, locals := 47 } : Room) s m args below meth c 0 0 (MQ below (va_Qi (fun r u => z = (r, u)) (tmAt tm_shC 256 D cy ad A) A) args s 0 0 A) 5 D cy tm_shC ad 256 [] A z 77 [(2, .int a2)] [] w (K0 a2 w)) (hL : ∀ (a1 a2 a3 : Int32) (w : tmM), tmG p l e ({ frames := 2, cells := 0, slots := 0, locals := 47 } : Room) s m args below meth c 0 0 (MQ below (va_Qi (fun r u => z = (r, u)) (tmAt tm_shC 256 D cy ad A) A) args s 0 0 A) 5 D cy tm_shC ad 256 [] A z 24 [(0, .ref (ad 247)), (1, .int a1), (2, .int a2), (3, .int a3)] [] w (L a1 a2 a3 w)) (x1 x2 x3 : Int32) (v : tmM) : tmG p l e ({ frames := 2, cells := 0, slots := 0, locals := 47 } : Room) s m args below meth c 0 0 (MQ below (va_Qi (fun r u => z = (r, u)) (tmAt tm_shC 256 D cy ad A) A) args s 0 0 A) 5 D cy tm_shC ad 256 [] A z 71 [(0, .ref (ad 247)), (1, .int x1), (2, .int x2), (3, .int x3)] [] v (f_X7_troubledReaders_71 K0 L x1 x2 x3 v) := by
  unfold f_X7_troubledReaders_71
  refine tg_iinc [(3, .int (x3 + 1)), (0, .ref (ad 247)), (1, .int x1), (2, .int x2)] 3 C0 dX7_troubledReaders_71 rfl rfl (by decide) rfl ?_
  refine tg_goto 24 C0 dX7_troubledReaders_74 (by decide) ?_
  refine tg_sub [1, 2, 3, 0] rfl ?_
  exact hL x1 x2 (x3 + 1) v
def f_X7_troubledReaders_65 (K0 : Int32 → tmM → Option (Int32 × tmM)) (L : Int32 → Int32 → Int32 → tmM → Option (Int32 × tmM)) (x1 x2 x3 : Int32) (v : tmM) : Option (Int32 × tmM) := tm_lt (x2 ||| (1 <<< (x3 &&& 31))) fun y7 => f_X7_troubledReaders_71 K0 L x1 y7 x3 v
set_option maxRecDepth 100000 in
set_option maxHeartbeats 4000000 in
theorem w_X7_troubledReaders_65 {p : Program} {l : Launch} {e : Env} {s : State} {m : MethodId} {args : Array Value} {below : List Frame} {meth : Method} {c : Code} {D : va_G} {cy : Nat → ClassId} {ad : Nat → Nat} {A : Nat → Prop} {z : (Int32 × tmM)} {K0 : Int32 → tmM → Option (Int32 × tmM)} {L : Int32 → Int32 → Int32 → tmM → Option (Int32 × tmM)} (C0 : tmC p s m args meth c cX7_troubledReaders 5 (some .int) RX7 TMW tm_NWC D cy tm_shC ad 256 [] A) (hK0 : ∀ (a2 : Int32) (w : tmM), tmG p l e ({ frames := 2, cells := 0, slots := 0, locals := 47 } : Room) s m args below meth c 0 0 (MQ below (va_Qi (fun r u => z = (r, u)) (tmAt tm_shC 256 D cy ad A) A) args s 0 0 A) 5 D cy tm_shC ad 256 [] A z 77 [(2, .int a2)] [] w (K0 a2 w)) (hL : ∀ (a1 a2 a3 : Int32) (w : tmM), tmG p l e ({ frames := 2, cells := 0, slots := 0, locals := 47 } : Room) s m args below meth c 0 0 (MQ below (va_Qi (fun r u => z = (r, u)) (tmAt tm_shC 256 D cy ad A) A) args s 0 0 A) 5 D cy tm_shC ad 256 [] A z 24 [(0, .ref (ad 247)), (1, .int a1), (2, .int a2), (3, .int a3)] [] w (L a1 a2 a3 w)) (x1 x2 x3 : Int32) (v : tmM) : tmG p l e ({ frames := 2, cells := 0, slots := 0, locals := 47 } : Room) s m args below meth c 0 0 (MQ below (va_Qi (fun r u => z = (r, u)) (tmAt tm_shC 256 D cy ad A) A) args s 0 0 A) 5 D cy tm_shC ad 256 [] A z 65 [(0, .ref (ad 247)), (1, .int x1), (2, .int x2), (3, .int x3)] [] v (f_X7_troubledReaders_65 K0 L x1 x2 x3 v) := by
  unfold f_X7_troubledReaders_65
  refine tg_iload_n 2 C0 dX7_troubledReaders_65 rfl rfl ?_
  refine tg_iconst (x := 1) C0 dX7_troubledReaders_66 (by decide) ?_
  refine tg_iload_n 3 C0 dX7_troubledReaders_67 rfl rfl ?_
  refine tg_ishl C0 dX7_troubledReaders_68 ?_
  refine tg_ior C0 dX7_troubledReaders_69 ?_
  refine tg_leti (fun y7 _ => ?_)
  refine tg_istore_n [(2, .int y7), (0, .ref (ad 247)), (1, .int x1), (3, .int x3)] C0 dX7_troubledReaders_70 rfl (by decide) rfl ?_
  refine tg_sub [1, 2, 0, 3] rfl ?_
  exact w_X7_troubledReaders_71 C0 hK0 hL x1 y7 x3 v
def f_X7_troubledReaders_24b (K0 : Int32 → tmM → Option (Int32 × tmM)) (L : Int32 → Int32 → Int32 → tmM → Option (Int32 × tmM)) (x1 x2 x3 : Int32) (v : tmM) : Option (Int32 × tmM) := (if 8 ≤ x3 then K0 x2 v else tm_cl (f_X4_sideOf x3 v) fun r4 v3 => tm_cl (f_X7_has (v3 0 1) r4 v3) fun r6 v5 => (if r6 = 0 then f_X7_troubledReaders_65 K0 L x1 x2 x3 v5 else (if r4 = 1 then (if x1 = 0 then f_X7_troubledReaders_71 K0 L x1 x2 x3 v5 else f_X7_troubledReaders_65 K0 L x1 x2 x3 v5) else f_X7_troubledReaders_71 K0 L x1 x2 x3 v5)))
set_option maxRecDepth 100000 in
set_option maxHeartbeats 4000000 in
theorem w_X7_troubledReaders_24b {p : Program} {l : Launch} {e : Env} {s : State} {m : MethodId} {args : Array Value} {below : List Frame} {meth : Method} {c : Code} {D : va_G} {cy : Nat → ClassId} {ad : Nat → Nat} {A : Nat → Prop} {z : (Int32 × tmM)} {K0 : Int32 → tmM → Option (Int32 × tmM)} {L : Int32 → Int32 → Int32 → tmM → Option (Int32 × tmM)} (C0 : tmC p s m args meth c cX7_troubledReaders 5 (some .int) RX7 TMW tm_NWC D cy tm_shC ad 256 [] A) (hK0 : ∀ (a2 : Int32) (w : tmM), tmG p l e ({ frames := 2, cells := 0, slots := 0, locals := 47 } : Room) s m args below meth c 0 0 (MQ below (va_Qi (fun r u => z = (r, u)) (tmAt tm_shC 256 D cy ad A) A) args s 0 0 A) 5 D cy tm_shC ad 256 [] A z 77 [(2, .int a2)] [] w (K0 a2 w)) (hL : ∀ (a1 a2 a3 : Int32) (w : tmM), tmG p l e ({ frames := 2, cells := 0, slots := 0, locals := 47 } : Room) s m args below meth c 0 0 (MQ below (va_Qi (fun r u => z = (r, u)) (tmAt tm_shC 256 D cy ad A) A) args s 0 0 A) 5 D cy tm_shC ad 256 [] A z 24 [(0, .ref (ad 247)), (1, .int a1), (2, .int a2), (3, .int a3)] [] w (L a1 a2 a3 w)) (x1 x2 x3 : Int32) (v : tmM) : tmG p l e ({ frames := 2, cells := 0, slots := 0, locals := 47 } : Room) s m args below meth c 0 0 (MQ below (va_Qi (fun r u => z = (r, u)) (tmAt tm_shC 256 D cy ad A) A) args s 0 0 A) 5 D cy tm_shC ad 256 [] A z 24 [(0, .ref (ad 247)), (1, .int x1), (2, .int x2), (3, .int x3)] [] v (f_X7_troubledReaders_24b K0 L x1 x2 x3 v) := by
  unfold f_X7_troubledReaders_24b
  refine tg_iload_n 3 C0 dX7_troubledReaders_24 rfl rfl ?_
  refine tg_bipush (x := 8) C0 dX7_troubledReaders_25 (by decide) ?_
  refine tg_icmp_ge 77 C0 dX7_troubledReaders_27 (by decide) (fun _ => ?_) (fun _ => ?_)
  · refine tg_sub [2] rfl ?_
    exact hK0 x2 v
  · refine tg_aload_n 0 C0 dX7_troubledReaders_30 rfl rfl ?_
    refine tg_get 247 0 C0 dX7_troubledReaders_31 (by decide) rfl rfl tu_X7 (by decide) tf_X7_12 rfl rfl rfl ?_
    refine tg_iload_n 3 C0 dX7_troubledReaders_34 rfl rfl ?_
    refine tg_callVi (As := [.int x3]) 0 1 C0 dX7_troubledReaders_35 (c_X4_sideOf l x3 v) rfl rfl (by decide) rfl rfl (tm_gV tl_X7_183 ti_X4_sideOf ts_X4_sideOf tn_X4 tc_X4_sideOf)  rfl rfl rfl rfl (by decide +kernel) ⟨by decide, by decide⟩ (Nat.le_of_ble_eq_true rfl) ⟨by decide, by decide⟩ (fun r4 v3 _ => ?_)
    refine tg_istore [(4, .int r4), (0, .ref (ad 247)), (1, .int x1), (2, .int x2), (3, .int x3)] C0 dX7_troubledReaders_38 (by decide) rfl ?_
    refine tg_aload_n 1 C0 dX7_troubledReaders_40 rfl rfl ?_
    refine tg_get 247 0 C0 dX7_troubledReaders_41 (by decide) rfl rfl tu_X7 (by decide) tf_X7_12 rfl rfl rfl ?_
    refine tg_getN 0 1 C0 dX7_troubledReaders_44 (by decide) rfl rfl tu_X4 (by decide) tm_nwC_X7_117 rfl rfl rfl ?_
    refine tg_iload 0 C0 dX7_troubledReaders_47 rfl ?_
    refine tg_callSi (As := [.int (v3 0 1), .int r4]) 2 C0 dX7_troubledReaders_49 (c_X7_has l (v3 0 1) r4 v3) rfl rfl (tm_gc tc_X7_has) tl_X7_120 tn_X7 tst_X7_has  rfl rfl rfl rfl (by decide +kernel) ⟨by decide, by decide⟩ (Nat.le_of_ble_eq_true rfl) ⟨by decide, by decide⟩ (fun r6 v5 _ => ?_)
    refine tg_if_eq 65 C0 dX7_troubledReaders_52 (by decide) (fun _ => ?_) (fun _ => ?_)
    · refine tg_sub [1, 2, 3, 4] rfl ?_
      exact w_X7_troubledReaders_65 C0 hK0 hL x1 x2 x3 v5
    · refine tg_iload 0 C0 dX7_troubledReaders_55 rfl ?_
      refine tg_iconst (x := 1) C0 dX7_troubledReaders_57 (by decide) ?_
      refine tg_icmp_ne 71 C0 dX7_troubledReaders_58 (by decide) (fun _ => ?_) (fun _ => ?_)
      · refine tg_sub [1, 2, 3, 4] rfl ?_
        exact w_X7_troubledReaders_71 C0 hK0 hL x1 x2 x3 v5
      · refine tg_iload_n 2 C0 dX7_troubledReaders_61 rfl rfl ?_
        refine tg_if_eq 71 C0 dX7_troubledReaders_62 (by decide) (fun _ => ?_) (fun _ => ?_)
        · refine tg_sub [1, 2, 3, 4] rfl ?_
          exact w_X7_troubledReaders_71 C0 hK0 hL x1 x2 x3 v5
        · refine tg_sub [1, 2, 3, 4] rfl ?_
          exact w_X7_troubledReaders_65 C0 hK0 hL x1 x2 x3 v5
def f_X7_troubledReaders_24 (K0 : Int32 → tmM → Option (Int32 × tmM)) : Nat → Int32 → Int32 → Int32 → tmM → Option (Int32 × tmM)
  | 0 => fun _ _ _ _ => none
  | n + 1 => f_X7_troubledReaders_24b K0 (f_X7_troubledReaders_24 K0 n)
theorem w_X7_troubledReaders_24 {p : Program} {l : Launch} {e : Env} {s : State} {m : MethodId} {args : Array Value} {below : List Frame} {meth : Method} {c : Code} {D : va_G} {cy : Nat → ClassId} {ad : Nat → Nat} {A : Nat → Prop} {z : (Int32 × tmM)} {K0 : Int32 → tmM → Option (Int32 × tmM)} (C0 : tmC p s m args meth c cX7_troubledReaders 5 (some .int) RX7 TMW tm_NWC D cy tm_shC ad 256 [] A) (hK0 : ∀ (a2 : Int32) (w : tmM), tmG p l e ({ frames := 2, cells := 0, slots := 0, locals := 47 } : Room) s m args below meth c 0 0 (MQ below (va_Qi (fun r u => z = (r, u)) (tmAt tm_shC 256 D cy ad A) A) args s 0 0 A) 5 D cy tm_shC ad 256 [] A z 77 [(2, .int a2)] [] w (K0 a2 w)) (nn : Nat) : ∀ (x1 x2 x3 : Int32) (v : tmM), tmG p l e ({ frames := 2, cells := 0, slots := 0, locals := 47 } : Room) s m args below meth c 0 0 (MQ below (va_Qi (fun r u => z = (r, u)) (tmAt tm_shC 256 D cy ad A) A) args s 0 0 A) 5 D cy tm_shC ad 256 [] A z 24 [(0, .ref (ad 247)), (1, .int x1), (2, .int x2), (3, .int x3)] [] v (f_X7_troubledReaders_24 K0 nn x1 x2 x3 v) := by
  induction nn with
  | zero => intro _ _ _ _; exact tg_none
  | succ n ih => intro x1 x2 x3 v; exact w_X7_troubledReaders_24b C0 hK0 ih x1 x2 x3 v
def f_X7_troubledReaders_19 (s0 : Int32) (v : tmM) : Option (Int32 × tmM) := f_X7_troubledReaders_24 (fun x8 v9 => some (x8, v9)) 10000 s0 0 0 v
set_option maxRecDepth 100000 in
set_option maxHeartbeats 4000000 in
theorem w_X7_troubledReaders_19 {p : Program} {l : Launch} {e : Env} {s : State} {m : MethodId} {args : Array Value} {below : List Frame} {meth : Method} {c : Code} {D : va_G} {cy : Nat → ClassId} {ad : Nat → Nat} {A : Nat → Prop} {z : (Int32 × tmM)} (C0 : tmC p s m args meth c cX7_troubledReaders 5 (some .int) RX7 TMW tm_NWC D cy tm_shC ad 256 [] A) (s0 : Int32) (v : tmM) : tmG p l e ({ frames := 2, cells := 0, slots := 0, locals := 47 } : Room) s m args below meth c 0 0 (MQ below (va_Qi (fun r u => z = (r, u)) (tmAt tm_shC 256 D cy ad A) A) args s 0 0 A) 5 D cy tm_shC ad 256 [] A z 19 [(0, .ref (ad 247))] [.int s0] v (f_X7_troubledReaders_19 s0 v) := by
  unfold f_X7_troubledReaders_19
  refine tg_istore_n [(1, .int s0), (0, .ref (ad 247))] C0 dX7_troubledReaders_19 rfl (by decide) rfl ?_
  refine tg_iconst (x := 0) C0 dX7_troubledReaders_20 (by decide) ?_
  refine tg_istore_n [(2, .int 0), (1, .int s0), (0, .ref (ad 247))] C0 dX7_troubledReaders_21 rfl (by decide) rfl ?_
  refine tg_iconst (x := 0) C0 dX7_troubledReaders_22 (by decide) ?_
  refine tg_istore_n [(3, .int 0), (2, .int 0), (1, .int s0), (0, .ref (ad 247))] C0 dX7_troubledReaders_23 rfl (by decide) rfl ?_
  refine tg_sub [3, 2, 1, 0] rfl ?_
  refine w_X7_troubledReaders_24 C0 (fun x8 v9 => ?_) 10000 s0 0 0 v
  refine tg_iload_n 0 C0 dX7_troubledReaders_77 rfl rfl ?_
  exact tg_iret C0 dX7_troubledReaders_78
def f_X7_troubledReaders (v : tmM) : Option (Int32 × tmM) := tm_cl (f_X5_brokenCells 1 v) fun r2 v1 => (if r2 ≤ 0 then f_X7_troubledReaders_19 0 v1 else f_X7_troubledReaders_19 1 v1)
set_option maxRecDepth 100000 in
set_option maxHeartbeats 4000000 in
theorem w_X7_troubledReaders {p : Program} {l : Launch} {e : Env} {s : State} {m : MethodId} {args : Array Value} {below : List Frame} {meth : Method} {c : Code} {D : va_G} {cy : Nat → ClassId} {ad : Nat → Nat} {A : Nat → Prop} {z : (Int32 × tmM)} (C0 : tmC p s m args meth c cX7_troubledReaders 5 (some .int) RX7 TMW tm_NWC D cy tm_shC ad 256 [] A) (v : tmM) : tmG p l e ({ frames := 2, cells := 0, slots := 0, locals := 47 } : Room) s m args below meth c 0 0 (MQ below (va_Qi (fun r u => z = (r, u)) (tmAt tm_shC 256 D cy ad A) A) args s 0 0 A) 5 D cy tm_shC ad 256 [] A z 0 [(0, .ref (ad 247))] [] v (f_X7_troubledReaders v) := by
  unfold f_X7_troubledReaders
  refine tg_aload_n 0 C0 dX7_troubledReaders_0 rfl rfl ?_
  refine tg_get 247 0 C0 dX7_troubledReaders_1 (by decide) rfl rfl tu_X7 (by decide) tf_X7_12 rfl rfl rfl ?_
  refine tg_getN 0 5 C0 dX7_troubledReaders_4 (by decide) rfl rfl tu_X4 (by decide) tm_nwC_X7_98 rfl rfl rfl ?_
  refine tg_iconst (x := 1) C0 dX7_troubledReaders_7 (by decide) ?_
  refine tg_callVi (As := [.int 1]) 1 1 C0 dX7_troubledReaders_8 (c_X5_brokenCells l 1 v) rfl rfl (by decide) rfl rfl (tm_gV tl_X7_214 ti_X5_brokenCells ts_X5_brokenCells tn_X5 tc_X5_brokenCells)  rfl rfl rfl rfl (by decide +kernel) ⟨by decide, by decide⟩ (Nat.le_of_ble_eq_true rfl) ⟨by decide, by decide⟩ (fun r2 v1 _ => ?_)
  refine tg_if_le 18 C0 dX7_troubledReaders_11 (by decide) (fun _ => ?_) (fun _ => ?_)
  · refine tg_iconst (x := 0) C0 dX7_troubledReaders_18 (by decide) ?_
    exact w_X7_troubledReaders_19 C0 0 v1
  · refine tg_iconst (x := 1) C0 dX7_troubledReaders_14 (by decide) ?_
    refine tg_goto 19 C0 dX7_troubledReaders_15 (by decide) ?_
    exact w_X7_troubledReaders_19 C0 1 v1
theorem c_X7_troubledReaders (l : Launch) (v : tmM) : tmMi tm_NWC tm_shC 256 l yX7_troubledReaders (Cond.code yX7_troubledReaders cX7_troubledReaders 5 (some .int) :: TMW) ({ frames := 2, cells := 0, slots := 0, locals := 47 } : Room) (fun ad => [.ref (ad 247)]) v (f_X7_troubledReaders v) :=
  tmMi.of (cc := cX7_troubledReaders) (nL := 5) (by decide +kernel) rfl tm_NWC_ok (fun _ => Nat.le_of_ble_eq_true rfl) (fun p e s m args below meth c A D cy ad z C0 => w_X7_troubledReaders C0 v)
-- ----- X7_errorCode
theorem dX7_errorCode_0 : decode cX7_errorCode 0 = .ok (.aload_n 0, 1) := by decide +kernel
theorem dX7_errorCode_1 : decode cX7_errorCode 1 = .ok (.getfield 30, 3) := by decide +kernel
theorem dX7_errorCode_4 : decode cX7_errorCode 4 = .ok (.getfield 59, 3) := by decide +kernel
theorem dX7_errorCode_7 : decode cX7_errorCode 7 = .ok (.ireturn, 1) := by decide +kernel
theorem tf_X7_30 : Cond.fieldLink RX7 30 "TableMove" (TX7 7).2.1 (TX7 7).2.2.1 ∈ TMW := tm_in 360 (by decide +kernel) (by decide +kernel)
theorem tu_X3 : ∀ w ∈ u_ws RX3 TX3 11, w ∈ TMW := tm_us [296, 298, 300, 302, 304, 306, 308, 310, 312, 314, 316] (by decide +kernel) (by decide +kernel)
def f_X7_errorCode (v : tmM) : Option (Int32 × tmM) := some (v 251 6, v)
set_option maxRecDepth 100000 in
set_option maxHeartbeats 4000000 in
theorem w_X7_errorCode {p : Program} {l : Launch} {e : Env} {s : State} {m : MethodId} {args : Array Value} {below : List Frame} {meth : Method} {c : Code} {D : va_G} {cy : Nat → ClassId} {ad : Nat → Nat} {A : Nat → Prop} {z : (Int32 × tmM)} (C0 : tmC p s m args meth c cX7_errorCode 1 (some .int) RX7 TMW tm_NWC D cy tm_shC ad 256 [] A) (v : tmM) : tmG p l e ({ frames := 0, cells := 0, slots := 0, locals := 0 } : Room) s m args below meth c 0 0 (MQ below (va_Qi (fun r u => z = (r, u)) (tmAt tm_shC 256 D cy ad A) A) args s 0 0 A) 1 D cy tm_shC ad 256 [] A z 0 [(0, .ref (ad 247))] [] v (f_X7_errorCode v) := by
  unfold f_X7_errorCode
  refine tg_aload_n 0 C0 dX7_errorCode_0 rfl rfl ?_
  refine tg_get 247 7 C0 dX7_errorCode_1 (by decide) rfl rfl tu_X7 (by decide) tf_X7_30 rfl rfl rfl ?_
  refine tg_getN 251 6 C0 dX7_errorCode_4 (by decide) rfl rfl tu_X3 (by decide) tm_nwC_X7_59 rfl rfl rfl ?_
  exact tg_iret C0 dX7_errorCode_7
theorem c_X7_errorCode (l : Launch) (v : tmM) : tmMi tm_NWC tm_shC 256 l yX7_errorCode (Cond.code yX7_errorCode cX7_errorCode 1 (some .int) :: TMW) ({ frames := 0, cells := 0, slots := 0, locals := 0 } : Room) (fun ad => [.ref (ad 247)]) v (f_X7_errorCode v) :=
  tmMi.of (cc := cX7_errorCode) (nL := 1) (by decide +kernel) rfl tm_NWC_ok (fun _ => Nat.le_of_ble_eq_true rfl) (fun p e s m args below meth c A D cy ad z C0 => w_X7_errorCode C0 v)
-- ----- X7_errorPosition
theorem dX7_errorPosition_0 : decode cX7_errorPosition 0 = .ok (.aload_n 0, 1) := by decide +kernel
theorem dX7_errorPosition_1 : decode cX7_errorPosition 1 = .ok (.getfield 30, 3) := by decide +kernel
theorem dX7_errorPosition_4 : decode cX7_errorPosition 4 = .ok (.getfield 85, 3) := by decide +kernel
theorem dX7_errorPosition_7 : decode cX7_errorPosition 7 = .ok (.ireturn, 1) := by decide +kernel
def f_X7_errorPosition (v : tmM) : Option (Int32 × tmM) := some (v 251 7, v)
set_option maxRecDepth 100000 in
set_option maxHeartbeats 4000000 in
theorem w_X7_errorPosition {p : Program} {l : Launch} {e : Env} {s : State} {m : MethodId} {args : Array Value} {below : List Frame} {meth : Method} {c : Code} {D : va_G} {cy : Nat → ClassId} {ad : Nat → Nat} {A : Nat → Prop} {z : (Int32 × tmM)} (C0 : tmC p s m args meth c cX7_errorPosition 1 (some .int) RX7 TMW tm_NWC D cy tm_shC ad 256 [] A) (v : tmM) : tmG p l e ({ frames := 0, cells := 0, slots := 0, locals := 0 } : Room) s m args below meth c 0 0 (MQ below (va_Qi (fun r u => z = (r, u)) (tmAt tm_shC 256 D cy ad A) A) args s 0 0 A) 1 D cy tm_shC ad 256 [] A z 0 [(0, .ref (ad 247))] [] v (f_X7_errorPosition v) := by
  unfold f_X7_errorPosition
  refine tg_aload_n 0 C0 dX7_errorPosition_0 rfl rfl ?_
  refine tg_get 247 7 C0 dX7_errorPosition_1 (by decide) rfl rfl tu_X7 (by decide) tf_X7_30 rfl rfl rfl ?_
  refine tg_getN 251 7 C0 dX7_errorPosition_4 (by decide) rfl rfl tu_X3 (by decide) tm_nwC_X7_85 rfl rfl rfl ?_
  exact tg_iret C0 dX7_errorPosition_7
theorem c_X7_errorPosition (l : Launch) (v : tmM) : tmMi tm_NWC tm_shC 256 l yX7_errorPosition (Cond.code yX7_errorPosition cX7_errorPosition 1 (some .int) :: TMW) ({ frames := 0, cells := 0, slots := 0, locals := 0 } : Room) (fun ad => [.ref (ad 247)]) v (f_X7_errorPosition v) :=
  tmMi.of (cc := cX7_errorPosition) (nL := 1) (by decide +kernel) rfl tm_NWC_ok (fun _ => Nat.le_of_ble_eq_true rfl) (fun p e s m args below meth c A D cy ad z C0 => w_X7_errorPosition C0 v)
