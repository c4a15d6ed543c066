-- ----- X3_fail
theorem dX3_fail_0 : decode cX3_fail 0 = .ok (.aload_n 0, 1) := by decide +kernel
theorem dX3_fail_1 : decode cX3_fail 1 = .ok (.getfield 32, 3) := by decide +kernel
theorem dX3_fail_4 : decode cX3_fail 4 = .ok (.ifCond .ne 16, 3) := by decide +kernel
theorem dX3_fail_7 : decode cX3_fail 7 = .ok (.aload_n 0, 1) := by decide +kernel
theorem dX3_fail_8 : decode cX3_fail 8 = .ok (.iload_n 1, 1) := by decide +kernel
theorem dX3_fail_9 : decode cX3_fail 9 = .ok (.putfield 32, 3) := by decide +kernel
theorem dX3_fail_12 : decode cX3_fail 12 = .ok (.aload_n 0, 1) := by decide +kernel
theorem dX3_fail_13 : decode cX3_fail 13 = .ok (.aload_n 0, 1) := by decide +kernel
theorem dX3_fail_14 : decode cX3_fail 14 = .ok (.getfield 87, 3) := by decide +kernel
theorem dX3_fail_17 : decode cX3_fail 17 = .ok (.putfield 25, 3) := by decide +kernel
theorem dX3_fail_20 : decode cX3_fail 20 = .ok (.return_, 1) := by decide +kernel
theorem tf_X3_32 : Cond.fieldLink RX3 32 "TableMove$Script" (TX3 6).2.1 (TX3 6).2.2.1 ∈ TMW := tm_in 289 (by decide +kernel) (by decide +kernel)
theorem tf_X3_87 : Cond.fieldLink RX3 87 "TableMove$Script" (TX3 9).2.1 (TX3 9).2.2.1 ∈ TMW := tm_in 294 (by decide +kernel) (by decide +kernel)
theorem tf_X3_25 : Cond.fieldLink RX3 25 "TableMove$Script" (TX3 7).2.1 (TX3 7).2.2.1 ∈ TMW := tm_in 291 (by decide +kernel) (by decide +kernel)
def f_X3_fail (x1 : Int32) (v : tmM) : Option (Unit × tmM) := (if (v 251 6) = 0 then tm_lt (tm_up v 251 6 x1) fun v1 => tm_lt (tm_up v1 251 7 (v1 251 9)) fun v2 => some ((), v2) else some ((), v))
set_option maxRecDepth 100000 in
set_option maxHeartbeats 4000000 in
theorem w_X3_fail {p : Program} {l : Launch} {e : Env} {s : State} {m : MethodId} {args : Array Value} {below : List Frame} {meth : Method} {c : Code} {D : va_G} {cy : Nat → ClassId} {ad : Nat → Nat} {A : Nat → Prop} {z : (Unit × tmM)} (C0 : tmC p s m args meth c cX3_fail 2 none RX3 TMW tm_NWC D cy tm_shC ad 256 [] A) (x1 : Int32) (v : tmM) : tmG p l e ({ frames := 0, cells := 0, slots := 0, locals := 0 } : Room) s m args below meth c 0 0 (MQ below (va_Qv (fun u => z = ((), u)) (tmAt tm_shC 256 D cy ad A) A) args s 0 0 A) 2 D cy tm_shC ad 256 [] A z 0 [(0, .ref (ad 251)), (1, .int x1)] [] v (f_X3_fail x1 v) := by
  unfold f_X3_fail
  refine tg_aload_n 0 C0 dX3_fail_0 rfl rfl ?_
  refine tg_get 251 6 C0 dX3_fail_1 (by decide) rfl rfl tu_X3 (by decide) tf_X3_32 rfl rfl rfl ?_
  refine tg_if_ne 20 C0 dX3_fail_4 (by decide) (fun _ => ?_) (fun _ => ?_)
  · exact tg_vret C0 dX3_fail_20
  · refine tg_aload_n 0 C0 dX3_fail_7 rfl rfl ?_
    refine tg_iload_n 1 C0 dX3_fail_8 rfl rfl ?_
    refine tg_put 251 6 C0 dX3_fail_9 (by decide) rfl rfl tu_X3 tyX3_ok nmX3 (by decide) tf_X3_32 rfl rfl rfl rfl rfl rfl ?_
    refine tg_letm (fun v1 _ => ?_)
    refine tg_aload_n 0 C0 dX3_fail_12 rfl rfl ?_
    refine tg_aload_n 0 C0 dX3_fail_13 rfl rfl ?_
    refine tg_get 251 9 C0 dX3_fail_14 (by decide) rfl rfl tu_X3 (by decide) tf_X3_87 rfl rfl rfl ?_
    refine tg_put 251 7 C0 dX3_fail_17 (by decide) rfl rfl tu_X3 tyX3_ok nmX3 (by decide) tf_X3_25 rfl rfl rfl rfl rfl rfl ?_
    refine tg_letm (fun v2 _ => ?_)
    exact tg_vret C0 dX3_fail_20
theorem c_X3_fail (l : Launch) (x1 : Int32) (v : tmM) : tmMv tm_NWC tm_shC 256 l yX3_fail (Cond.code yX3_fail cX3_fail 2 none :: TMW) ({ frames := 0, cells := 0, slots := 0, locals := 0 } : Room) (fun ad => [.ref (ad 251), .int x1]) v (f_X3_fail x1 v) :=
  tmMv.of (cc := cX3_fail) (nL := 2) (by decide +kernel) rfl tm_NWC_ok (fun _ => Nat.le_of_ble_eq_true rfl) (fun p e s m args below meth c A D cy ad z C0 => w_X3_fail C0 x1 v)
-- ----- X3_keep
theorem dX3_keep_0 : decode cX3_keep 0 = .ok (.aload_n 0, 1) := by decide +kernel
theorem dX3_keep_1 : decode cX3_keep 1 = .ok (.getfield 15, 3) := by decide +kernel
theorem dX3_keep_4 : decode cX3_keep 4 = .ok (.aload_n 0, 1) := by decide +kernel
theorem dX3_keep_5 : decode cX3_keep 5 = .ok (.getfield 29, 3) := by decide +kernel
theorem dX3_keep_8 : decode cX3_keep 8 = .ok (.iload_n 1, 1) := by decide +kernel
theorem dX3_keep_9 : decode cX3_keep 9 = .ok (.iastore, 1) := by decide +kernel
theorem dX3_keep_10 : decode cX3_keep 10 = .ok (.aload_n 0, 1) := by decide +kernel
theorem dX3_keep_11 : decode cX3_keep 11 = .ok (.getfield 19, 3) := by decide +kernel
theorem dX3_keep_14 : decode cX3_keep 14 = .ok (.aload_n 0, 1) := by decide +kernel
theorem dX3_keep_15 : decode cX3_keep 15 = .ok (.getfield 29, 3) := by decide +kernel
theorem dX3_keep_18 : decode cX3_keep 18 = .ok (.iload_n 2, 1) := by decide +kernel
theorem dX3_keep_19 : decode cX3_keep 19 = .ok (.iastore, 1) := by decide +kernel
theorem dX3_keep_20 : decode cX3_keep 20 = .ok (.aload_n 0, 1) := by decide +kernel
theorem dX3_keep_21 : decode cX3_keep 21 = .ok (.getfield 22, 3) := by decide +kernel
theorem dX3_keep_24 : decode cX3_keep 24 = .ok (.aload_n 0, 1) := by decide +kernel
theorem dX3_keep_25 : decode cX3_keep 25 = .ok (.getfield 29, 3) := by decide +kernel
theorem dX3_keep_28 : decode cX3_keep 28 = .ok (.iload_n 3, 1) := by decide +kernel
theorem dX3_keep_29 : decode cX3_keep 29 = .ok (.iastore, 1) := by decide +kernel
theorem dX3_keep_30 : decode cX3_keep 30 = .ok (.aload_n 0, 1) := by decide +kernel
theorem dX3_keep_31 : decode cX3_keep 31 = .ok (.dup, 1) := by decide +kernel
theorem dX3_keep_32 : decode cX3_keep 32 = .ok (.getfield 29, 3) := by decide +kernel
theorem dX3_keep_35 : decode cX3_keep 35 = .ok (.iconst 1, 1) := by decide +kernel
theorem dX3_keep_36 : decode cX3_keep 36 = .ok (.iadd, 1) := by decide +kernel
theorem dX3_keep_37 : decode cX3_keep 37 = .ok (.putfield 29, 3) := by decide +kernel
theorem dX3_keep_40 : decode cX3_keep 40 = .ok (.return_, 1) := by decide +kernel
theorem tf_X3_15 : Cond.fieldLink RX3 15 "TableMove$Script" (TX3 2).2.1 (TX3 2).2.2.1 ∈ TMW := tm_in 281 (by decide +kernel) (by decide +kernel)
theorem tf_X3_29 : Cond.fieldLink RX3 29 "TableMove$Script" (TX3 5).2.1 (TX3 5).2.2.1 ∈ TMW := tm_in 287 (by decide +kernel) (by decide +kernel)
theorem tf_X3_19 : Cond.fieldLink RX3 19 "TableMove$Script" (TX3 3).2.1 (TX3 3).2.2.1 ∈ TMW := tm_in 283 (by decide +kernel) (by decide +kernel)
theorem tf_X3_22 : Cond.fieldLink RX3 22 "TableMove$Script" (TX3 4).2.1 (TX3 4).2.2.1 ∈ TMW := tm_in 285 (by decide +kernel) (by decide +kernel)
def f_X3_keep (x1 x2 x3 : Int32) (v : tmM) : Option (Unit × tmM) := tm_g (tm_ix (v 251 5) 30) (tm_lt (tm_up v 253 (v 251 5).toNatClampNeg x1) fun v1 => tm_g (tm_ix (v1 251 5) 30) (tm_lt (tm_up v1 254 (v1 251 5).toNatClampNeg x2) fun v2 => tm_g (tm_ix (v2 251 5) 30) (tm_lt (tm_up v2 255 (v2 251 5).toNatClampNeg x3) fun v3 => tm_lt (tm_up v3 251 5 ((v3 251 5) + 1)) fun v4 => some ((), v4))))
set_option maxRecDepth 100000 in
set_option maxHeartbeats 4000000 in
theorem w_X3_keep {p : Program} {l : Launch} {e : Env} {s : State} {m : MethodId} {args : Array Value} {below : List Frame} {meth : Method} {c : Code} {D : va_G} {cy : Nat → ClassId} {ad : Nat → Nat} {A : Nat → Prop} {z : (Unit × tmM)} (C0 : tmC p s m args meth c cX3_keep 4 none RX3 TMW tm_NWC D cy tm_shC ad 256 [] A) (x1 x2 x3 : Int32) (v : tmM) : tmG p l e ({ frames := 0, cells := 0, slots := 0, locals := 0 } : Room) s m args below meth c 0 0 (MQ below (va_Qv (fun u => z = ((), u)) (tmAt tm_shC 256 D cy ad A) A) args s 0 0 A) 4 D cy tm_shC ad 256 [] A z 0 [(0, .ref (ad 251)), (1, .int x1), (2, .int x2), (3, .int x3)] [] v (f_X3_keep x1 x2 x3 v) := by
  unfold f_X3_keep
  refine tg_aload_n 0 C0 dX3_keep_0 rfl rfl ?_
  refine tg_get 251 2 C0 dX3_keep_1 (by decide) rfl rfl tu_X3 (by decide) tf_X3_15 rfl rfl rfl ?_
  refine tg_aload_n 0 C0 dX3_keep_4 rfl rfl ?_
  refine tg_get 251 5 C0 dX3_keep_5 (by decide) rfl rfl tu_X3 (by decide) tf_X3_29 rfl rfl rfl ?_
  refine tg_iload_n 1 C0 dX3_keep_8 rfl rfl ?_
  refine tg_iast 253 C0 dX3_keep_9 (by decide) rfl (fun _ => ?_)
  refine tg_letm (fun v1 _ => ?_)
  refine tg_aload_n 0 C0 dX3_keep_10 rfl rfl ?_
  refine tg_get 251 3 C0 dX3_keep_11 (by decide) rfl rfl tu_X3 (by decide) tf_X3_19 rfl rfl rfl ?_
  refine tg_aload_n 0 C0 dX3_keep_14 rfl rfl ?_
  refine tg_get 251 5 C0 dX3_keep_15 (by decide) rfl rfl tu_X3 (by decide) tf_X3_29 rfl rfl rfl ?_
  refine tg_iload_n 2 C0 dX3_keep_18 rfl rfl ?_
  refine tg_iast 254 C0 dX3_keep_19 (by decide) rfl (fun _ => ?_)
  refine tg_letm (fun v2 _ => ?_)
  refine tg_aload_n 0 C0 dX3_keep_20 rfl rfl ?_
  refine tg_get 251 4 C0 dX3_keep_21 (by decide) rfl rfl tu_X3 (by decide) tf_X3_22 rfl rfl rfl ?_
  refine tg_aload_n 0 C0 dX3_keep_24 rfl rfl ?_
  refine tg_get 251 5 C0 dX3_keep_25 (by decide) rfl rfl tu_X3 (by decide) tf_X3_29 rfl rfl rfl ?_
  refine tg_iload_n 3 C0 dX3_keep_28 rfl rfl ?_
  refine tg_iast 255 C0 dX3_keep_29 (by decide) rfl (fun _ => ?_)
  refine tg_letm (fun v3 _ => ?_)
  refine tg_aload_n 0 C0 dX3_keep_30 rfl rfl ?_
  refine tg_dup C0 dX3_keep_31 rfl ?_
  refine tg_get 251 5 C0 dX3_keep_32 (by decide) rfl rfl tu_X3 (by decide) tf_X3_29 rfl rfl rfl ?_
  refine tg_iconst (x := 1) C0 dX3_keep_35 (by decide) ?_
  refine tg_iadd C0 dX3_keep_36 ?_
  refine tg_put 251 5 C0 dX3_keep_37 (by decide) rfl rfl tu_X3 tyX3_ok nmX3 (by decide) tf_X3_29 rfl rfl rfl rfl rfl rfl ?_
  refine tg_letm (fun v4 _ => ?_)
  exact tg_vret C0 dX3_keep_40
theorem c_X3_keep (l : Launch) (x1 x2 x3 : Int32) (v : tmM) : tmMv tm_NWC tm_shC 256 l yX3_keep (Cond.code yX3_keep cX3_keep 4 none :: TMW) ({ frames := 0, cells := 0, slots := 0, locals := 0 } : Room) (fun ad => [.ref (ad 251), .int x1, .int x2, .int x3]) v (f_X3_keep x1 x2 x3 v) :=
  tmMv.of (cc := cX3_keep) (nL := 4) (by decide +kernel) rfl tm_NWC_ok (fun _ => Nat.le_of_ble_eq_true rfl) (fun p e s m args below meth c A D cy ad z C0 => w_X3_keep C0 x1 x2 x3 v)
-- ----- X3_kindOf
theorem dX3_kindOf_0 : decode cX3_kindOf 0 = .ok (.iload_n 0, 1) := by decide +kernel
theorem dX3_kindOf_1 : decode cX3_kindOf 1 = .ok (.bipush 97, 2) := by decide +kernel
theorem dX3_kindOf_3 : decode cX3_kindOf 3 = .ok (.if_icmp .lt 11, 3) := by decide +kernel
theorem dX3_kindOf_6 : decode cX3_kindOf 6 = .ok (.iload_n 0, 1) := by decide +kernel
theorem dX3_kindOf_7 : decode cX3_kindOf 7 = .ok (.bipush 122, 2) := by decide +kernel
theorem dX3_kindOf_9 : decode cX3_kindOf 9 = .ok (.if_icmp .gt 5, 3) := by decide +kernel
theorem dX3_kindOf_12 : decode cX3_kindOf 12 = .ok (.iconst 1, 1) := by decide +kernel
theorem dX3_kindOf_13 : decode cX3_kindOf 13 = .ok (.ireturn, 1) := by decide +kernel
theorem dX3_kindOf_14 : decode cX3_kindOf 14 = .ok (.iload_n 0, 1) := by decide +kernel
theorem dX3_kindOf_15 : decode cX3_kindOf 15 = .ok (.bipush 48, 2) := by decide +kernel
theorem dX3_kindOf_17 : decode cX3_kindOf 17 = .ok (.if_icmp .lt 11, 3) := by decide +kernel
theorem dX3_kindOf_20 : decode cX3_kindOf 20 = .ok (.iload_n 0, 1) := by decide +kernel
theorem dX3_kindOf_21 : decode cX3_kindOf 21 = .ok (.bipush 57, 2) := by decide +kernel
theorem dX3_kindOf_23 : decode cX3_kindOf 23 = .ok (.if_icmp .gt 5, 3) := by decide +kernel
theorem dX3_kindOf_26 : decode cX3_kindOf 26 = .ok (.iconst 2, 1) := by decide +kernel
theorem dX3_kindOf_27 : decode cX3_kindOf 27 = .ok (.ireturn, 1) := by decide +kernel
theorem dX3_kindOf_28 : decode cX3_kindOf 28 = .ok (.iload_n 0, 1) := by decide +kernel
theorem dX3_kindOf_29 : decode cX3_kindOf 29 = .ok (.bipush 59, 2) := by decide +kernel
theorem dX3_kindOf_31 : decode cX3_kindOf 31 = .ok (.if_icmp .ne 7, 3) := by decide +kernel
theorem dX3_kindOf_34 : decode cX3_kindOf 34 = .ok (.iconst 3, 1) := by decide +kernel
theorem dX3_kindOf_35 : decode cX3_kindOf 35 = .ok (.goto 4, 3) := by decide +kernel
theorem dX3_kindOf_38 : decode cX3_kindOf 38 = .ok (.iconst 4, 1) := by decide +kernel
theorem dX3_kindOf_39 : decode cX3_kindOf 39 = .ok (.ireturn, 1) := by decide +kernel
def f_X3_kindOf_28 (x0 : Int32) (v : tmM) : Option (Int32 × tmM) := (if x0 = 59 then some (3, v) else some (4, v))
set_option maxRecDepth 100000 in
set_option maxHeartbeats 4000000 in
theorem w_X3_kindOf_28 {p : Program} {l : Launch} {e : Env} {s : State} {m : MethodId} {args : Array Value} {below : List Frame} {meth : Method} {c : Code} {D : va_G} {cy : Nat → ClassId} {ad : Nat → Nat} {A : Nat → Prop} {z : (Int32 × tmM)} (C0 : tmC p s m args meth c cX3_kindOf 1 (some .int) RX3 TMW tm_NWC D cy tm_shC ad 256 [] A) (x0 : Int32) (v : tmM) : tmG p l e ({ frames := 0, cells := 0, slots := 0, locals := 0 } : Room) s m args below meth c 0 0 (MQ below (va_Qi (fun r u => z = (r, u)) (tmAt tm_shC 256 D cy ad A) A) args s 0 0 A) 1 D cy tm_shC ad 256 [] A z 28 [(0, .int x0)] [] v (f_X3_kindOf_28 x0 v) := by
  unfold f_X3_kindOf_28
  refine tg_iload_n 0 C0 dX3_kindOf_28 rfl rfl ?_
  refine tg_bipush (x := 59) C0 dX3_kindOf_29 (by decide) ?_
  refine tg_icmp_ne 38 C0 dX3_kindOf_31 (by decide) (fun _ => ?_) (fun _ => ?_)
  · refine tg_iconst (x := 4) C0 dX3_kindOf_38 (by decide) ?_
    exact tg_iret C0 dX3_kindOf_39
  · refine tg_iconst (x := 3) C0 dX3_kindOf_34 (by decide) ?_
    refine tg_goto 39 C0 dX3_kindOf_35 (by decide) ?_
    exact tg_iret C0 dX3_kindOf_39
def f_X3_kindOf_14 (x0 : Int32) (v : tmM) : Option (Int32 × tmM) := (if x0 < 48 then f_X3_kindOf_28 x0 v else (if 57 < x0 then f_X3_kindOf_28 x0 v else some (2, v)))
set_option maxRecDepth 100000 in
set_option maxHeartbeats 4000000 in
theorem w_X3_kindOf_14 {p : Program} {l : Launch} {e : Env} {s : State} {m : MethodId} {args : Array Value} {below : List Frame} {meth : Method} {c : Code} {D : va_G} {cy : Nat → ClassId} {ad : Nat → Nat} {A : Nat → Prop} {z : (Int32 × tmM)} (C0 : tmC p s m args meth c cX3_kindOf 1 (some .int) RX3 TMW tm_NWC D cy tm_shC ad 256 [] A) (x0 : Int32) (v : tmM) : tmG p l e ({ frames := 0, cells := 0, slots := 0, locals := 0 } : Room) s m args below meth c 0 0 (MQ below (va_Qi (fun r u => z = (r, u)) (tmAt tm_shC 256 D cy ad A) A) args s 0 0 A) 1 D cy tm_shC ad 256 [] A z 14 [(0, .int x0)] [] v (f_X3_kindOf_14 x0 v) := by
  unfold f_X3_kindOf_14
  refine tg_iload_n 0 C0 dX3_kindOf_14 rfl rfl ?_
  refine tg_bipush (x := 48) C0 dX3_kindOf_15 (by decide) ?_
  refine tg_icmp_lt 28 C0 dX3_kindOf_17 (by decide) (fun _ => ?_) (fun _ => ?_)
  · exact w_X3_kindOf_28 C0 x0 v
  · refine tg_iload_n 0 C0 dX3_kindOf_20 rfl rfl ?_
    refine tg_bipush (x := 57) C0 dX3_kindOf_21 (by decide) ?_
    refine tg_icmp_gt 28 C0 dX3_kindOf_23 (by decide) (fun _ => ?_) (fun _ => ?_)
    · exact w_X3_kindOf_28 C0 x0 v
    · refine tg_iconst (x := 2) C0 dX3_kindOf_26 (by decide) ?_
      exact tg_iret C0 dX3_kindOf_27
def f_X3_kindOf (x0 : Int32) (v : tmM) : Option (Int32 × tmM) := (if x0 < 97 then f_X3_kindOf_14 x0 v else (if 122 < x0 then f_X3_kindOf_14 x0 v else some (1, v)))
set_option maxRecDepth 100000 in
set_option maxHeartbeats 4000000 in
theorem w_X3_kindOf {p : Program} {l : Launch} {e : Env} {s : State} {m : MethodId} {args : Array Value} {below : List Frame} {meth : Method} {c : Code} {D : va_G} {cy : Nat → ClassId} {ad : Nat → Nat} {A : Nat → Prop} {z : (Int32 × tmM)} (C0 : tmC p s m args meth c cX3_kindOf 1 (some .int) RX3 TMW tm_NWC D cy tm_shC ad 256 [] A) (x0 : Int32) (v : tmM) : tmG p l e ({ frames := 0, cells := 0, slots := 0, locals := 0 } : Room) s m args below meth c 0 0 (MQ below (va_Qi (fun r u => z = (r, u)) (tmAt tm_shC 256 D cy ad A) A) args s 0 0 A) 1 D cy tm_shC ad 256 [] A z 0 [(0, .int x0)] [] v (f_X3_kindOf x0 v) := by
  unfold f_X3_kindOf
  refine tg_iload_n 0 C0 dX3_kindOf_0 rfl rfl ?_
  refine tg_bipush (x := 97) C0 dX3_kindOf_1 (by decide) ?_
  refine tg_icmp_lt 14 C0 dX3_kindOf_3 (by decide) (fun _ => ?_) (fun _ => ?_)
  · exact w_X3_kindOf_14 C0 x0 v
  · refine tg_iload_n 0 C0 dX3_kindOf_6 rfl rfl ?_
    refine tg_bipush (x := 122) C0 dX3_kindOf_7 (by decide) ?_
    refine tg_icmp_gt 14 C0 dX3_kindOf_9 (by decide) (fun _ => ?_) (fun _ => ?_)
    · exact w_X3_kindOf_14 C0 x0 v
    · refine tg_iconst (x := 1) C0 dX3_kindOf_12 (by decide) ?_
      exact tg_iret C0 dX3_kindOf_13
theorem c_X3_kindOf (l : Launch) (x0 : Int32) (v : tmM) : tmMi tm_NWC tm_shC 256 l yX3_kindOf (Cond.code yX3_kindOf cX3_kindOf 1 (some .int) :: TMW) ({ frames := 0, cells := 0, slots := 0, locals := 0 } : Room) (fun ad => [.int x0]) v (f_X3_kindOf x0 v) :=
  tmMi.of (cc := cX3_kindOf) (nL := 1) (by decide +kernel) rfl tm_NWC_ok (fun _ => Nat.le_of_ble_eq_true rfl) (fun p e s m args below meth c A D cy ad z C0 => w_X3_kindOf C0 x0 v)
-- ----- X3_nextToken
theorem dX3_nextToken_0 : decode cX3_nextToken 0 = .ok (.aload_n 0, 1) := by decide +kernel
theorem dX3_nextToken_1 : decode cX3_nextToken 1 = .ok (.aload_n 0, 1) := by decide +kernel
theorem dX3_nextToken_2 : decode cX3_nextToken 2 = .ok (.getfield 35, 3) := by decide +kernel
theorem dX3_nextToken_5 : decode cX3_nextToken 5 = .ok (.putfield 87, 3) := by decide +kernel
theorem dX3_nextToken_8 : decode cX3_nextToken 8 = .ok (.aload_n 0, 1) := by decide +kernel
theorem dX3_nextToken_9 : decode cX3_nextToken 9 = .ok (.getfield 87, 3) := by decide +kernel
theorem dX3_nextToken_12 : decode cX3_nextToken 12 = .ok (.aload_n 0, 1) := by decide +kernel
theorem dX3_nextToken_13 : decode cX3_nextToken 13 = .ok (.getfield 113, 3) := by decide +kernel
theorem dX3_nextToken_16 : decode cX3_nextToken 16 = .ok (.if_icmp .ge 44, 3) := by decide +kernel
theorem dX3_nextToken_19 : decode cX3_nextToken 19 = .ok (.aload_n 0, 1) := by decide +kernel
theorem dX3_nextToken_20 : decode cX3_nextToken 20 = .ok (.getfield 9, 3) := by decide +kernel
theorem dX3_nextToken_23 : decode cX3_nextToken 23 = .ok (.aload_n 0, 1) := by decide +kernel
theorem dX3_nextToken_24 : decode cX3_nextToken 24 = .ok (.getfield 87, 3) := by decide +kernel
theorem dX3_nextToken_27 : decode cX3_nextToken 27 = .ok (.caload, 1) := by decide +kernel
theorem dX3_nextToken_28 : decode cX3_nextToken 28 = .ok (.bipush 32, 2) := by decide +kernel
theorem dX3_nextToken_30 : decode cX3_nextToken 30 = .ok (.if_icmp .eq 17, 3) := by decide +kernel
theorem dX3_nextToken_33 : decode cX3_nextToken 33 = .ok (.aload_n 0, 1) := by decide +kernel
theorem dX3_nextToken_34 : decode cX3_nextToken 34 = .ok (.getfield 9, 3) := by decide +kernel
theorem dX3_nextToken_37 : decode cX3_nextToken 37 = .ok (.aload_n 0, 1) := by decide +kernel
theorem dX3_nextToken_38 : decode cX3_nextToken 38 = .ok (.getfield 87, 3) := by decide +kernel
theorem dX3_nextToken_41 : decode cX3_nextToken 41 = .ok (.caload, 1) := by decide +kernel
theorem dX3_nextToken_42 : decode cX3_nextToken 42 = .ok (.bipush 10, 2) := by decide +kernel
theorem dX3_nextToken_44 : decode cX3_nextToken 44 = .ok (.if_icmp .ne 16, 3) := by decide +kernel
theorem dX3_nextToken_47 : decode cX3_nextToken 47 = .ok (.aload_n 0, 1) := by decide +kernel
theorem dX3_nextToken_48 : decode cX3_nextToken 48 = .ok (.dup, 1) := by decide +kernel
theorem dX3_nextToken_49 : decode cX3_nextToken 49 = .ok (.getfield 87, 3) := by decide +kernel
theorem dX3_nextToken_52 : decode cX3_nextToken 52 = .ok (.iconst 1, 1) := by decide +kernel
theorem dX3_nextToken_53 : decode cX3_nextToken 53 = .ok (.iadd, 1) := by decide +kernel
theorem dX3_nextToken_54 : decode cX3_nextToken 54 = .ok (.putfield 87, 3) := by decide +kernel
theorem dX3_nextToken_57 : decode cX3_nextToken 57 = .ok (.goto (-49), 3) := by decide +kernel
theorem dX3_nextToken_60 : decode cX3_nextToken 60 = .ok (.aload_n 0, 1) := by decide +kernel
theorem dX3_nextToken_61 : decode cX3_nextToken 61 = .ok (.aload_n 0, 1) := by decide +kernel
theorem dX3_nextToken_62 : decode cX3_nextToken 62 = .ok (.getfield 87, 3) := by decide +kernel
theorem dX3_nextToken_65 : decode cX3_nextToken 65 = .ok (.putfield 35, 3) := by decide +kernel
theorem dX3_nextToken_68 : decode cX3_nextToken 68 = .ok (.aload_n 0, 1) := by decide +kernel
theorem dX3_nextToken_69 : decode cX3_nextToken 69 = .ok (.aload_n 0, 1) := by decide +kernel
theorem dX3_nextToken_70 : decode cX3_nextToken 70 = .ok (.getfield 87, 3) := by decide +kernel
theorem dX3_nextToken_73 : decode cX3_nextToken 73 = .ok (.aload_n 0, 1) := by decide +kernel
theorem dX3_nextToken_74 : decode cX3_nextToken 74 = .ok (.getfield 113, 3) := by decide +kernel
theorem dX3_nextToken_77 : decode cX3_nextToken 77 = .ok (.if_icmp .ge 18, 3) := by decide +kernel
theorem dX3_nextToken_80 : decode cX3_nextToken 80 = .ok (.aload_n 0, 1) := by decide +kernel
theorem dX3_nextToken_81 : decode cX3_nextToken 81 = .ok (.getfield 9, 3) := by decide +kernel
theorem dX3_nextToken_84 : decode cX3_nextToken 84 = .ok (.aload_n 0, 1) := by decide +kernel
theorem dX3_nextToken_85 : decode cX3_nextToken 85 = .ok (.getfield 87, 3) := by decide +kernel
theorem dX3_nextToken_88 : decode cX3_nextToken 88 = .ok (.caload, 1) := by decide +kernel
theorem dX3_nextToken_89 : decode cX3_nextToken 89 = .ok (.invokestatic 115, 3) := by decide +kernel
theorem dX3_nextToken_92 : decode cX3_nextToken 92 = .ok (.goto 4, 3) := by decide +kernel
theorem dX3_nextToken_95 : decode cX3_nextToken 95 = .ok (.iconst 0, 1) := by decide +kernel
theorem dX3_nextToken_96 : decode cX3_nextToken 96 = .ok (.putfield 41, 3) := by decide +kernel
theorem dX3_nextToken_99 : decode cX3_nextToken 99 = .ok (.aload_n 0, 1) := by decide +kernel
theorem dX3_nextToken_100 : decode cX3_nextToken 100 = .ok (.getfield 41, 3) := by decide +kernel
theorem dX3_nextToken_103 : decode cX3_nextToken 103 = .ok (.iconst 1, 1) := by decide +kernel
theorem dX3_nextToken_104 : decode cX3_nextToken 104 = .ok (.if_icmp .eq 11, 3) := by decide +kernel
theorem dX3_nextToken_107 : decode cX3_nextToken 107 = .ok (.aload_n 0, 1) := by decide +kernel
theorem dX3_nextToken_108 : decode cX3_nextToken 108 = .ok (.getfield 41, 3) := by decide +kernel
theorem dX3_nextToken_111 : decode cX3_nextToken 111 = .ok (.iconst 2, 1) := by decide +kernel
theorem dX3_nextToken_112 : decode cX3_nextToken 112 = .ok (.if_icmp .ne 46, 3) := by decide +kernel
theorem dX3_nextToken_115 : decode cX3_nextToken 115 = .ok (.aload_n 0, 1) := by decide +kernel
theorem dX3_nextToken_116 : decode cX3_nextToken 116 = .ok (.getfield 35, 3) := by decide +kernel
theorem dX3_nextToken_119 : decode cX3_nextToken 119 = .ok (.aload_n 0, 1) := by decide +kernel
theorem dX3_nextToken_120 : decode cX3_nextToken 120 = .ok (.getfield 113, 3) := by decide +kernel
theorem dX3_nextToken_123 : decode cX3_nextToken 123 = .ok (.if_icmp .ge 52, 3) := by decide +kernel
theorem dX3_nextToken_126 : decode cX3_nextToken 126 = .ok (.aload_n 0, 1) := by decide +kernel
theorem dX3_nextToken_127 : decode cX3_nextToken 127 = .ok (.getfield 9, 3) := by decide +kernel
theorem dX3_nextToken_130 : decode cX3_nextToken 130 = .ok (.aload_n 0, 1) := by decide +kernel
theorem dX3_nextToken_131 : decode cX3_nextToken 131 = .ok (.getfield 35, 3) := by decide +kernel
theorem dX3_nextToken_134 : decode cX3_nextToken 134 = .ok (.caload, 1) := by decide +kernel
theorem dX3_nextToken_135 : decode cX3_nextToken 135 = .ok (.invokestatic 115, 3) := by decide +kernel
theorem dX3_nextToken_138 : decode cX3_nextToken 138 = .ok (.aload_n 0, 1) := by decide +kernel
theorem dX3_nextToken_139 : decode cX3_nextToken 139 = .ok (.getfield 41, 3) := by decide +kernel
theorem dX3_nextToken_142 : decode cX3_nextToken 142 = .ok (.if_icmp .ne 33, 3) := by decide +kernel
theorem dX3_nextToken_145 : decode cX3_nextToken 145 = .ok (.aload_n 0, 1) := by decide +kernel
theorem dX3_nextToken_146 : decode cX3_nextToken 146 = .ok (.dup, 1) := by decide +kernel
theorem dX3_nextToken_147 : decode cX3_nextToken 147 = .ok (.getfield 35, 3) := by decide +kernel
theorem dX3_nextToken_150 : decode cX3_nextToken 150 = .ok (.iconst 1, 1) := by decide +kernel
theorem dX3_nextToken_151 : decode cX3_nextToken 151 = .ok (.iadd, 1) := by decide +kernel
theorem dX3_nextToken_152 : decode cX3_nextToken 152 = .ok (.putfield 35, 3) := by decide +kernel
theorem dX3_nextToken_155 : decode cX3_nextToken 155 = .ok (.goto (-40), 3) := by decide +kernel
theorem dX3_nextToken_158 : decode cX3_nextToken 158 = .ok (.aload_n 0, 1) := by decide +kernel
theorem dX3_nextToken_159 : decode cX3_nextToken 159 = .ok (.getfield 41, 3) := by decide +kernel
theorem dX3_nextToken_162 : decode cX3_nextToken 162 = .ok (.ifCond .eq 13, 3) := by decide +kernel
theorem dX3_nextToken_165 : decode cX3_nextToken 165 = .ok (.aload_n 0, 1) := by decide +kernel
theorem dX3_nextToken_166 : decode cX3_nextToken 166 = .ok (.dup, 1) := by decide +kernel
theorem dX3_nextToken_167 : decode cX3_nextToken 167 = .ok (.getfield 35, 3) := by decide +kernel
theorem dX3_nextToken_170 : decode cX3_nextToken 170 = .ok (.iconst 1, 1) := by decide +kernel
theorem dX3_nextToken_171 : decode cX3_nextToken 171 = .ok (.iadd, 1) := by decide +kernel
theorem dX3_nextToken_172 : decode cX3_nextToken 172 = .ok (.putfield 35, 3) := by decide +kernel
theorem dX3_nextToken_175 : decode cX3_nextToken 175 = .ok (.return_, 1) := by decide +kernel
theorem tf_X3_35 : Cond.fieldLink RX3 35 "TableMove$Script" (TX3 10).2.1 (TX3 10).2.2.1 ∈ TMW := tm_in 295 (by decide +kernel) (by decide +kernel)
theorem tf_X3_113 : Cond.fieldLink RX3 113 "TableMove$Script" (TX3 1).2.1 (TX3 1).2.2.1 ∈ TMW := tm_in 280 (by decide +kernel) (by decide +kernel)
theorem tf_X3_9 : Cond.fieldLink RX3 9 "TableMove$Script" (TX3 0).2.1 (TX3 0).2.2.1 ∈ TMW := tm_in 277 (by decide +kernel) (by decide +kernel)
theorem tf_X3_41 : Cond.fieldLink RX3 41 "TableMove$Script" (TX3 8).2.1 (TX3 8).2.2.1 ∈ TMW := tm_in 293 (by decide +kernel) (by decide +kernel)
theorem tc_X3_kindOf : Cond.code yX3_kindOf cX3_kindOf 1 (some .int) ∈ TMW := tm_in 395 (by decide +kernel) (by decide +kernel)
theorem tl_X3_115 : Cond.methodLink RX3 115 yX3_kindOf ∈ TMW := tm_in 393 (by decide +kernel) (by decide +kernel)
theorem tn_X3 : Cond.initialized RX3 ∈ TMW := tm_in 116 (by decide +kernel) (by decide +kernel)
theorem tst_X3_kindOf : Cond.static yX3_kindOf ∈ TMW := tm_in 394 (by decide +kernel) (by decide +kernel)
def f_X3_nextToken_47 (K0 : tmM → Option (Unit × tmM)) (L : tmM → Option (Unit × tmM)) (v : tmM) : Option (Unit × tmM) := tm_lt (tm_up v 251 9 ((v 251 9) + 1)) fun v2 => L v2
set_option maxRecDepth 100000 in
set_option maxHeartbeats 4000000 in
theorem w_X3_nextToken_47 {p : Program} {l : Launch} {e : Env} {s : State} {m : MethodId} {args : Array Value} {below : List Frame} {meth : Method} {c : Code} {D : va_G} {cy : Nat → ClassId} {ad : Nat → Nat} {A : Nat → Prop} {z : (Unit × tmM)} {K0 : tmM → Option (Unit × tmM)} {L : tmM → Option (Unit × tmM)} (C0 : tmC p s m args meth c cX3_nextToken 1 none RX3 TMW tm_NWC D cy tm_shC ad 256 [] A) (hK0 : ∀ (w : tmM), tmG p l e ({ frames := 1, cells := 0, slots := 0, locals := 20 } : Room) s m args below meth c 0 0 (MQ below (va_Qv (fun u => z = ((), u)) (tmAt tm_shC 256 D cy ad A) A) args s 0 0 A) 1 D cy tm_shC ad 256 [] A z 60 [(0, .ref (ad 251))] [] w (K0 w)) (hL : ∀ (w : tmM), tmG p l e ({ frames := 1, cells := 0, slots := 0, locals := 20 } : Room) s m args below meth c 0 0 (MQ below (va_Qv (fun u => z = ((), u)) (tmAt tm_shC 256 D cy ad A) A) args s 0 0 A) 1 D cy tm_shC ad 256 [] A z 8 [(0, .ref (ad 251))] [] w (L w)) (v : tmM) : tmG p l e ({ frames := 1, cells := 0, slots := 0, locals := 20 } : Room) s m args below meth c 0 0 (MQ below (va_Qv (fun u => z = ((), u)) (tmAt tm_shC 256 D cy ad A) A) args s 0 0 A) 1 D cy tm_shC ad 256 [] A z 47 [(0, .ref (ad 251))] [] v (f_X3_nextToken_47 K0 L v) := by
  unfold f_X3_nextToken_47
  refine tg_aload_n 0 C0 dX3_nextToken_47 rfl rfl ?_
  refine tg_dup C0 dX3_nextToken_48 rfl ?_
  refine tg_get 251 9 C0 dX3_nextToken_49 (by decide) rfl rfl tu_X3 (by decide) tf_X3_87 rfl rfl rfl ?_
  refine tg_iconst (x := 1) C0 dX3_nextToken_52 (by decide) ?_
  refine tg_iadd C0 dX3_nextToken_53 ?_
  refine tg_put 251 9 C0 dX3_nextToken_54 (by decide) rfl rfl tu_X3 tyX3_ok nmX3 (by decide) tf_X3_87 rfl rfl rfl rfl rfl rfl ?_
  refine tg_letm (fun v2 _ => ?_)
  refine tg_goto 8 C0 dX3_nextToken_57 (by decide) ?_
  exact hL v2
def f_X3_nextToken_8b (K0 : tmM → Option (Unit × tmM)) (L : tmM → Option (Unit × tmM)) (v : tmM) : Option (Unit × tmM) := (if (v 251 1) ≤ (v 251 9) then K0 v else tm_g (tm_ix (v 251 9) 600) ((if (v 252 (v 251 9).toNatClampNeg) = 32 then f_X3_nextToken_47 K0 L v else tm_g (tm_ix (v 251 9) 600) ((if (v 252 (v 251 9).toNatClampNeg) = 10 then f_X3_nextToken_47 K0 L v else K0 v)))))
set_option maxRecDepth 100000 in
set_option maxHeartbeats 4000000 in
theorem w_X3_nextToken_8b {p : Program} {l : Launch} {e : Env} {s : State} {m : MethodId} {args : Array Value} {below : List Frame} {meth : Method} {c : Code} {D : va_G} {cy : Nat → ClassId} {ad : Nat → Nat} {A : Nat → Prop} {z : (Unit × tmM)} {K0 : tmM → Option (Unit × tmM)} {L : tmM → Option (Unit × tmM)} (C0 : tmC p s m args meth c cX3_nextToken 1 none RX3 TMW tm_NWC D cy tm_shC ad 256 [] A) (hK0 : ∀ (w : tmM), tmG p l e ({ frames := 1, cells := 0, slots := 0, locals := 20 } : Room) s m args below meth c 0 0 (MQ below (va_Qv (fun u => z = ((), u)) (tmAt tm_shC 256 D cy ad A) A) args s 0 0 A) 1 D cy tm_shC ad 256 [] A z 60 [(0, .ref (ad 251))] [] w (K0 w)) (hL : ∀ (w : tmM), tmG p l e ({ frames := 1, cells := 0, slots := 0, locals := 20 } : Room) s m args below meth c 0 0 (MQ below (va_Qv (fun u => z = ((), u)) (tmAt tm_shC 256 D cy ad A) A) args s 0 0 A) 1 D cy tm_shC ad 256 [] A z 8 [(0, .ref (ad 251))] [] w (L w)) (v : tmM) : tmG p l e ({ frames := 1, cells := 0, slots := 0, locals := 20 } : Room) s m args below meth c 0 0 (MQ below (va_Qv (fun u => z = ((), u)) (tmAt tm_shC 256 D cy ad A) A) args s 0 0 A) 1 D cy tm_shC ad 256 [] A z 8 [(0, .ref (ad 251))] [] v (f_X3_nextToken_8b K0 L v) := by
  unfold f_X3_nextToken_8b
  refine tg_aload_n 0 C0 dX3_nextToken_8 rfl rfl ?_
  refine tg_get 251 9 C0 dX3_nextToken_9 (by decide) rfl rfl tu_X3 (by decide) tf_X3_87 rfl rfl rfl ?_
  refine tg_aload_n 0 C0 dX3_nextToken_12 rfl rfl ?_
  refine tg_get 251 1 C0 dX3_nextToken_13 (by decide) rfl rfl tu_X3 (by decide) tf_X3_113 rfl rfl rfl ?_
  refine tg_icmp_ge 60 C0 dX3_nextToken_16 (by decide) (fun _ => ?_) (fun _ => ?_)
  · exact hK0 v
  · refine tg_aload_n 0 C0 dX3_nextToken_19 rfl rfl ?_
    refine tg_get 251 0 C0 dX3_nextToken_20 (by decide) rfl rfl tu_X3 (by decide) tf_X3_9 rfl rfl rfl ?_
    refine tg_aload_n 0 C0 dX3_nextToken_23 rfl rfl ?_
    refine tg_get 251 9 C0 dX3_nextToken_24 (by decide) rfl rfl tu_X3 (by decide) tf_X3_87 rfl rfl rfl ?_
    refine tg_cald 252 C0 dX3_nextToken_27 (by decide) rfl (fun _ => ?_)
    refine tg_bipush (x := 32) C0 dX3_nextToken_28 (by decide) ?_
    refine tg_icmp_eq 47 C0 dX3_nextToken_30 (by decide) (fun _ => ?_) (fun _ => ?_)
    · exact w_X3_nextToken_47 C0 hK0 hL v
    · refine tg_aload_n 0 C0 dX3_nextToken_33 rfl rfl ?_
      refine tg_get 251 0 C0 dX3_nextToken_34 (by decide) rfl rfl tu_X3 (by decide) tf_X3_9 rfl rfl rfl ?_
      refine tg_aload_n 0 C0 dX3_nextToken_37 rfl rfl ?_
      refine tg_get 251 9 C0 dX3_nextToken_38 (by decide) rfl rfl tu_X3 (by decide) tf_X3_87 rfl rfl rfl ?_
      refine tg_cald 252 C0 dX3_nextToken_41 (by decide) rfl (fun _ => ?_)
      refine tg_bipush (x := 10) C0 dX3_nextToken_42 (by decide) ?_
      refine tg_icmp_ne 60 C0 dX3_nextToken_44 (by decide) (fun _ => ?_) (fun _ => ?_)
      · exact hK0 v
      · exact w_X3_nextToken_47 C0 hK0 hL v
def f_X3_nextToken_8 (K0 : tmM → Option (Unit × tmM)) : Nat → tmM → Option (Unit × tmM)
  | 0 => fun _ => none
  | n + 1 => f_X3_nextToken_8b K0 (f_X3_nextToken_8 K0 n)
theorem w_X3_nextToken_8 {p : Program} {l : Launch} {e : Env} {s : State} {m : MethodId} {args : Array Value} {below : List Frame} {meth : Method} {c : Code} {D : va_G} {cy : Nat → ClassId} {ad : Nat → Nat} {A : Nat → Prop} {z : (Unit × tmM)} {K0 : tmM → Option (Unit × tmM)} (C0 : tmC p s m args meth c cX3_nextToken 1 none RX3 TMW tm_NWC D cy tm_shC ad 256 [] A) (hK0 : ∀ (w : tmM), tmG p l e ({ frames := 1, cells := 0, slots := 0, locals := 20 } : Room) s m args below meth c 0 0 (MQ below (va_Qv (fun u => z = ((), u)) (tmAt tm_shC 256 D cy ad A) A) args s 0 0 A) 1 D cy tm_shC ad 256 [] A z 60 [(0, .ref (ad 251))] [] w (K0 w)) (nn : Nat) : ∀ (v : tmM), tmG p l e ({ frames := 1, cells := 0, slots := 0, locals := 20 } : Room) s m args below meth c 0 0 (MQ below (va_Qv (fun u => z = ((), u)) (tmAt tm_shC 256 D cy ad A) A) args s 0 0 A) 1 D cy tm_shC ad 256 [] A z 8 [(0, .ref (ad 251))] [] v (f_X3_nextToken_8 K0 nn v) := by
  induction nn with
  | zero => intro _; exact tg_none
  | succ n ih => intro v; exact w_X3_nextToken_8b C0 hK0 ih v
def f_X3_nextToken_115b (K0 : tmM → Option (Unit × tmM)) (L : tmM → Option (Unit × tmM)) (v : tmM) : Option (Unit × tmM) := (if (v 251 1) ≤ (v 251 10) then K0 v else tm_g (tm_ix (v 251 10) 600) (tm_cl (f_X3_kindOf (v 252 (v 251 10).toNatClampNeg) v) fun r7 v6 => (if r7 = (v6 251 8) then tm_lt (tm_up v6 251 10 ((v6 251 10) + 1)) fun v8 => L v8 else K0 v6)))
set_option maxRecDepth 100000 in
set_option maxHeartbeats 4000000 in
theorem w_X3_nextToken_115b {p : Program} {l : Launch} {e : Env} {s : State} {m : MethodId} {args : Array Value} {below : List Frame} {meth : Method} {c : Code} {D : va_G} {cy : Nat → ClassId} {ad : Nat → Nat} {A : Nat → Prop} {z : (Unit × tmM)} {K0 : tmM → Option (Unit × tmM)} {L : tmM → Option (Unit × tmM)} (C0 : tmC p s m args meth c cX3_nextToken 1 none RX3 TMW tm_NWC D cy tm_shC ad 256 [] A) (hK0 : ∀ (w : tmM), tmG p l e ({ frames := 1, cells := 0, slots := 0, locals := 20 } : Room) s m args below meth c 0 0 (MQ below (va_Qv (fun u => z = ((), u)) (tmAt tm_shC 256 D cy ad A) A) args s 0 0 A) 1 D cy tm_shC ad 256 [] A z 175 [] [] w (K0 w)) (hL : ∀ (w : tmM), tmG p l e ({ frames := 1, cells := 0, slots := 0, locals := 20 } : Room) s m args below meth c 0 0 (MQ below (va_Qv (fun u => z = ((), u)) (tmAt tm_shC 256 D cy ad A) A) args s 0 0 A) 1 D cy tm_shC ad 256 [] A z 115 [(0, .ref (ad 251))] [] w (L w)) (v : tmM) : tmG p l e ({ frames := 1, cells := 0, slots := 0, locals := 20 } : Room) s m args below meth c 0 0 (MQ below (va_Qv (fun u => z = ((), u)) (tmAt tm_shC 256 D cy ad A) A) args s 0 0 A) 1 D cy tm_shC ad 256 [] A z 115 [(0, .ref (ad 251))] [] v (f_X3_nextToken_115b K0 L v) := by
  unfold f_X3_nextToken_115b
  refine tg_aload_n 0 C0 dX3_nextToken_115 rfl rfl ?_
  refine tg_get 251 10 C0 dX3_nextToken_116 (by decide) rfl rfl tu_X3 (by decide) tf_X3_35 rfl rfl rfl ?_
  refine tg_aload_n 0 C0 dX3_nextToken_119 rfl rfl ?_
  refine tg_get 251 1 C0 dX3_nextToken_120 (by decide) rfl rfl tu_X3 (by decide) tf_X3_113 rfl rfl rfl ?_
  refine tg_icmp_ge 175 C0 dX3_nextToken_123 (by decide) (fun _ => ?_) (fun _ => ?_)
  · refine tg_sub [] rfl ?_
    exact hK0 v
  · refine tg_aload_n 0 C0 dX3_nextToken_126 rfl rfl ?_
    refine tg_get 251 0 C0 dX3_nextToken_127 (by decide) rfl rfl tu_X3 (by decide) tf_X3_9 rfl rfl rfl ?_
    refine tg_aload_n 0 C0 dX3_nextToken_130 rfl rfl ?_
    refine tg_get 251 10 C0 dX3_nextToken_131 (by decide) rfl rfl tu_X3 (by decide) tf_X3_35 rfl rfl rfl ?_
    refine tg_cald 252 C0 dX3_nextToken_134 (by decide) rfl (fun _ => ?_)
    refine tg_callSi (As := [.int (v 252 (v 251 10).toNatClampNeg)]) 1 C0 dX3_nextToken_135 (c_X3_kindOf l (v 252 (v 251 10).toNatClampNeg) v) rfl rfl (tm_gc tc_X3_kindOf) tl_X3_115 tn_X3 tst_X3_kindOf  rfl rfl rfl rfl (by decide +kernel) ⟨by decide, by decide⟩ (Nat.le_of_ble_eq_true rfl) ⟨by decide, by decide⟩ (fun r7 v6 _ => ?_)
    refine tg_aload_n 0 C0 dX3_nextToken_138 rfl rfl ?_
    refine tg_get 251 8 C0 dX3_nextToken_139 (by decide) rfl rfl tu_X3 (by decide) tf_X3_41 rfl rfl rfl ?_
    refine tg_icmp_ne 175 C0 dX3_nextToken_142 (by decide) (fun _ => ?_) (fun _ => ?_)
    · refine tg_sub [] rfl ?_
      exact hK0 v6
    · refine tg_aload_n 0 C0 dX3_nextToken_145 rfl rfl ?_
      refine tg_dup C0 dX3_nextToken_146 rfl ?_
      refine tg_get 251 10 C0 dX3_nextToken_147 (by decide) rfl rfl tu_X3 (by decide) tf_X3_35 rfl rfl rfl ?_
      refine tg_iconst (x := 1) C0 dX3_nextToken_150 (by decide) ?_
      refine tg_iadd C0 dX3_nextToken_151 ?_
      refine tg_put 251 10 C0 dX3_nextToken_152 (by decide) rfl rfl tu_X3 tyX3_ok nmX3 (by decide) tf_X3_35 rfl rfl rfl rfl rfl rfl ?_
      refine tg_letm (fun v8 _ => ?_)
      refine tg_goto 115 C0 dX3_nextToken_155 (by decide) ?_
      exact hL v8
def f_X3_nextToken_115 (K0 : tmM → Option (Unit × tmM)) : Nat → tmM → Option (Unit × tmM)
  | 0 => fun _ => none
  | n + 1 => f_X3_nextToken_115b K0 (f_X3_nextToken_115 K0 n)
theorem w_X3_nextToken_115 {p : Program} {l : Launch} {e : Env} {s : State} {m : MethodId} {args : Array Value} {below : List Frame} {meth : Method} {c : Code} {D : va_G} {cy : Nat → ClassId} {ad : Nat → Nat} {A : Nat → Prop} {z : (Unit × tmM)} {K0 : tmM → Option (Unit × tmM)} (C0 : tmC p s m args meth c cX3_nextToken 1 none RX3 TMW tm_NWC D cy tm_shC ad 256 [] A) (hK0 : ∀ (w : tmM), tmG p l e ({ frames := 1, cells := 0, slots := 0, locals := 20 } : Room) s m args below meth c 0 0 (MQ below (va_Qv (fun u => z = ((), u)) (tmAt tm_shC 256 D cy ad A) A) args s 0 0 A) 1 D cy tm_shC ad 256 [] A z 175 [] [] w (K0 w)) (nn : Nat) : ∀ (v : tmM), tmG p l e ({ frames := 1, cells := 0, slots := 0, locals := 20 } : Room) s m args below meth c 0 0 (MQ below (va_Qv (fun u => z = ((), u)) (tmAt tm_shC 256 D cy ad A) A) args s 0 0 A) 1 D cy tm_shC ad 256 [] A z 115 [(0, .ref (ad 251))] [] v (f_X3_nextToken_115 K0 nn v) := by
  induction nn with
  | zero => intro _; exact tg_none
  | succ n ih => intro v; exact w_X3_nextToken_115b C0 hK0 ih v
def f_X3_nextToken_96 (s0 : Int32) (v : tmM) : Option (Unit × tmM) := tm_lt (tm_up v 251 8 s0) fun v5 => (if (v5 251 8) = 1 then f_X3_nextToken_115 (fun v9 => some ((), v9)) 10000 v5 else (if (v5 251 8) = 2 then f_X3_nextToken_115 (fun v11 => some ((), v11)) 10000 v5 else (if (v5 251 8) = 0 then some ((), v5) else tm_lt (tm_up v5 251 10 ((v5 251 10) + 1)) fun v10 => some ((), v10))))
set_option maxRecDepth 100000 in
set_option maxHeartbeats 4000000 in
theorem w_X3_nextToken_96 {p : Program} {l : Launch} {e : Env} {s : State} {m : MethodId} {args : Array Value} {below : List Frame} {meth : Method} {c : Code} {D : va_G} {cy : Nat → ClassId} {ad : Nat → Nat} {A : Nat → Prop} {z : (Unit × tmM)} (C0 : tmC p s m args meth c cX3_nextToken 1 none RX3 TMW tm_NWC D cy tm_shC ad 256 [] A) (s0 : Int32) (v : tmM) : tmG p l e ({ frames := 1, cells := 0, slots := 0, locals := 20 } : Room) s m args below meth c 0 0 (MQ below (va_Qv (fun u => z = ((), u)) (tmAt tm_shC 256 D cy ad A) A) args s 0 0 A) 1 D cy tm_shC ad 256 [] A z 96 [(0, .ref (ad 251))] [.int s0, .ref (ad 251)] v (f_X3_nextToken_96 s0 v) := by
  unfold f_X3_nextToken_96
  refine tg_put 251 8 C0 dX3_nextToken_96 (by decide) rfl rfl tu_X3 tyX3_ok nmX3 (by decide) tf_X3_41 rfl rfl rfl rfl rfl rfl ?_
  refine tg_letm (fun v5 _ => ?_)
  refine tg_aload_n 0 C0 dX3_nextToken_99 rfl rfl ?_
  refine tg_get 251 8 C0 dX3_nextToken_100 (by decide) rfl rfl tu_X3 (by decide) tf_X3_41 rfl rfl rfl ?_
  refine tg_iconst (x := 1) C0 dX3_nextToken_103 (by decide) ?_
  refine tg_icmp_eq 115 C0 dX3_nextToken_104 (by decide) (fun _ => ?_) (fun _ => ?_)
  · refine w_X3_nextToken_115 C0 (fun v9 => ?_) 10000 v5
    exact tg_vret C0 dX3_nextToken_175
  · refine tg_aload_n 0 C0 dX3_nextToken_107 rfl rfl ?_
    refine tg_get 251 8 C0 dX3_nextToken_108 (by decide) rfl rfl tu_X3 (by decide) tf_X3_41 rfl rfl rfl ?_
    refine tg_iconst (x := 2) C0 dX3_nextToken_111 (by decide) ?_
    refine tg_icmp_ne 158 C0 dX3_nextToken_112 (by decide) (fun _ => ?_) (fun _ => ?_)
    · refine tg_aload_n 0 C0 dX3_nextToken_158 rfl rfl ?_
      refine tg_get 251 8 C0 dX3_nextToken_159 (by decide) rfl rfl tu_X3 (by decide) tf_X3_41 rfl rfl rfl ?_
      refine tg_if_eq 175 C0 dX3_nextToken_162 (by decide) (fun _ => ?_) (fun _ => ?_)
      · exact tg_vret C0 dX3_nextToken_175
      · refine tg_aload_n 0 C0 dX3_nextToken_165 rfl rfl ?_
        refine tg_dup C0 dX3_nextToken_166 rfl ?_
        refine tg_get 251 10 C0 dX3_nextToken_167 (by decide) rfl rfl tu_X3 (by decide) tf_X3_35 rfl rfl rfl ?_
        refine tg_iconst (x := 1) C0 dX3_nextToken_170 (by decide) ?_
        refine tg_iadd C0 dX3_nextToken_171 ?_
        refine tg_put 251 10 C0 dX3_nextToken_172 (by decide) rfl rfl tu_X3 tyX3_ok nmX3 (by decide) tf_X3_35 rfl rfl rfl rfl rfl rfl ?_
        refine tg_letm (fun v10 _ => ?_)
        exact tg_vret C0 dX3_nextToken_175
    · refine w_X3_nextToken_115 C0 (fun v11 => ?_) 10000 v5
      exact tg_vret C0 dX3_nextToken_175
def f_X3_nextToken_60 (v : tmM) : Option (Unit × tmM) := tm_lt (tm_up v 251 10 (v 251 9)) fun v4 => (if (v4 251 1) ≤ (v4 251 9) then f_X3_nextToken_96 0 v4 else tm_g (tm_ix (v4 251 9) 600) (tm_cl (f_X3_kindOf (v4 252 (v4 251 9).toNatClampNeg) v4) fun r13 v12 => f_X3_nextToken_96 r13 v12))
set_option maxRecDepth 100000 in
set_option maxHeartbeats 4000000 in
theorem w_X3_nextToken_60 {p : Program} {l : Launch} {e : Env} {s : State} {m : MethodId} {args : Array Value} {below : List Frame} {meth : Method} {c : Code} {D : va_G} {cy : Nat → ClassId} {ad : Nat → Nat} {A : Nat → Prop} {z : (Unit × tmM)} (C0 : tmC p s m args meth c cX3_nextToken 1 none RX3 TMW tm_NWC D cy tm_shC ad 256 [] A) (v : tmM) : tmG p l e ({ frames := 1, cells := 0, slots := 0, locals := 20 } : Room) s m args below meth c 0 0 (MQ below (va_Qv (fun u => z = ((), u)) (tmAt tm_shC 256 D cy ad A) A) args s 0 0 A) 1 D cy tm_shC ad 256 [] A z 60 [(0, .ref (ad 251))] [] v (f_X3_nextToken_60 v) := by
  unfold f_X3_nextToken_60
  refine tg_aload_n 0 C0 dX3_nextToken_60 rfl rfl ?_
  refine tg_aload_n 0 C0 dX3_nextToken_61 rfl rfl ?_
  refine tg_get 251 9 C0 dX3_nextToken_62 (by decide) rfl rfl tu_X3 (by decide) tf_X3_87 rfl rfl rfl ?_
  refine tg_put 251 10 C0 dX3_nextToken_65 (by decide) rfl rfl tu_X3 tyX3_ok nmX3 (by decide) tf_X3_35 rfl rfl rfl rfl rfl rfl ?_
  refine tg_letm (fun v4 _ => ?_)
  refine tg_aload_n 0 C0 dX3_nextToken_68 rfl rfl ?_
  refine tg_aload_n 0 C0 dX3_nextToken_69 rfl rfl ?_
  refine tg_get 251 9 C0 dX3_nextToken_70 (by decide) rfl rfl tu_X3 (by decide) tf_X3_87 rfl rfl rfl ?_
  refine tg_aload_n 0 C0 dX3_nextToken_73 rfl rfl ?_
  refine tg_get 251 1 C0 dX3_nextToken_74 (by decide) rfl rfl tu_X3 (by decide) tf_X3_113 rfl rfl rfl ?_
  refine tg_icmp_ge 95 C0 dX3_nextToken_77 (by decide) (fun _ => ?_) (fun _ => ?_)
  · refine tg_iconst (x := 0) C0 dX3_nextToken_95 (by decide) ?_
    exact w_X3_nextToken_96 C0 0 v4
  · refine tg_aload_n 0 C0 dX3_nextToken_80 rfl rfl ?_
    refine tg_get 251 0 C0 dX3_nextToken_81 (by decide) rfl rfl tu_X3 (by decide) tf_X3_9 rfl rfl rfl ?_
    refine tg_aload_n 0 C0 dX3_nextToken_84 rfl rfl ?_
    refine tg_get 251 9 C0 dX3_nextToken_85 (by decide) rfl rfl tu_X3 (by decide) tf_X3_87 rfl rfl rfl ?_
    refine tg_cald 252 C0 dX3_nextToken_88 (by decide) rfl (fun _ => ?_)
    refine tg_callSi (As := [.int (v4 252 (v4 251 9).toNatClampNeg)]) 1 C0 dX3_nextToken_89 (c_X3_kindOf l (v4 252 (v4 251 9).toNatClampNeg) v4) rfl rfl (tm_gc tc_X3_kindOf) tl_X3_115 tn_X3 tst_X3_kindOf  rfl rfl rfl rfl (by decide +kernel) ⟨by decide, by decide⟩ (Nat.le_of_ble_eq_true rfl) ⟨by decide, by decide⟩ (fun r13 v12 _ => ?_)
    refine tg_goto 96 C0 dX3_nextToken_92 (by decide) ?_
    exact w_X3_nextToken_96 C0 r13 v12
def f_X3_nextToken (v : tmM) : Option (Unit × tmM) := tm_lt (tm_up v 251 9 (v 251 10)) fun v1 => f_X3_nextToken_8 (fun v3 => f_X3_nextToken_60 v3) 10000 v1
set_option maxRecDepth 100000 in
set_option maxHeartbeats 4000000 in
theorem w_X3_nextToken {p : Program} {l : Launch} {e : Env} {s : State} {m : MethodId} {args : Array Value} {below : List Frame} {meth : Method} {c : Code} {D : va_G} {cy : Nat → ClassId} {ad : Nat → Nat} {A : Nat → Prop} {z : (Unit × tmM)} (C0 : tmC p s m args meth c cX3_nextToken 1 none RX3 TMW tm_NWC D cy tm_shC ad 256 [] A) (v : tmM) : tmG p l e ({ frames := 1, cells := 0, slots := 0, locals := 20 } : Room) s m args below meth c 0 0 (MQ below (va_Qv (fun u => z = ((), u)) (tmAt tm_shC 256 D cy ad A) A) args s 0 0 A) 1 D cy tm_shC ad 256 [] A z 0 [(0, .ref (ad 251))] [] v (f_X3_nextToken v) := by
  unfold f_X3_nextToken
  refine tg_aload_n 0 C0 dX3_nextToken_0 rfl rfl ?_
  refine tg_aload_n 0 C0 dX3_nextToken_1 rfl rfl ?_
  refine tg_get 251 10 C0 dX3_nextToken_2 (by decide) rfl rfl tu_X3 (by decide) tf_X3_35 rfl rfl rfl ?_
  refine tg_put 251 9 C0 dX3_nextToken_5 (by decide) rfl rfl tu_X3 tyX3_ok nmX3 (by decide) tf_X3_87 rfl rfl rfl rfl rfl rfl ?_
  refine tg_letm (fun v1 _ => ?_)
  refine w_X3_nextToken_8 C0 (fun v3 => ?_) 10000 v1
  exact w_X3_nextToken_60 C0 v3
theorem c_X3_nextToken (l : Launch) (v : tmM) : tmMv tm_NWC tm_shC 256 l yX3_nextToken (Cond.code yX3_nextToken cX3_nextToken 1 none :: TMW) ({ frames := 1, cells := 0, slots := 0, locals := 20 } : Room) (fun ad => [.ref (ad 251)]) v (f_X3_nextToken v) :=
  tmMv.of (cc := cX3_nextToken) (nL := 1) (by decide +kernel) rfl tm_NWC_ok (fun _ => Nat.le_of_ble_eq_true rfl) (fun p e s m args below meth c A D cy ad z C0 => w_X3_nextToken C0 v)
-- ----- X3_numberHere
theorem dX3_numberHere_0 : decode cX3_numberHere 0 = .ok (.iconst 0, 1) := by decide +kernel
theorem dX3_numberHere_1 : decode cX3_numberHere 1 = .ok (.istore_n 1, 1) := by decide +kernel
theorem dX3_numberHere_2 : decode cX3_numberHere 2 = .ok (.aload_n 0, 1) := by decide +kernel
theorem dX3_numberHere_3 : decode cX3_numberHere 3 = .ok (.getfield 87, 3) := by decide +kernel
theorem dX3_numberHere_6 : decode cX3_numberHere 6 = .ok (.istore_n 2, 1) := by decide +kernel
theorem dX3_numberHere_7 : decode cX3_numberHere 7 = .ok (.iload_n 2, 1) := by decide +kernel
theorem dX3_numberHere_8 : decode cX3_numberHere 8 = .ok (.aload_n 0, 1) := by decide +kernel
theorem dX3_numberHere_9 : decode cX3_numberHere 9 = .ok (.getfield 35, 3) := by decide +kernel
theorem dX3_numberHere_12 : decode cX3_numberHere 12 = .ok (.if_icmp .ge 29, 3) := by decide +kernel
theorem dX3_numberHere_15 : decode cX3_numberHere 15 = .ok (.iload_n 1, 1) := by decide +kernel
theorem dX3_numberHere_16 : decode cX3_numberHere 16 = .ok (.bipush 10, 2) := by decide +kernel
theorem dX3_numberHere_18 : decode cX3_numberHere 18 = .ok (.imul, 1) := by decide +kernel
theorem dX3_numberHere_19 : decode cX3_numberHere 19 = .ok (.aload_n 0, 1) := by decide +kernel
theorem dX3_numberHere_20 : decode cX3_numberHere 20 = .ok (.getfield 9, 3) := by decide +kernel
theorem dX3_numberHere_23 : decode cX3_numberHere 23 = .ok (.iload_n 2, 1) := by decide +kernel
theorem dX3_numberHere_24 : decode cX3_numberHere 24 = .ok (.caload, 1) := by decide +kernel
theorem dX3_numberHere_25 : decode cX3_numberHere 25 = .ok (.iadd, 1) := by decide +kernel
theorem dX3_numberHere_26 : decode cX3_numberHere 26 = .ok (.bipush 48, 2) := by decide +kernel
theorem dX3_numberHere_28 : decode cX3_numberHere 28 = .ok (.isub, 1) := by decide +kernel
theorem dX3_numberHere_29 : decode cX3_numberHere 29 = .ok (.ldc 90, 2) := by decide +kernel
theorem dX3_numberHere_31 : decode cX3_numberHere 31 = .ok (.invokestatic 91, 3) := by decide +kernel
theorem dX3_numberHere_34 : decode cX3_numberHere 34 = .ok (.istore_n 1, 1) := by decide +kernel
theorem dX3_numberHere_35 : decode cX3_numberHere 35 = .ok (.iinc 2 1, 3) := by decide +kernel
theorem dX3_numberHere_38 : decode cX3_numberHere 38 = .ok (.goto (-31), 3) := by decide +kernel
theorem dX3_numberHere_41 : decode cX3_numberHere 41 = .ok (.iload_n 1, 1) := by decide +kernel
theorem dX3_numberHere_42 : decode cX3_numberHere 42 = .ok (.ireturn, 1) := by decide +kernel
theorem tk_X3_90 : Cond.constant RX3 90 100000 ∈ TMW := tm_in 469 (by decide +kernel) (by decide +kernel)
theorem tl_X3_91 : Cond.methodLink RX3 91 Lib.Math.min.name ∈ TMW := tm_in 470 (by decide +kernel) (by decide +kernel)
def f_X3_numberHere_7b (K0 : Int32 → tmM → Option (Int32 × tmM)) (L : Int32 → Int32 → tmM → Option (Int32 × tmM)) (x1 x2 : Int32) (v : tmM) : Option (Int32 × tmM) := (if (v 251 10) ≤ x2 then K0 x1 v else tm_g (tm_ix x2 600) (tm_lt (if 100000 < (((x1 * 10) + (v 252 x2.toNatClampNeg)) - 48) then 100000 else ((x1 * 10) + (v 252 x2.toNatClampNeg)) - 48) fun y2 => L y2 (x2 + 1) v))
set_option maxRecDepth 100000 in
set_option maxHeartbeats 4000000 in
theorem w_X3_numberHere_7b {p : Program} {l : Launch} {e : Env} {s : State} {m : MethodId} {args : Array Value} {below : List Frame} {meth : Method} {c : Code} {D : va_G} {cy : Nat → ClassId} {ad : Nat → Nat} {A : Nat → Prop} {z : (Int32 × tmM)} {K0 : Int32 → tmM → Option (Int32 × tmM)} {L : Int32 → Int32 → tmM → Option (Int32 × tmM)} (C0 : tmC p s m args meth c cX3_numberHere 3 (some .int) RX3 TMW tm_NWC D cy tm_shC ad 256 [] A) (hK0 : ∀ (a1 : Int32) (w : tmM), tmG p l e ({ frames := 1, cells := 0, slots := 0, locals := 40 } : Room) s m args below meth c 0 0 (MQ below (va_Qi (fun r u => z = (r, u)) (tmAt tm_shC 256 D cy ad A) A) args s 0 0 A) 3 D cy tm_shC ad 256 [] A z 41 [(1, .int a1)] [] w (K0 a1 w)) (hL : ∀ (a1 a2 : Int32) (w : tmM), tmG p l e ({ frames := 1, cells := 0, slots := 0, locals := 40 } : Room) s m args below meth c 0 0 (MQ below (va_Qi (fun r u => z = (r, u)) (tmAt tm_shC 256 D cy ad A) A) args s 0 0 A) 3 D cy tm_shC ad 256 [] A z 7 [(0, .ref (ad 251)), (1, .int a1), (2, .int a2)] [] w (L a1 a2 w)) (x1 x2 : Int32) (v : tmM) : tmG p l e ({ frames := 1, cells := 0, slots := 0, locals := 40 } : Room) s m args below meth c 0 0 (MQ below (va_Qi (fun r u => z = (r, u)) (tmAt tm_shC 256 D cy ad A) A) args s 0 0 A) 3 D cy tm_shC ad 256 [] A z 7 [(0, .ref (ad 251)), (1, .int x1), (2, .int x2)] [] v (f_X3_numberHere_7b K0 L x1 x2 v) := by
  unfold f_X3_numberHere_7b
  refine tg_iload_n 2 C0 dX3_numberHere_7 rfl rfl ?_
  refine tg_aload_n 0 C0 dX3_numberHere_8 rfl rfl ?_
  refine tg_get 251 10 C0 dX3_numberHere_9 (by decide) rfl rfl tu_X3 (by decide) tf_X3_35 rfl rfl rfl ?_
  refine tg_icmp_ge 41 C0 dX3_numberHere_12 (by decide) (fun _ => ?_) (fun _ => ?_)
  · refine tg_sub [1] rfl ?_
    exact hK0 x1 v
  · refine tg_iload_n 1 C0 dX3_numberHere_15 rfl rfl ?_
    refine tg_bipush (x := 10) C0 dX3_numberHere_16 (by decide) ?_
    refine tg_imul C0 dX3_numberHere_18 ?_
    refine tg_aload_n 0 C0 dX3_numberHere_19 rfl rfl ?_
    refine tg_get 251 0 C0 dX3_numberHere_20 (by decide) rfl rfl tu_X3 (by decide) tf_X3_9 rfl rfl rfl ?_
    refine tg_iload_n 2 C0 dX3_numberHere_23 rfl rfl ?_
    refine tg_cald 252 C0 dX3_numberHere_24 (by decide) rfl (fun _ => ?_)
    refine tg_iadd C0 dX3_numberHere_25 ?_
    refine tg_bipush (x := 48) C0 dX3_numberHere_26 (by decide) ?_
    refine tg_isub C0 dX3_numberHere_28 ?_
    refine tg_ldc C0 dX3_numberHere_29 tk_X3_90 ?_
    refine tg_mmin C0 dX3_numberHere_31 tl_X3_91 tmminst tmath tmminco (by decide) (Nat.le_of_ble_eq_true rfl) ⟨by decide, by decide⟩ ?_
    refine tg_leti (fun y2 _ => ?_)
    refine tg_istore_n [(1, .int y2), (0, .ref (ad 251)), (2, .int x2)] C0 dX3_numberHere_34 rfl (by decide) rfl ?_
    refine tg_iinc [(2, .int (x2 + 1)), (1, .int y2), (0, .ref (ad 251))] 2 C0 dX3_numberHere_35 rfl rfl (by decide) rfl ?_
    refine tg_goto 7 C0 dX3_numberHere_38 (by decide) ?_
    refine tg_sub [2, 1, 0] rfl ?_
    exact hL y2 (x2 + 1) v
def f_X3_numberHere_7 (K0 : Int32 → tmM → Option (Int32 × tmM)) : Nat → Int32 → Int32 → tmM → Option (Int32 × tmM)
  | 0 => fun _ _ _ => none
  | n + 1 => f_X3_numberHere_7b K0 (f_X3_numberHere_7 K0 n)
theorem w_X3_numberHere_7 {p : Program} {l : Launch} {e : Env} {s : State} {m : MethodId} {args : Array Value} {below : List Frame} {meth : Method} {c : Code} {D : va_G} {cy : Nat → ClassId} {ad : Nat → Nat} {A : Nat → Prop} {z : (Int32 × tmM)} {K0 : Int32 → tmM → Option (Int32 × tmM)} (C0 : tmC p s m args meth c cX3_numberHere 3 (some .int) RX3 TMW tm_NWC D cy tm_shC ad 256 [] A) (hK0 : ∀ (a1 : Int32) (w : tmM), tmG p l e ({ frames := 1, cells := 0, slots := 0, locals := 40 } : Room) s m args below meth c 0 0 (MQ below (va_Qi (fun r u => z = (r, u)) (tmAt tm_shC 256 D cy ad A) A) args s 0 0 A) 3 D cy tm_shC ad 256 [] A z 41 [(1, .int a1)] [] w (K0 a1 w)) (nn : Nat) : ∀ (x1 x2 : Int32) (v : tmM), tmG p l e ({ frames := 1, cells := 0, slots := 0, locals := 40 } : Room) s m args below meth c 0 0 (MQ below (va_Qi (fun r u => z = (r, u)) (tmAt tm_shC 256 D cy ad A) A) args s 0 0 A) 3 D cy tm_shC ad 256 [] A z 7 [(0, .ref (ad 251)), (1, .int x1), (2, .int x2)] [] v (f_X3_numberHere_7 K0 nn x1 x2 v) := by
  induction nn with
  | zero => intro _ _ _; exact tg_none
  | succ n ih => intro x1 x2 v; exact w_X3_numberHere_7b C0 hK0 ih x1 x2 v
def f_X3_numberHere (v : tmM) : Option (Int32 × tmM) := tm_lt (v 251 9) fun y1 => f_X3_numberHere_7 (fun x3 v4 => some (x3, v4)) 10000 0 y1 v
set_option maxRecDepth 100000 in
set_option maxHeartbeats 4000000 in
theorem w_X3_numberHere {p : Program} {l : Launch} {e : Env} {s : State} {m : MethodId} {args : Array Value} {below : List Frame} {meth : Method} {c : Code} {D : va_G} {cy : Nat → ClassId} {ad : Nat → Nat} {A : Nat → Prop} {z : (Int32 × tmM)} (C0 : tmC p s m args meth c cX3_numberHere 3 (some .int) RX3 TMW tm_NWC D cy tm_shC ad 256 [] A) (v : tmM) : tmG p l e ({ frames := 1, cells := 0, slots := 0, locals := 40 } : Room) s m args below meth c 0 0 (MQ below (va_Qi (fun r u => z = (r, u)) (tmAt tm_shC 256 D cy ad A) A) args s 0 0 A) 3 D cy tm_shC ad 256 [] A z 0 [(0, .ref (ad 251))] [] v (f_X3_numberHere v) := by
  unfold f_X3_numberHere
  refine tg_iconst (x := 0) C0 dX3_numberHere_0 (by decide) ?_
  refine tg_istore_n [(1, .int 0), (0, .ref (ad 251))] C0 dX3_numberHere_1 rfl (by decide) rfl ?_
  refine tg_aload_n 1 C0 dX3_numberHere_2 rfl rfl ?_
  refine tg_get 251 9 C0 dX3_numberHere_3 (by decide) rfl rfl tu_X3 (by decide) tf_X3_87 rfl rfl rfl ?_
  refine tg_leti (fun y1 _ => ?_)
  refine tg_istore_n [(2, .int y1), (1, .int 0), (0, .ref (ad 251))] C0 dX3_numberHere_6 rfl (by decide) rfl ?_
  refine tg_sub [2, 1, 0] rfl ?_
  refine w_X3_numberHere_7 C0 (fun x3 v4 => ?_) 10000 0 y1 v
  refine tg_iload_n 0 C0 dX3_numberHere_41 rfl rfl ?_
  exact tg_iret C0 dX3_numberHere_42
theorem c_X3_numberHere (l : Launch) (v : tmM) : tmMi tm_NWC tm_shC 256 l yX3_numberHere (Cond.code yX3_numberHere cX3_numberHere 3 (some .int) :: TMW) ({ frames := 1, cells := 0, slots := 0, locals := 40 } : Room) (fun ad => [.ref (ad 251)]) v (f_X3_numberHere v) :=
  tmMi.of (cc := cX3_numberHere) (nL := 3) (by decide +kernel) rfl tm_NWC_ok (fun _ => Nat.le_of_ble_eq_true rfl) (fun p e s m args below meth c A D cy ad z C0 => w_X3_numberHere C0 v)
-- ----- X3_parseNumber
theorem dX3_parseNumber_0 : decode cX3_parseNumber 0 = .ok (.aload_n 0, 1) := by decide +kernel
theorem dX3_parseNumber_1 : decode cX3_parseNumber 1 = .ok (.getfield 32, 3) := by decide +kernel
theorem dX3_parseNumber_4 : decode cX3_parseNumber 4 = .ok (.ifCond .eq 5, 3) := by decide +kernel
theorem dX3_parseNumber_7 : decode cX3_parseNumber 7 = .ok (.iconst 0, 1) := by decide +kernel
theorem dX3_parseNumber_8 : decode cX3_parseNumber 8 = .ok (.ireturn, 1) := by decide +kernel
theorem dX3_parseNumber_9 : decode cX3_parseNumber 9 = .ok (.aload_n 0, 1) := by decide +kernel
theorem dX3_parseNumber_10 : decode cX3_parseNumber 10 = .ok (.getfield 41, 3) := by decide +kernel
theorem dX3_parseNumber_13 : decode cX3_parseNumber 13 = .ok (.iconst 2, 1) := by decide +kernel
theorem dX3_parseNumber_14 : decode cX3_parseNumber 14 = .ok (.if_icmp .eq 10, 3) := by decide +kernel
theorem dX3_parseNumber_17 : decode cX3_parseNumber 17 = .ok (.aload_n 0, 1) := by decide +kernel
theorem dX3_parseNumber_18 : decode cX3_parseNumber 18 = .ok (.iconst 1, 1) := by decide +kernel
theorem dX3_parseNumber_19 : decode cX3_parseNumber 19 = .ok (.invokevirtual 51, 3) := by decide +kernel
theorem dX3_parseNumber_22 : decode cX3_parseNumber 22 = .ok (.iconst 0, 1) := by decide +kernel
theorem dX3_parseNumber_23 : decode cX3_parseNumber 23 = .ok (.ireturn, 1) := by decide +kernel
theorem dX3_parseNumber_24 : decode cX3_parseNumber 24 = .ok (.aload_n 0, 1) := by decide +kernel
theorem dX3_parseNumber_25 : decode cX3_parseNumber 25 = .ok (.invokevirtual 83, 3) := by decide +kernel
theorem dX3_parseNumber_28 : decode cX3_parseNumber 28 = .ok (.istore_n 3, 1) := by decide +kernel
theorem dX3_parseNumber_29 : decode cX3_parseNumber 29 = .ok (.iload_n 3, 1) := by decide +kernel
theorem dX3_parseNumber_30 : decode cX3_parseNumber 30 = .ok (.iload_n 1, 1) := by decide +kernel
theorem dX3_parseNumber_31 : decode cX3_parseNumber 31 = .ok (.if_icmp .lt 8, 3) := by decide +kernel
theorem dX3_parseNumber_34 : decode cX3_parseNumber 34 = .ok (.iload_n 3, 1) := by decide +kernel
theorem dX3_parseNumber_35 : decode cX3_parseNumber 35 = .ok (.iload_n 2, 1) := by decide +kernel
theorem dX3_parseNumber_36 : decode cX3_parseNumber 36 = .ok (.if_icmp .le 10, 3) := by decide +kernel
theorem dX3_parseNumber_39 : decode cX3_parseNumber 39 = .ok (.aload_n 0, 1) := by decide +kernel
theorem dX3_parseNumber_40 : decode cX3_parseNumber 40 = .ok (.iconst 2, 1) := by decide +kernel
theorem dX3_parseNumber_41 : decode cX3_parseNumber 41 = .ok (.invokevirtual 51, 3) := by decide +kernel
theorem dX3_parseNumber_44 : decode cX3_parseNumber 44 = .ok (.iconst 0, 1) := by decide +kernel
theorem dX3_parseNumber_45 : decode cX3_parseNumber 45 = .ok (.ireturn, 1) := by decide +kernel
theorem dX3_parseNumber_46 : decode cX3_parseNumber 46 = .ok (.aload_n 0, 1) := by decide +kernel
theorem dX3_parseNumber_47 : decode cX3_parseNumber 47 = .ok (.invokevirtual 38, 3) := by decide +kernel
theorem dX3_parseNumber_50 : decode cX3_parseNumber 50 = .ok (.iload_n 3, 1) := by decide +kernel
theorem dX3_parseNumber_51 : decode cX3_parseNumber 51 = .ok (.ireturn, 1) := by decide +kernel
theorem tl_X3_83 : Cond.methodLink RX3 83 yX3_numberHere ∈ TMW := tm_in 465 (by decide +kernel) (by decide +kernel)
theorem ti_X3_numberHere : Cond.instanceMethod yX3_numberHere ∈ TMW := tm_in 467 (by decide +kernel) (by decide +kernel)
theorem ts_X3_numberHere : Cond.selects RX3 yX3_numberHere yX3_numberHere ∈ TMW := tm_in 6 (by decide +kernel) (by decide +kernel)
theorem tc_X3_numberHere : Cond.code yX3_numberHere cX3_numberHere 3 (some .int) ∈ TMW := tm_in 468 (by decide +kernel) (by decide +kernel)
theorem tl_X3_51 : Cond.methodLink RX3 51 yX3_fail ∈ TMW := tm_in 457 (by decide +kernel) (by decide +kernel)
theorem ti_X3_fail : Cond.instanceMethod yX3_fail ∈ TMW := tm_in 459 (by decide +kernel) (by decide +kernel)
theorem ts_X3_fail : Cond.selects RX3 yX3_fail yX3_fail ∈ TMW := tm_in 4 (by decide +kernel) (by decide +kernel)
theorem tc_X3_fail : Cond.code yX3_fail cX3_fail 2 none ∈ TMW := tm_in 460 (by decide +kernel) (by decide +kernel)
theorem tl_X3_38 : Cond.methodLink RX3 38 yX3_nextToken ∈ TMW := tm_in 389 (by decide +kernel) (by decide +kernel)
theorem ti_X3_nextToken : Cond.instanceMethod yX3_nextToken ∈ TMW := tm_in 391 (by decide +kernel) (by decide +kernel)
theorem ts_X3_nextToken : Cond.selects RX3 yX3_nextToken yX3_nextToken ∈ TMW := tm_in 0 (by decide +kernel) (by decide +kernel)
theorem tc_X3_nextToken : Cond.code yX3_nextToken cX3_nextToken 1 none ∈ TMW := tm_in 392 (by decide +kernel) (by decide +kernel)
def f_X3_parseNumber_39 (v : tmM) : Option (Int32 × tmM) := tm_cl (f_X3_fail 2 v) fun _ v3 => some (0, v3)
set_option maxRecDepth 100000 in
set_option maxHeartbeats 4000000 in
theorem w_X3_parseNumber_39 {p : Program} {l : Launch} {e : Env} {s : State} {m : MethodId} {args : Array Value} {below : List Frame} {meth : Method} {c : Code} {D : va_G} {cy : Nat → ClassId} {ad : Nat → Nat} {A : Nat → Prop} {z : (Int32 × tmM)} (C0 : tmC p s m args meth c cX3_parseNumber 4 (some .int) RX3 TMW tm_NWC D cy tm_shC ad 256 [] A) (v : tmM) : tmG p l e ({ frames := 2, cells := 0, slots := 0, locals := 62 } : Room) s m args below meth c 0 0 (MQ below (va_Qi (fun r u => z = (r, u)) (tmAt tm_shC 256 D cy ad A) A) args s 0 0 A) 4 D cy tm_shC ad 256 [] A z 39 [(0, .ref (ad 251))] [] v (f_X3_parseNumber_39 v) := by
  unfold f_X3_parseNumber_39
  refine tg_aload_n 0 C0 dX3_parseNumber_39 rfl rfl ?_
  refine tg_iconst (x := 2) C0 dX3_parseNumber_40 (by decide) ?_
  refine tg_callVv (As := [.int 2]) 251 1 C0 dX3_parseNumber_41 (c_X3_fail l 2 v) rfl rfl (by decide) rfl rfl (tm_gV tl_X3_51 ti_X3_fail ts_X3_fail tn_X3 tc_X3_fail)  rfl rfl rfl rfl (by decide +kernel) ⟨by decide, by decide⟩ (Nat.le_of_ble_eq_true rfl) ⟨by decide, by decide⟩ (fun v3 _ => ?_)
  refine tg_iconst (x := 0) C0 dX3_parseNumber_44 (by decide) ?_
  exact tg_iret C0 dX3_parseNumber_45
def f_X3_parseNumber (x1 x2 : Int32) (v : tmM) : Option (Int32 × tmM) := (if (v 251 6) = 0 then (if (v 251 8) = 2 then tm_cl (f_X3_numberHere v) fun r2 v1 => (if r2 < x1 then f_X3_parseNumber_39 v1 else (if r2 ≤ x2 then tm_cl (f_X3_nextToken v1) fun _ v5 => some (r2, v5) else f_X3_parseNumber_39 v1)) else tm_cl (f_X3_fail 1 v) fun _ v7 => some (0, v7)) else some (0, v))
set_option maxRecDepth 100000 in
set_option maxHeartbeats 4000000 in
theorem w_X3_parseNumber {p : Program} {l : Launch} {e : Env} {s : State} {m : MethodId} {args : Array Value} {below : List Frame} {meth : Method} {c : Code} {D : va_G} {cy : Nat → ClassId} {ad : Nat → Nat} {A : Nat → Prop} {z : (Int32 × tmM)} (C0 : tmC p s m args meth c cX3_parseNumber 4 (some .int) RX3 TMW tm_NWC D cy tm_shC ad 256 [] A) (x1 x2 : Int32) (v : tmM) : tmG p l e ({ frames := 2, cells := 0, slots := 0, locals := 62 } : Room) s m args below meth c 0 0 (MQ below (va_Qi (fun r u => z = (r, u)) (tmAt tm_shC 256 D cy ad A) A) args s 0 0 A) 4 D cy tm_shC ad 256 [] A z 0 [(0, .ref (ad 251)), (1, .int x1), (2, .int x2)] [] v (f_X3_parseNumber x1 x2 v) := by
  unfold f_X3_parseNumber
  refine tg_aload_n 0 C0 dX3_parseNumber_0 rfl rfl ?_
  refine tg_get 251 6 C0 dX3_parseNumber_1 (by decide) rfl rfl tu_X3 (by decide) tf_X3_32 rfl rfl rfl ?_
  refine tg_if_eq 9 C0 dX3_parseNumber_4 (by decide) (fun _ => ?_) (fun _ => ?_)
  · refine tg_aload_n 0 C0 dX3_parseNumber_9 rfl rfl ?_
    refine tg_get 251 8 C0 dX3_parseNumber_10 (by decide) rfl rfl tu_X3 (by decide) tf_X3_41 rfl rfl rfl ?_
    refine tg_iconst (x := 2) C0 dX3_parseNumber_13 (by decide) ?_
    refine tg_icmp_eq 24 C0 dX3_parseNumber_14 (by decide) (fun _ => ?_) (fun _ => ?_)
    · refine tg_aload_n 0 C0 dX3_parseNumber_24 rfl rfl ?_
      refine tg_callVi (As := []) 251 0 C0 dX3_parseNumber_25 (c_X3_numberHere l v) rfl rfl (by decide) rfl rfl (tm_gV tl_X3_83 ti_X3_numberHere ts_X3_numberHere tn_X3 tc_X3_numberHere)  rfl rfl rfl rfl (by decide +kernel) ⟨by decide, by decide⟩ (Nat.le_of_ble_eq_true rfl) ⟨by decide, by decide⟩ (fun r2 v1 _ => ?_)
      refine tg_istore_n [(3, .int r2), (0, .ref (ad 251)), (1, .int x1), (2, .int x2)] C0 dX3_parseNumber_28 rfl (by decide) rfl ?_
      refine tg_iload_n 0 C0 dX3_parseNumber_29 rfl rfl ?_
      refine tg_iload_n 2 C0 dX3_parseNumber_30 rfl rfl ?_
      refine tg_icmp_lt 39 C0 dX3_parseNumber_31 (by decide) (fun _ => ?_) (fun _ => ?_)
      · refine tg_sub [1] rfl ?_
        exact w_X3_parseNumber_39 C0 v1
      · refine tg_iload_n 0 C0 dX3_parseNumber_34 rfl rfl ?_
        refine tg_iload_n 3 C0 dX3_parseNumber_35 rfl rfl ?_
        refine tg_icmp_le 46 C0 dX3_parseNumber_36 (by decide) (fun _ => ?_) (fun _ => ?_)
        · refine tg_aload_n 1 C0 dX3_parseNumber_46 rfl rfl ?_
          refine tg_callVv (As := []) 251 0 C0 dX3_parseNumber_47 (c_X3_nextToken l v1) rfl rfl (by decide) rfl rfl (tm_gV tl_X3_38 ti_X3_nextToken ts_X3_nextToken tn_X3 tc_X3_nextToken)  rfl rfl rfl rfl (by decide +kernel) ⟨by decide, by decide⟩ (Nat.le_of_ble_eq_true rfl) ⟨by decide, by decide⟩ (fun v5 _ => ?_)
          refine tg_iload_n 0 C0 dX3_parseNumber_50 rfl rfl ?_
          exact tg_iret C0 dX3_parseNumber_51
        · refine tg_sub [1] rfl ?_
          exact w_X3_parseNumber_39 C0 v1
    · refine tg_aload_n 0 C0 dX3_parseNumber_17 rfl rfl ?_
      refine tg_iconst (x := 1) C0 dX3_parseNumber_18 (by decide) ?_
      refine tg_callVv (As := [.int 1]) 251 1 C0 dX3_parseNumber_19 (c_X3_fail l 1 v) rfl rfl (by decide) rfl rfl (tm_gV tl_X3_51 ti_X3_fail ts_X3_fail tn_X3 tc_X3_fail)  rfl rfl rfl rfl (by decide +kernel) ⟨by decide, by decide⟩ (Nat.le_of_ble_eq_true rfl) ⟨by decide, by decide⟩ (fun v7 _ => ?_)
      refine tg_iconst (x := 0) C0 dX3_parseNumber_22 (by decide) ?_
      exact tg_iret C0 dX3_parseNumber_23
  · refine tg_iconst (x := 0) C0 dX3_parseNumber_7 (by decide) ?_
    exact tg_iret C0 dX3_parseNumber_8
theorem c_X3_parseNumber (l : Launch) (x1 x2 : Int32) (v : tmM) : tmMi tm_NWC tm_shC 256 l yX3_parseNumber (Cond.code yX3_parseNumber cX3_parseNumber 4 (some .int) :: TMW) ({ frames := 2, cells := 0, slots := 0, locals := 62 } : Room) (fun ad => [.ref (ad 251), .int x1, .int x2]) v (f_X3_parseNumber x1 x2 v) :=
  tmMi.of (cc := cX3_parseNumber) (nL := 4) (by decide +kernel) rfl tm_NWC_ok (fun _ => Nat.le_of_ble_eq_true rfl) (fun p e s m args below meth c A D cy ad z C0 => w_X3_parseNumber C0 x1 x2 v)
