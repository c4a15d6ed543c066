-- ----- X5_cellOf
theorem dX5_cellOf_0 : decode cX5_cellOf 0 = .ok (.aload_n 0, 1) := by decide +kernel
theorem dX5_cellOf_1 : decode cX5_cellOf 1 = .ok (.getfield 9, 3) := by decide +kernel
theorem dX5_cellOf_4 : decode cX5_cellOf 4 = .ok (.tableswitch 48 1 3 #[28, 35, 42], 28) := by decide +kernel
theorem dX5_cellOf_32 : decode cX5_cellOf 32 = .ok (.iload_n 1, 1) := by decide +kernel
theorem dX5_cellOf_33 : decode cX5_cellOf 33 = .ok (.aload_n 0, 1) := by decide +kernel
theorem dX5_cellOf_34 : decode cX5_cellOf 34 = .ok (.getfield 23, 3) := by decide +kernel
theorem dX5_cellOf_37 : decode cX5_cellOf 37 = .ok (.iadd, 1) := by decide +kernel
theorem dX5_cellOf_38 : decode cX5_cellOf 38 = .ok (.ireturn, 1) := by decide +kernel
theorem dX5_cellOf_39 : decode cX5_cellOf 39 = .ok (.iload_n 1, 1) := by decide +kernel
theorem dX5_cellOf_40 : decode cX5_cellOf 40 = .ok (.aload_n 0, 1) := by decide +kernel
theorem dX5_cellOf_41 : decode cX5_cellOf 41 = .ok (.getfield 23, 3) := by decide +kernel
theorem dX5_cellOf_44 : decode cX5_cellOf 44 = .ok (.imul, 1) := by decide +kernel
theorem dX5_cellOf_45 : decode cX5_cellOf 45 = .ok (.ireturn, 1) := by decide +kernel
theorem dX5_cellOf_46 : decode cX5_cellOf 46 = .ok (.sipush 999, 3) := by decide +kernel
theorem dX5_cellOf_49 : decode cX5_cellOf 49 = .ok (.iload_n 1, 1) := by decide +kernel
theorem dX5_cellOf_50 : decode cX5_cellOf 50 = .ok (.isub, 1) := by decide +kernel
theorem dX5_cellOf_51 : decode cX5_cellOf 51 = .ok (.ireturn, 1) := by decide +kernel
theorem dX5_cellOf_52 : decode cX5_cellOf 52 = .ok (.iload_n 1, 1) := by decide +kernel
theorem dX5_cellOf_53 : decode cX5_cellOf 53 = .ok (.ireturn, 1) := by decide +kernel
theorem tf_X5_9 : Cond.fieldLink RX5 9 "TableMove$Tables" (TX5 0).2.1 (TX5 0).2.2.1 ∈ TMW := tm_in 159 (by decide +kernel) (by decide +kernel)
theorem tu_X5 : ∀ w ∈ u_ws RX5 TX5 4, w ∈ TMW := tm_us [167, 169, 171, 173] (by decide +kernel) (by decide +kernel)
theorem tf_X5_23 : Cond.fieldLink RX5 23 "TableMove$Tables" (TX5 1).2.1 (TX5 1).2.2.1 ∈ TMW := tm_in 161 (by decide +kernel) (by decide +kernel)
def f_X5_cellOf (x1 : Int32) (v : tmM) : Option (Int32 × tmM) := tm_lt (v 1 0) fun y1 => (if y1 = 1 then some (x1 + (v 1 1), v) else if y1 = 2 then some (x1 * (v 1 1), v) else if y1 = 3 then some (999 - x1, v) else some (x1, v))
set_option maxRecDepth 100000 in
set_option maxHeartbeats 4000000 in
theorem w_X5_cellOf {p : Program} {l : Launch} {e : Env} {s : State} {m : MethodId} {args : Array Value} {below : List Frame} {meth : Method} {c : Code} {D : va_G} {cy : Nat → ClassId} {ad : Nat → Nat} {A : Nat → Prop} {z : (Int32 × tmM)} (C0 : tmC p s m args meth c cX5_cellOf 2 (some .int) RX5 TMW tm_NWC D cy tm_shC ad 256 [] A) (x1 : Int32) (v : tmM) : tmG p l e ({ frames := 0, cells := 0, slots := 0, locals := 0 } : Room) s m args below meth c 0 0 (MQ below (va_Qi (fun r u => z = (r, u)) (tmAt tm_shC 256 D cy ad A) A) args s 0 0 A) 2 D cy tm_shC ad 256 [] A z 0 [(0, .ref (ad 1)), (1, .int x1)] [] v (f_X5_cellOf x1 v) := by
  unfold f_X5_cellOf
  refine tg_aload_n 0 C0 dX5_cellOf_0 rfl rfl ?_
  refine tg_get 1 0 C0 dX5_cellOf_1 (by decide) rfl rfl tu_X5 (by decide) tf_X5_9 rfl rfl rfl ?_
  refine tg_leti (fun y1 _ => ?_)
  refine tg_tab 0 (cst := 1) 32 tg_tab0 C0 dX5_cellOf_4 (by decide) rfl (by decide) (by decide) (fun _ => ?_) (fun h2 => ?_)
  · refine tg_iload_n 1 C0 dX5_cellOf_32 rfl rfl ?_
    refine tg_aload_n 0 C0 dX5_cellOf_33 rfl rfl ?_
    refine tg_get 1 1 C0 dX5_cellOf_34 (by decide) rfl rfl tu_X5 (by decide) tf_X5_23 rfl rfl rfl ?_
    refine tg_iadd C0 dX5_cellOf_37 ?_
    exact tg_iret C0 dX5_cellOf_38
  refine tg_tab 1 (cst := 2) 39 h2 C0 dX5_cellOf_4 (by decide) rfl (by decide) (by decide) (fun _ => ?_) (fun h3 => ?_)
  · refine tg_iload_n 1 C0 dX5_cellOf_39 rfl rfl ?_
    refine tg_aload_n 0 C0 dX5_cellOf_40 rfl rfl ?_
    refine tg_get 1 1 C0 dX5_cellOf_41 (by decide) rfl rfl tu_X5 (by decide) tf_X5_23 rfl rfl rfl ?_
    refine tg_imul C0 dX5_cellOf_44 ?_
    exact tg_iret C0 dX5_cellOf_45
  refine tg_tab 2 (cst := 3) 46 h3 C0 dX5_cellOf_4 (by decide) rfl (by decide) (by decide) (fun _ => ?_) (fun h4 => ?_)
  · refine tg_sipush (x := 999) C0 dX5_cellOf_46 (by decide) ?_
    refine tg_iload_n 1 C0 dX5_cellOf_49 rfl rfl ?_
    refine tg_isub C0 dX5_cellOf_50 ?_
    exact tg_iret C0 dX5_cellOf_51
  refine tg_tabO 3 52 h4 C0 dX5_cellOf_4 (by decide) (by decide) ?_
  refine tg_iload_n 1 C0 dX5_cellOf_52 rfl rfl ?_
  exact tg_iret C0 dX5_cellOf_53
theorem c_X5_cellOf (l : Launch) (x1 : Int32) (v : tmM) : tmMi tm_NWC tm_shC 256 l yX5_cellOf (Cond.code yX5_cellOf cX5_cellOf 2 (some .int) :: TMW) ({ frames := 0, cells := 0, slots := 0, locals := 0 } : Room) (fun ad => [.ref (ad 1), .int x1]) v (f_X5_cellOf x1 v) :=
  tmMi.of (cc := cX5_cellOf) (nL := 2) (by decide +kernel) rfl tm_NWC_ok (fun _ => Nat.le_of_ble_eq_true rfl) (fun p e s m args below meth c A D cy ad z C0 => w_X5_cellOf C0 x1 v)
-- ----- X5_store
theorem dX5_store_0 : decode cX5_store 0 = .ok (.aload_n 0, 1) := by decide +kernel
theorem dX5_store_1 : decode cX5_store 1 = .ok (.getfield 17, 3) := by decide +kernel
theorem dX5_store_4 : decode cX5_store 4 = .ok (.iload_n 1, 1) := by decide +kernel
theorem dX5_store_5 : decode cX5_store 5 = .ok (.aaload, 1) := by decide +kernel
theorem dX5_store_6 : decode cX5_store 6 = .ok (.iload_n 2, 1) := by decide +kernel
theorem dX5_store_7 : decode cX5_store 7 = .ok (.iload_n 3, 1) := by decide +kernel
theorem dX5_store_8 : decode cX5_store 8 = .ok (.iconst (-1), 1) := by decide +kernel
theorem dX5_store_9 : decode cX5_store 9 = .ok (.if_icmp .eq 7, 3) := by decide +kernel
theorem dX5_store_12 : decode cX5_store 12 = .ok (.iload_n 1, 1) := by decide +kernel
theorem dX5_store_13 : decode cX5_store 13 = .ok (.ifCond .ne 7, 3) := by decide +kernel
theorem dX5_store_16 : decode cX5_store 16 = .ok (.iload_n 3, 1) := by decide +kernel
theorem dX5_store_17 : decode cX5_store 17 = .ok (.goto 8, 3) := by decide +kernel
theorem dX5_store_20 : decode cX5_store 20 = .ok (.aload_n 0, 1) := by decide +kernel
theorem dX5_store_21 : decode cX5_store 21 = .ok (.iload_n 3, 1) := by decide +kernel
theorem dX5_store_22 : decode cX5_store 22 = .ok (.invokevirtual 36, 3) := by decide +kernel
theorem dX5_store_25 : decode cX5_store 25 = .ok (.iastore, 1) := by decide +kernel
theorem dX5_store_26 : decode cX5_store 26 = .ok (.return_, 1) := by decide +kernel
theorem tf_X5_17 : Cond.fieldLink RX5 17 "TableMove$Tables" (TX5 2).2.1 (TX5 2).2.2.1 ∈ TMW := tm_in 163 (by decide +kernel) (by decide +kernel)
theorem tl_X5_36 : Cond.methodLink RX5 36 yX5_cellOf ∈ TMW := tm_in 543 (by decide +kernel) (by decide +kernel)
theorem ti_X5_cellOf : Cond.instanceMethod yX5_cellOf ∈ TMW := tm_in 545 (by decide +kernel) (by decide +kernel)
theorem ts_X5_cellOf : Cond.selects RX5 yX5_cellOf yX5_cellOf ∈ TMW := tm_in 10 (by decide +kernel) (by decide +kernel)
theorem tn_X5 : Cond.initialized RX5 ∈ TMW := tm_in 112 (by decide +kernel) (by decide +kernel)
theorem tc_X5_cellOf : Cond.code yX5_cellOf cX5_cellOf 2 (some .int) ∈ TMW := tm_in 546 (by decide +kernel) (by decide +kernel)
def f_X5_store_16 (q2 : Nat) (x3 s0 : Int32) (v : tmM) : Option (Unit × tmM) := tm_g (tm_ix s0 60) (tm_lt (tm_up v q2 s0.toNatClampNeg x3) fun v4 => some ((), v4))
set_option maxRecDepth 100000 in
set_option maxHeartbeats 4000000 in
theorem w_X5_store_16 {p : Program} {l : Launch} {e : Env} {s : State} {m : MethodId} {args : Array Value} {below : List Frame} {meth : Method} {c : Code} {D : va_G} {cy : Nat → ClassId} {ad : Nat → Nat} {A : Nat → Prop} {z : (Unit × tmM)} {q2 : Nat} (C0 : tmC p s m args meth c cX5_store 4 none RX5 TMW tm_NWC D cy tm_shC ad 256 [] A) (q2f : (fun r => tm_shC r = .inl (0, 60) ∧ r < 256) q2) (x3 s0 : Int32) (v : tmM) : tmG p l e ({ frames := 1, cells := 0, slots := 0, locals := 21 } : Room) s m args below meth c 0 0 (MQ below (va_Qv (fun u => z = ((), u)) (tmAt tm_shC 256 D cy ad A) A) args s 0 0 A) 4 D cy tm_shC ad 256 [] A z 16 [(3, .int x3)] [.int s0, .ref (ad q2)] v (f_X5_store_16 q2 x3 s0 v) := by
  unfold f_X5_store_16
  refine tg_iload_n 0 C0 dX5_store_16 rfl rfl ?_
  refine tg_goto 25 C0 dX5_store_17 (by decide) ?_
  refine tg_iast q2 C0 dX5_store_25 q2f.2 q2f.1 (fun _ => ?_)
  refine tg_letm (fun v4 _ => ?_)
  exact tg_vret C0 dX5_store_26
def f_X5_store (x1 x2 x3 : Int32) (v : tmM) : Option (Unit × tmM) := tm_g (tm_ix x1 2) (tm_lt (([3, 4] : List Nat).getD x1.toNatClampNeg 0) fun q2 => (if x3 = (-1) then f_X5_store_16 q2 x3 x2 v else (if x1 = 0 then f_X5_store_16 q2 x3 x2 v else tm_cl (f_X5_cellOf x3 v) fun r6 v5 => tm_g (tm_ix x2 60) (tm_lt (tm_up v5 q2 x2.toNatClampNeg r6) fun v7 => some ((), v7)))))
set_option maxRecDepth 100000 in
set_option maxHeartbeats 4000000 in
theorem w_X5_store {p : Program} {l : Launch} {e : Env} {s : State} {m : MethodId} {args : Array Value} {below : List Frame} {meth : Method} {c : Code} {D : va_G} {cy : Nat → ClassId} {ad : Nat → Nat} {A : Nat → Prop} {z : (Unit × tmM)} (C0 : tmC p s m args meth c cX5_store 4 none RX5 TMW tm_NWC D cy tm_shC ad 256 [] A) (x1 x2 x3 : Int32) (v : tmM) : tmG p l e ({ frames := 1, cells := 0, slots := 0, locals := 21 } : Room) s m args below meth c 0 0 (MQ below (va_Qv (fun u => z = ((), u)) (tmAt tm_shC 256 D cy ad A) A) args s 0 0 A) 4 D cy tm_shC ad 256 [] A z 0 [(0, .ref (ad 1)), (1, .int x1), (2, .int x2), (3, .int x3)] [] v (f_X5_store x1 x2 x3 v) := by
  unfold f_X5_store
  refine tg_aload_n 0 C0 dX5_store_0 rfl rfl ?_
  refine tg_get 1 2 C0 dX5_store_1 (by decide) rfl rfl tu_X5 (by decide) tf_X5_17 rfl rfl rfl ?_
  refine tg_iload_n 1 C0 dX5_store_4 rfl rfl ?_
  refine tg_aald 2 C0 dX5_store_5 (by decide) rfl (by decide) rfl (fun q2 h1 e3 => ?_)
  have q2f := tm_all (P := fun r => tm_shC r = .inl (0, 60) ∧ r < 256) h1 e3 (by decide +kernel)
  refine tg_iload_n 2 C0 dX5_store_6 rfl rfl ?_
  refine tg_iload_n 3 C0 dX5_store_7 rfl rfl ?_
  refine tg_iconst (x := (-1)) C0 dX5_store_8 (by decide) ?_
  refine tg_icmp_eq 16 C0 dX5_store_9 (by decide) (fun _ => ?_) (fun _ => ?_)
  · refine tg_sub [3] rfl ?_
    exact w_X5_store_16 C0 q2f x3 x2 v
  · refine tg_iload_n 1 C0 dX5_store_12 rfl rfl ?_
    refine tg_if_ne 20 C0 dX5_store_13 (by decide) (fun _ => ?_) (fun _ => ?_)
    · refine tg_aload_n 0 C0 dX5_store_20 rfl rfl ?_
      refine tg_iload_n 3 C0 dX5_store_21 rfl rfl ?_
      refine tg_callVi (As := [.int x3]) 1 1 C0 dX5_store_22 (c_X5_cellOf l x3 v) rfl rfl (by decide) rfl rfl (tm_gV tl_X5_36 ti_X5_cellOf ts_X5_cellOf tn_X5 tc_X5_cellOf)  rfl rfl rfl rfl (by decide +kernel) ⟨by decide, by decide⟩ (Nat.le_of_ble_eq_true rfl) ⟨by decide, by decide⟩ (fun r6 v5 _ => ?_)
      refine tg_iast q2 C0 dX5_store_25 q2f.2 q2f.1 (fun _ => ?_)
      refine tg_letm (fun v7 _ => ?_)
      exact tg_vret C0 dX5_store_26
    · refine tg_sub [3] rfl ?_
      exact w_X5_store_16 C0 q2f x3 x2 v
theorem c_X5_store (l : Launch) (x1 x2 x3 : Int32) (v : tmM) : tmMv tm_NWC tm_shC 256 l yX5_store (Cond.code yX5_store cX5_store 4 none :: TMW) ({ frames := 1, cells := 0, slots := 0, locals := 21 } : Room) (fun ad => [.ref (ad 1), .int x1, .int x2, .int x3]) v (f_X5_store x1 x2 x3 v) :=
  tmMv.of (cc := cX5_store) (nL := 4) (by decide +kernel) rfl tm_NWC_ok (fun _ => Nat.le_of_ble_eq_true rfl) (fun p e s m args below meth c A D cy ad z C0 => w_X5_store C0 x1 x2 x3 v)
-- ----- X5_valueAt
theorem dX5_valueAt_0 : decode cX5_valueAt 0 = .ok (.aload_n 0, 1) := by decide +kernel
theorem dX5_valueAt_1 : decode cX5_valueAt 1 = .ok (.getfield 17, 3) := by decide +kernel
theorem dX5_valueAt_4 : decode cX5_valueAt 4 = .ok (.iload_n 1, 1) := by decide +kernel
theorem dX5_valueAt_5 : decode cX5_valueAt 5 = .ok (.aaload, 1) := by decide +kernel
theorem dX5_valueAt_6 : decode cX5_valueAt 6 = .ok (.iload_n 2, 1) := by decide +kernel
theorem dX5_valueAt_7 : decode cX5_valueAt 7 = .ok (.iaload, 1) := by decide +kernel
theorem dX5_valueAt_8 : decode cX5_valueAt 8 = .ok (.istore_n 3, 1) := by decide +kernel
theorem dX5_valueAt_9 : decode cX5_valueAt 9 = .ok (.iload_n 3, 1) := by decide +kernel
theorem dX5_valueAt_10 : decode cX5_valueAt 10 = .ok (.iconst (-1), 1) := by decide +kernel
theorem dX5_valueAt_11 : decode cX5_valueAt 11 = .ok (.if_icmp .eq 7, 3) := by decide +kernel
theorem dX5_valueAt_14 : decode cX5_valueAt 14 = .ok (.iload_n 1, 1) := by decide +kernel
theorem dX5_valueAt_15 : decode cX5_valueAt 15 = .ok (.ifCond .ne 5, 3) := by decide +kernel
theorem dX5_valueAt_18 : decode cX5_valueAt 18 = .ok (.iload_n 3, 1) := by decide +kernel
theorem dX5_valueAt_19 : decode cX5_valueAt 19 = .ok (.ireturn, 1) := by decide +kernel
theorem dX5_valueAt_20 : decode cX5_valueAt 20 = .ok (.iload_n 3, 1) := by decide +kernel
theorem dX5_valueAt_21 : decode cX5_valueAt 21 = .ok (.istore 4, 2) := by decide +kernel
theorem dX5_valueAt_23 : decode cX5_valueAt 23 = .ok (.aload_n 0, 1) := by decide +kernel
theorem dX5_valueAt_24 : decode cX5_valueAt 24 = .ok (.getfield 9, 3) := by decide +kernel
theorem dX5_valueAt_27 : decode cX5_valueAt 27 = .ok (.iconst 1, 1) := by decide +kernel
theorem dX5_valueAt_28 : decode cX5_valueAt 28 = .ok (.if_icmp .ne 14, 3) := by decide +kernel
theorem dX5_valueAt_31 : decode cX5_valueAt 31 = .ok (.iload_n 3, 1) := by decide +kernel
theorem dX5_valueAt_32 : decode cX5_valueAt 32 = .ok (.aload_n 0, 1) := by decide +kernel
theorem dX5_valueAt_33 : decode cX5_valueAt 33 = .ok (.getfield 23, 3) := by decide +kernel
theorem dX5_valueAt_36 : decode cX5_valueAt 36 = .ok (.isub, 1) := by decide +kernel
theorem dX5_valueAt_37 : decode cX5_valueAt 37 = .ok (.istore 4, 2) := by decide +kernel
theorem dX5_valueAt_39 : decode cX5_valueAt 39 = .ok (.goto 58, 3) := by decide +kernel
theorem dX5_valueAt_42 : decode cX5_valueAt 42 = .ok (.aload_n 0, 1) := by decide +kernel
theorem dX5_valueAt_43 : decode cX5_valueAt 43 = .ok (.getfield 9, 3) := by decide +kernel
theorem dX5_valueAt_46 : decode cX5_valueAt 46 = .ok (.iconst 2, 1) := by decide +kernel
theorem dX5_valueAt_47 : decode cX5_valueAt 47 = .ok (.if_icmp .ne 35, 3) := by decide +kernel
theorem dX5_valueAt_50 : decode cX5_valueAt 50 = .ok (.aload_n 0, 1) := by decide +kernel
theorem dX5_valueAt_51 : decode cX5_valueAt 51 = .ok (.getfield 23, 3) := by decide +kernel
theorem dX5_valueAt_54 : decode cX5_valueAt 54 = .ok (.ifCond .le 21, 3) := by decide +kernel
theorem dX5_valueAt_57 : decode cX5_valueAt 57 = .ok (.iload_n 3, 1) := by decide +kernel
theorem dX5_valueAt_58 : decode cX5_valueAt 58 = .ok (.aload_n 0, 1) := by decide +kernel
theorem dX5_valueAt_59 : decode cX5_valueAt 59 = .ok (.getfield 23, 3) := by decide +kernel
theorem dX5_valueAt_62 : decode cX5_valueAt 62 = .ok (.irem, 1) := by decide +kernel
theorem dX5_valueAt_63 : decode cX5_valueAt 63 = .ok (.ifCond .ne 12, 3) := by decide +kernel
theorem dX5_valueAt_66 : decode cX5_valueAt 66 = .ok (.iload_n 3, 1) := by decide +kernel
theorem dX5_valueAt_67 : decode cX5_valueAt 67 = .ok (.aload_n 0, 1) := by decide +kernel
theorem dX5_valueAt_68 : decode cX5_valueAt 68 = .ok (.getfield 23, 3) := by decide +kernel
theorem dX5_valueAt_71 : decode cX5_valueAt 71 = .ok (.idiv, 1) := by decide +kernel
theorem dX5_valueAt_72 : decode cX5_valueAt 72 = .ok (.goto 5, 3) := by decide +kernel
theorem dX5_valueAt_75 : decode cX5_valueAt 75 = .ok (.bipush (-3), 2) := by decide +kernel
theorem dX5_valueAt_77 : decode cX5_valueAt 77 = .ok (.istore 4, 2) := by decide +kernel
theorem dX5_valueAt_79 : decode cX5_valueAt 79 = .ok (.goto 18, 3) := by decide +kernel
theorem dX5_valueAt_82 : decode cX5_valueAt 82 = .ok (.aload_n 0, 1) := by decide +kernel
theorem dX5_valueAt_83 : decode cX5_valueAt 83 = .ok (.getfield 9, 3) := by decide +kernel
theorem dX5_valueAt_86 : decode cX5_valueAt 86 = .ok (.iconst 3, 1) := by decide +kernel
theorem dX5_valueAt_87 : decode cX5_valueAt 87 = .ok (.if_icmp .ne 10, 3) := by decide +kernel
theorem dX5_valueAt_90 : decode cX5_valueAt 90 = .ok (.sipush 999, 3) := by decide +kernel
theorem dX5_valueAt_93 : decode cX5_valueAt 93 = .ok (.iload_n 3, 1) := by decide +kernel
theorem dX5_valueAt_94 : decode cX5_valueAt 94 = .ok (.isub, 1) := by decide +kernel
theorem dX5_valueAt_95 : decode cX5_valueAt 95 = .ok (.istore 4, 2) := by decide +kernel
theorem dX5_valueAt_97 : decode cX5_valueAt 97 = .ok (.iload 4, 2) := by decide +kernel
theorem dX5_valueAt_99 : decode cX5_valueAt 99 = .ok (.ifCond .lt 16, 3) := by decide +kernel
theorem dX5_valueAt_102 : decode cX5_valueAt 102 = .ok (.iload 4, 2) := by decide +kernel
theorem dX5_valueAt_104 : decode cX5_valueAt 104 = .ok (.sipush 999, 3) := by decide +kernel
theorem dX5_valueAt_107 : decode cX5_valueAt 107 = .ok (.if_icmp .gt 8, 3) := by decide +kernel
theorem dX5_valueAt_110 : decode cX5_valueAt 110 = .ok (.iload 4, 2) := by decide +kernel
theorem dX5_valueAt_112 : decode cX5_valueAt 112 = .ok (.goto 5, 3) := by decide +kernel
theorem dX5_valueAt_115 : decode cX5_valueAt 115 = .ok (.bipush (-3), 2) := by decide +kernel
theorem dX5_valueAt_117 : decode cX5_valueAt 117 = .ok (.ireturn, 1) := by decide +kernel
def f_X5_valueAt_97 (x4 : Int32) (v : tmM) : Option (Int32 × tmM) := (if x4 < 0 then some ((-3), v) else (if 999 < x4 then some ((-3), v) else some (x4, v)))
set_option maxRecDepth 100000 in
set_option maxHeartbeats 4000000 in
theorem w_X5_valueAt_97 {p : Program} {l : Launch} {e : Env} {s : State} {m : MethodId} {args : Array Value} {below : List Frame} {meth : Method} {c : Code} {D : va_G} {cy : Nat → ClassId} {ad : Nat → Nat} {A : Nat → Prop} {z : (Int32 × tmM)} (C0 : tmC p s m args meth c cX5_valueAt 5 (some .int) RX5 TMW tm_NWC D cy tm_shC ad 256 [] A) (x4 : Int32) (v : tmM) : tmG p l e ({ frames := 0, cells := 0, slots := 0, locals := 0 } : Room) s m args below meth c 0 0 (MQ below (va_Qi (fun r u => z = (r, u)) (tmAt tm_shC 256 D cy ad A) A) args s 0 0 A) 5 D cy tm_shC ad 256 [] A z 97 [(4, .int x4)] [] v (f_X5_valueAt_97 x4 v) := by
  unfold f_X5_valueAt_97
  refine tg_iload 0 C0 dX5_valueAt_97 rfl ?_
  refine tg_if_lt 115 C0 dX5_valueAt_99 (by decide) (fun _ => ?_) (fun _ => ?_)
  · refine tg_bipush (x := (-3)) C0 dX5_valueAt_115 (by decide) ?_
    exact tg_iret C0 dX5_valueAt_117
  · refine tg_iload 0 C0 dX5_valueAt_102 rfl ?_
    refine tg_sipush (x := 999) C0 dX5_valueAt_104 (by decide) ?_
    refine tg_icmp_gt 115 C0 dX5_valueAt_107 (by decide) (fun _ => ?_) (fun _ => ?_)
    · refine tg_bipush (x := (-3)) C0 dX5_valueAt_115 (by decide) ?_
      exact tg_iret C0 dX5_valueAt_117
    · refine tg_iload 0 C0 dX5_valueAt_110 rfl ?_
      refine tg_goto 117 C0 dX5_valueAt_112 (by decide) ?_
      exact tg_iret C0 dX5_valueAt_117
def f_X5_valueAt_77 (s0 : Int32) (v : tmM) : Option (Int32 × tmM) := f_X5_valueAt_97 s0 v
set_option maxRecDepth 100000 in
set_option maxHeartbeats 4000000 in
theorem w_X5_valueAt_77 {p : Program} {l : Launch} {e : Env} {s : State} {m : MethodId} {args : Array Value} {below : List Frame} {meth : Method} {c : Code} {D : va_G} {cy : Nat → ClassId} {ad : Nat → Nat} {A : Nat → Prop} {z : (Int32 × tmM)} (C0 : tmC p s m args meth c cX5_valueAt 5 (some .int) RX5 TMW tm_NWC D cy tm_shC ad 256 [] A) (s0 : Int32) (v : tmM) : tmG p l e ({ frames := 0, cells := 0, slots := 0, locals := 0 } : Room) s m args below meth c 0 0 (MQ below (va_Qi (fun r u => z = (r, u)) (tmAt tm_shC 256 D cy ad A) A) args s 0 0 A) 5 D cy tm_shC ad 256 [] A z 77 [] [.int s0] v (f_X5_valueAt_77 s0 v) := by
  unfold f_X5_valueAt_77
  refine tg_istore [(4, .int s0)] C0 dX5_valueAt_77 (by decide) rfl ?_
  refine tg_goto 97 C0 dX5_valueAt_79 (by decide) ?_
  exact w_X5_valueAt_97 C0 s0 v
def f_X5_valueAt_75 (v : tmM) : Option (Int32 × tmM) := f_X5_valueAt_77 (-3) v
set_option maxRecDepth 100000 in
set_option maxHeartbeats 4000000 in
theorem w_X5_valueAt_75 {p : Program} {l : Launch} {e : Env} {s : State} {m : MethodId} {args : Array Value} {below : List Frame} {meth : Method} {c : Code} {D : va_G} {cy : Nat → ClassId} {ad : Nat → Nat} {A : Nat → Prop} {z : (Int32 × tmM)} (C0 : tmC p s m args meth c cX5_valueAt 5 (some .int) RX5 TMW tm_NWC D cy tm_shC ad 256 [] A) (v : tmM) : tmG p l e ({ frames := 0, cells := 0, slots := 0, locals := 0 } : Room) s m args below meth c 0 0 (MQ below (va_Qi (fun r u => z = (r, u)) (tmAt tm_shC 256 D cy ad A) A) args s 0 0 A) 5 D cy tm_shC ad 256 [] A z 75 [] [] v (f_X5_valueAt_75 v) := by
  unfold f_X5_valueAt_75
  refine tg_bipush (x := (-3)) C0 dX5_valueAt_75 (by decide) ?_
  exact w_X5_valueAt_77 C0 (-3) v
def f_X5_valueAt (x1 x2 : Int32) (v : tmM) : Option (Int32 × tmM) := tm_g (tm_ix x1 2) (tm_lt (([3, 4] : List Nat).getD x1.toNatClampNeg 0) fun q2 => tm_g (tm_ix x2 60) (tm_lt (v q2 x2.toNatClampNeg) fun y4 => (if y4 = (-1) then some (y4, v) else (if x1 = 0 then some (y4, v) else (if (v 1 0) = 1 then tm_lt (y4 - (v 1 1)) fun y6 => f_X5_valueAt_97 y6 v else (if (v 1 0) = 2 then (if (v 1 1) ≤ 0 then f_X5_valueAt_75 v else tm_g (decide (¬ (v 1 1) = 0)) ((if (y4 - y4 / (v 1 1) * (v 1 1)) = 0 then tm_g (decide (¬ (v 1 1) = 0)) (f_X5_valueAt_77 (y4 / (v 1 1)) v) else f_X5_valueAt_75 v))) else (if (v 1 0) = 3 then tm_lt (999 - y4) fun y5 => f_X5_valueAt_97 y5 v else f_X5_valueAt_97 y4 v)))))))
set_option maxRecDepth 100000 in
set_option maxHeartbeats 4000000 in
theorem w_X5_valueAt {p : Program} {l : Launch} {e : Env} {s : State} {m : MethodId} {args : Array Value} {below : List Frame} {meth : Method} {c : Code} {D : va_G} {cy : Nat → ClassId} {ad : Nat → Nat} {A : Nat → Prop} {z : (Int32 × tmM)} (C0 : tmC p s m args meth c cX5_valueAt 5 (some .int) RX5 TMW tm_NWC D cy tm_shC ad 256 [] A) (x1 x2 : Int32) (v : tmM) : tmG p l e ({ frames := 0, cells := 0, slots := 0, locals := 0 } : Room) s m args below meth c 0 0 (MQ below (va_Qi (fun r u => z = (r, u)) (tmAt tm_shC 256 D cy ad A) A) args s 0 0 A) 5 D cy tm_shC ad 256 [] A z 0 [(0, .ref (ad 1)), (1, .int x1), (2, .int x2)] [] v (f_X5_valueAt x1 x2 v) := by
  unfold f_X5_valueAt
  refine tg_aload_n 0 C0 dX5_valueAt_0 rfl rfl ?_
  refine tg_get 1 2 C0 dX5_valueAt_1 (by decide) rfl rfl tu_X5 (by decide) tf_X5_17 rfl rfl rfl ?_
  refine tg_iload_n 1 C0 dX5_valueAt_4 rfl rfl ?_
  refine tg_aald 2 C0 dX5_valueAt_5 (by decide) rfl (by decide) rfl (fun q2 h1 e3 => ?_)
  have q2f := tm_all (P := fun r => tm_shC r = .inl (0, 60) ∧ r < 256) h1 e3 (by decide +kernel)
  refine tg_iload_n 2 C0 dX5_valueAt_6 rfl rfl ?_
  refine tg_iald q2 C0 dX5_valueAt_7 q2f.2 q2f.1 (fun _ => ?_)
  refine tg_leti (fun y4 _ => ?_)
  refine tg_istore_n [(3, .int y4), (0, .ref (ad 1)), (1, .int x1), (2, .int x2)] C0 dX5_valueAt_8 rfl (by decide) rfl ?_
  refine tg_iload_n 0 C0 dX5_valueAt_9 rfl rfl ?_
  refine tg_iconst (x := (-1)) C0 dX5_valueAt_10 (by decide) ?_
  refine tg_icmp_eq 18 C0 dX5_valueAt_11 (by decide) (fun _ => ?_) (fun _ => ?_)
  · refine tg_iload_n 0 C0 dX5_valueAt_18 rfl rfl ?_
    exact tg_iret C0 dX5_valueAt_19
  · refine tg_iload_n 2 C0 dX5_valueAt_14 rfl rfl ?_
    refine tg_if_ne 20 C0 dX5_valueAt_15 (by decide) (fun _ => ?_) (fun _ => ?_)
    · refine tg_iload_n 0 C0 dX5_valueAt_20 rfl rfl ?_
      refine tg_istore [(4, .int y4), (3, .int y4), (0, .ref (ad 1)), (1, .int x1), (2, .int x2)] C0 dX5_valueAt_21 (by decide) rfl ?_
      refine tg_aload_n 2 C0 dX5_valueAt_23 rfl rfl ?_
      refine tg_get 1 0 C0 dX5_valueAt_24 (by decide) rfl rfl tu_X5 (by decide) tf_X5_9 rfl rfl rfl ?_
      refine tg_iconst (x := 1) C0 dX5_valueAt_27 (by decide) ?_
      refine tg_icmp_ne 42 C0 dX5_valueAt_28 (by decide) (fun _ => ?_) (fun _ => ?_)
      · refine tg_aload_n 2 C0 dX5_valueAt_42 rfl rfl ?_
        refine tg_get 1 0 C0 dX5_valueAt_43 (by decide) rfl rfl tu_X5 (by decide) tf_X5_9 rfl rfl rfl ?_
        refine tg_iconst (x := 2) C0 dX5_valueAt_46 (by decide) ?_
        refine tg_icmp_ne 82 C0 dX5_valueAt_47 (by decide) (fun _ => ?_) (fun _ => ?_)
        · refine tg_aload_n 2 C0 dX5_valueAt_82 rfl rfl ?_
          refine tg_get 1 0 C0 dX5_valueAt_83 (by decide) rfl rfl tu_X5 (by decide) tf_X5_9 rfl rfl rfl ?_
          refine tg_iconst (x := 3) C0 dX5_valueAt_86 (by decide) ?_
          refine tg_icmp_ne 97 C0 dX5_valueAt_87 (by decide) (fun _ => ?_) (fun _ => ?_)
          · refine tg_sub [0] rfl ?_
            exact w_X5_valueAt_97 C0 y4 v
          · refine tg_sipush (x := 999) C0 dX5_valueAt_90 (by decide) ?_
            refine tg_iload_n 1 C0 dX5_valueAt_93 rfl rfl ?_
            refine tg_isub C0 dX5_valueAt_94 ?_
            refine tg_leti (fun y5 _ => ?_)
            refine tg_istore [(4, .int y5), (3, .int y4), (0, .ref (ad 1)), (1, .int x1), (2, .int x2)] C0 dX5_valueAt_95 (by decide) rfl ?_
            refine tg_sub [0] rfl ?_
            exact w_X5_valueAt_97 C0 y5 v
        · refine tg_aload_n 2 C0 dX5_valueAt_50 rfl rfl ?_
          refine tg_get 1 1 C0 dX5_valueAt_51 (by decide) rfl rfl tu_X5 (by decide) tf_X5_23 rfl rfl rfl ?_
          refine tg_if_le 75 C0 dX5_valueAt_54 (by decide) (fun _ => ?_) (fun _ => ?_)
          · refine tg_sub [] rfl ?_
            exact w_X5_valueAt_75 C0 v
          · refine tg_iload_n 1 C0 dX5_valueAt_57 rfl rfl ?_
            refine tg_aload_n 2 C0 dX5_valueAt_58 rfl rfl ?_
            refine tg_get 1 1 C0 dX5_valueAt_59 (by decide) rfl rfl tu_X5 (by decide) tf_X5_23 rfl rfl rfl ?_
            refine tg_irem C0 dX5_valueAt_62 (fun _ => ?_)
            refine tg_if_ne 75 C0 dX5_valueAt_63 (by decide) (fun _ => ?_) (fun _ => ?_)
            · refine tg_sub [] rfl ?_
              exact w_X5_valueAt_75 C0 v
            · refine tg_iload_n 1 C0 dX5_valueAt_66 rfl rfl ?_
              refine tg_aload_n 2 C0 dX5_valueAt_67 rfl rfl ?_
              refine tg_get 1 1 C0 dX5_valueAt_68 (by decide) rfl rfl tu_X5 (by decide) tf_X5_23 rfl rfl rfl ?_
              refine tg_idiv C0 dX5_valueAt_71 (fun _ => ?_)
              refine tg_goto 77 C0 dX5_valueAt_72 (by decide) ?_
              refine tg_sub [] rfl ?_
              exact w_X5_valueAt_77 C0 (y4 / (v 1 1)) v
      · refine tg_iload_n 1 C0 dX5_valueAt_31 rfl rfl ?_
        refine tg_aload_n 2 C0 dX5_valueAt_32 rfl rfl ?_
        refine tg_get 1 1 C0 dX5_valueAt_33 (by decide) rfl rfl tu_X5 (by decide) tf_X5_23 rfl rfl rfl ?_
        refine tg_isub C0 dX5_valueAt_36 ?_
        refine tg_leti (fun y6 _ => ?_)
        refine tg_istore [(4, .int y6), (3, .int y4), (0, .ref (ad 1)), (1, .int x1), (2, .int x2)] C0 dX5_valueAt_37 (by decide) rfl ?_
        refine tg_goto 97 C0 dX5_valueAt_39 (by decide) ?_
        refine tg_sub [0] rfl ?_
        exact w_X5_valueAt_97 C0 y6 v
    · refine tg_iload_n 0 C0 dX5_valueAt_18 rfl rfl ?_
      exact tg_iret C0 dX5_valueAt_19
theorem c_X5_valueAt (l : Launch) (x1 x2 : Int32) (v : tmM) : tmMi tm_NWC tm_shC 256 l yX5_valueAt (Cond.code yX5_valueAt cX5_valueAt 5 (some .int) :: TMW) ({ frames := 0, cells := 0, slots := 0, locals := 0 } : Room) (fun ad => [.ref (ad 1), .int x1, .int x2]) v (f_X5_valueAt x1 x2 v) :=
  tmMi.of (cc := cX5_valueAt) (nL := 5) (by decide +kernel) rfl tm_NWC_ok (fun _ => Nat.le_of_ble_eq_true rfl) (fun p e s m args below meth c A D cy ad z C0 => w_X5_valueAt C0 x1 x2 v)
-- ----- X5_hasRowSomewhere
theorem dX5_hasRowSomewhere_0 : decode cX5_hasRowSomewhere 0 = .ok (.aload_n 0, 1) := by decide +kernel
theorem dX5_hasRowSomewhere_1 : decode cX5_hasRowSomewhere 1 = .ok (.getfield 17, 3) := by decide +kernel
theorem dX5_hasRowSomewhere_4 : decode cX5_hasRowSomewhere 4 = .ok (.iconst 0, 1) := by decide +kernel
theorem dX5_hasRowSomewhere_5 : decode cX5_hasRowSomewhere 5 = .ok (.aaload, 1) := by decide +kernel
theorem dX5_hasRowSomewhere_6 : decode cX5_hasRowSomewhere 6 = .ok (.iload_n 1, 1) := by decide +kernel
theorem dX5_hasRowSomewhere_7 : decode cX5_hasRowSomewhere 7 = .ok (.iaload, 1) := by decide +kernel
theorem dX5_hasRowSomewhere_8 : decode cX5_hasRowSomewhere 8 = .ok (.iconst (-1), 1) := by decide +kernel
theorem dX5_hasRowSomewhere_9 : decode cX5_hasRowSomewhere 9 = .ok (.if_icmp .ne 15, 3) := by decide +kernel
theorem dX5_hasRowSomewhere_12 : decode cX5_hasRowSomewhere 12 = .ok (.aload_n 0, 1) := by decide +kernel
theorem dX5_hasRowSomewhere_13 : decode cX5_hasRowSomewhere 13 = .ok (.getfield 17, 3) := by decide +kernel
theorem dX5_hasRowSomewhere_16 : decode cX5_hasRowSomewhere 16 = .ok (.iconst 1, 1) := by decide +kernel
theorem dX5_hasRowSomewhere_17 : decode cX5_hasRowSomewhere 17 = .ok (.aaload, 1) := by decide +kernel
theorem dX5_hasRowSomewhere_18 : decode cX5_hasRowSomewhere 18 = .ok (.iload_n 1, 1) := by decide +kernel
theorem dX5_hasRowSomewhere_19 : decode cX5_hasRowSomewhere 19 = .ok (.iaload, 1) := by decide +kernel
theorem dX5_hasRowSomewhere_20 : decode cX5_hasRowSomewhere 20 = .ok (.iconst (-1), 1) := by decide +kernel
theorem dX5_hasRowSomewhere_21 : decode cX5_hasRowSomewhere 21 = .ok (.if_icmp .eq 7, 3) := by decide +kernel
theorem dX5_hasRowSomewhere_24 : decode cX5_hasRowSomewhere 24 = .ok (.iconst 1, 1) := by decide +kernel
theorem dX5_hasRowSomewhere_25 : decode cX5_hasRowSomewhere 25 = .ok (.goto 4, 3) := by decide +kernel
theorem dX5_hasRowSomewhere_28 : decode cX5_hasRowSomewhere 28 = .ok (.iconst 0, 1) := by decide +kernel
theorem dX5_hasRowSomewhere_29 : decode cX5_hasRowSomewhere 29 = .ok (.ireturn, 1) := by decide +kernel
def f_X5_hasRowSomewhere_24 (v : tmM) : Option (Int32 × tmM) := some (1, v)
set_option maxRecDepth 100000 in
set_option maxHeartbeats 4000000 in
theorem w_X5_hasRowSomewhere_24 {p : Program} {l : Launch} {e : Env} {s : State} {m : MethodId} {args : Array Value} {below : List Frame} {meth : Method} {c : Code} {D : va_G} {cy : Nat → ClassId} {ad : Nat → Nat} {A : Nat → Prop} {z : (Int32 × tmM)} (C0 : tmC p s m args meth c cX5_hasRowSomewhere 2 (some .boolean) RX5 TMW tm_NWC D cy tm_shC ad 256 [] A) (v : tmM) : tmG p l e ({ frames := 0, cells := 0, slots := 0, locals := 0 } : Room) s m args below meth c 0 0 (MQ below (va_Qi (fun r u => z = (r, u)) (tmAt tm_shC 256 D cy ad A) A) args s 0 0 A) 2 D cy tm_shC ad 256 [] A z 24 [] [] v (f_X5_hasRowSomewhere_24 v) := by
  unfold f_X5_hasRowSomewhere_24
  refine tg_iconst (x := 1) C0 dX5_hasRowSomewhere_24 (by decide) ?_
  refine tg_goto 29 C0 dX5_hasRowSomewhere_25 (by decide) ?_
  exact tg_zret C0 dX5_hasRowSomewhere_29 rfl
def f_X5_hasRowSomewhere (x1 : Int32) (v : tmM) : Option (Int32 × tmM) := tm_g (tm_ix 0 2) (tm_lt (([3, 4] : List Nat).getD (0 : Int32).toNatClampNeg 0) fun q2 => tm_g (tm_ix x1 60) ((if (v q2 x1.toNatClampNeg) = (-1) then tm_g (tm_ix 1 2) (tm_lt (([3, 4] : List Nat).getD (1 : Int32).toNatClampNeg 0) fun q5 => tm_g (tm_ix x1 60) ((if (v q5 x1.toNatClampNeg) = (-1) then some (0, v) else f_X5_hasRowSomewhere_24 v))) else f_X5_hasRowSomewhere_24 v)))
set_option maxRecDepth 100000 in
set_option maxHeartbeats 4000000 in
theorem w_X5_hasRowSomewhere {p : Program} {l : Launch} {e : Env} {s : State} {m : MethodId} {args : Array Value} {below : List Frame} {meth : Method} {c : Code} {D : va_G} {cy : Nat → ClassId} {ad : Nat → Nat} {A : Nat → Prop} {z : (Int32 × tmM)} (C0 : tmC p s m args meth c cX5_hasRowSomewhere 2 (some .boolean) RX5 TMW tm_NWC D cy tm_shC ad 256 [] A) (x1 : Int32) (v : tmM) : tmG p l e ({ frames := 0, cells := 0, slots := 0, locals := 0 } : Room) s m args below meth c 0 0 (MQ below (va_Qi (fun r u => z = (r, u)) (tmAt tm_shC 256 D cy ad A) A) args s 0 0 A) 2 D cy tm_shC ad 256 [] A z 0 [(0, .ref (ad 1)), (1, .int x1)] [] v (f_X5_hasRowSomewhere x1 v) := by
  unfold f_X5_hasRowSomewhere
  refine tg_aload_n 0 C0 dX5_hasRowSomewhere_0 rfl rfl ?_
  refine tg_get 1 2 C0 dX5_hasRowSomewhere_1 (by decide) rfl rfl tu_X5 (by decide) tf_X5_17 rfl rfl rfl ?_
  refine tg_iconst (x := 0) C0 dX5_hasRowSomewhere_4 (by decide) ?_
  refine tg_aald 2 C0 dX5_hasRowSomewhere_5 (by decide) rfl (by decide) rfl (fun q2 h1 e3 => ?_)
  have q2f := tm_all (P := fun r => tm_shC r = .inl (0, 60) ∧ r < 256) h1 e3 (by decide +kernel)
  refine tg_iload_n 1 C0 dX5_hasRowSomewhere_6 rfl rfl ?_
  refine tg_iald q2 C0 dX5_hasRowSomewhere_7 q2f.2 q2f.1 (fun _ => ?_)
  refine tg_iconst (x := (-1)) C0 dX5_hasRowSomewhere_8 (by decide) ?_
  refine tg_icmp_ne 24 C0 dX5_hasRowSomewhere_9 (by decide) (fun _ => ?_) (fun _ => ?_)
  · refine tg_sub [] rfl ?_
    exact w_X5_hasRowSomewhere_24 C0 v
  · refine tg_aload_n 0 C0 dX5_hasRowSomewhere_12 rfl rfl ?_
    refine tg_get 1 2 C0 dX5_hasRowSomewhere_13 (by decide) rfl rfl tu_X5 (by decide) tf_X5_17 rfl rfl rfl ?_
    refine tg_iconst (x := 1) C0 dX5_hasRowSomewhere_16 (by decide) ?_
    refine tg_aald 2 C0 dX5_hasRowSomewhere_17 (by decide) rfl (by decide) rfl (fun q5 h4 e6 => ?_)
    have q5f := tm_all (P := fun r => tm_shC r = .inl (0, 60) ∧ r < 256) h4 e6 (by decide +kernel)
    refine tg_iload_n 1 C0 dX5_hasRowSomewhere_18 rfl rfl ?_
    refine tg_iald q5 C0 dX5_hasRowSomewhere_19 q5f.2 q5f.1 (fun _ => ?_)
    refine tg_iconst (x := (-1)) C0 dX5_hasRowSomewhere_20 (by decide) ?_
    refine tg_icmp_eq 28 C0 dX5_hasRowSomewhere_21 (by decide) (fun _ => ?_) (fun _ => ?_)
    · refine tg_iconst (x := 0) C0 dX5_hasRowSomewhere_28 (by decide) ?_
      exact tg_zret C0 dX5_hasRowSomewhere_29 rfl
    · refine tg_sub [] rfl ?_
      exact w_X5_hasRowSomewhere_24 C0 v
theorem c_X5_hasRowSomewhere (l : Launch) (x1 : Int32) (v : tmM) : tmMi tm_NWC tm_shC 256 l yX5_hasRowSomewhere (Cond.code yX5_hasRowSomewhere cX5_hasRowSomewhere 2 (some .boolean) :: TMW) ({ frames := 0, cells := 0, slots := 0, locals := 0 } : Room) (fun ad => [.ref (ad 1), .int x1]) v (f_X5_hasRowSomewhere x1 v) :=
  tmMi.of (cc := cX5_hasRowSomewhere) (nL := 2) (by decide +kernel) rfl tm_NWC_ok (fun _ => Nat.le_of_ble_eq_true rfl) (fun p e s m args below meth c A D cy ad z C0 => w_X5_hasRowSomewhere C0 x1 v)
-- ----- X5_differ
theorem dX5_differ_0 : decode cX5_differ 0 = .ok (.aload_n 0, 1) := by decide +kernel
theorem dX5_differ_1 : decode cX5_differ 1 = .ok (.iconst 1, 1) := by decide +kernel
theorem dX5_differ_2 : decode cX5_differ 2 = .ok (.iload_n 1, 1) := by decide +kernel
theorem dX5_differ_3 : decode cX5_differ 3 = .ok (.invokevirtual 40, 3) := by decide +kernel
theorem dX5_differ_6 : decode cX5_differ 6 = .ok (.istore_n 2, 1) := by decide +kernel
theorem dX5_differ_7 : decode cX5_differ 7 = .ok (.iload_n 2, 1) := by decide +kernel
theorem dX5_differ_8 : decode cX5_differ 8 = .ok (.bipush (-3), 2) := by decide +kernel
theorem dX5_differ_10 : decode cX5_differ 10 = .ok (.if_icmp .eq 13, 3) := by decide +kernel
theorem dX5_differ_13 : decode cX5_differ 13 = .ok (.iload_n 2, 1) := by decide +kernel
theorem dX5_differ_14 : decode cX5_differ 14 = .ok (.aload_n 0, 1) := by decide +kernel
theorem dX5_differ_15 : decode cX5_differ 15 = .ok (.iconst 0, 1) := by decide +kernel
theorem dX5_differ_16 : decode cX5_differ 16 = .ok (.iload_n 1, 1) := by decide +kernel
theorem dX5_differ_17 : decode cX5_differ 17 = .ok (.invokevirtual 40, 3) := by decide +kernel
theorem dX5_differ_20 : decode cX5_differ 20 = .ok (.if_icmp .eq 7, 3) := by decide +kernel
theorem dX5_differ_23 : decode cX5_differ 23 = .ok (.iconst 1, 1) := by decide +kernel
theorem dX5_differ_24 : decode cX5_differ 24 = .ok (.goto 4, 3) := by decide +kernel
theorem dX5_differ_27 : decode cX5_differ 27 = .ok (.iconst 0, 1) := by decide +kernel
theorem dX5_differ_28 : decode cX5_differ 28 = .ok (.ireturn, 1) := by decide +kernel
theorem tl_X5_40 : Cond.methodLink RX5 40 yX5_valueAt ∈ TMW := tm_in 646 (by decide +kernel) (by decide +kernel)
theorem ti_X5_valueAt : Cond.instanceMethod yX5_valueAt ∈ TMW := tm_in 532 (by decide +kernel) (by decide +kernel)
theorem ts_X5_valueAt : Cond.selects RX5 yX5_valueAt yX5_valueAt ∈ TMW := tm_in 533 (by decide +kernel) (by decide +kernel)
theorem tc_X5_valueAt : Cond.code yX5_valueAt cX5_valueAt 5 (some .int) ∈ TMW := tm_in 534 (by decide +kernel) (by decide +kernel)
def f_X5_differ_23 (v : tmM) : Option (Int32 × tmM) := some (1, v)
set_option maxRecDepth 100000 in
set_option maxHeartbeats 4000000 in
theorem w_X5_differ_23 {p : Program} {l : Launch} {e : Env} {s : State} {m : MethodId} {args : Array Value} {below : List Frame} {meth : Method} {c : Code} {D : va_G} {cy : Nat → ClassId} {ad : Nat → Nat} {A : Nat → Prop} {z : (Int32 × tmM)} (C0 : tmC p s m args meth c cX5_differ 3 (some .boolean) RX5 TMW tm_NWC D cy tm_shC ad 256 [] A) (v : tmM) : tmG p l e ({ frames := 1, cells := 0, slots := 0, locals := 24 } : Room) s m args below meth c 0 0 (MQ below (va_Qi (fun r u => z = (r, u)) (tmAt tm_shC 256 D cy ad A) A) args s 0 0 A) 3 D cy tm_shC ad 256 [] A z 23 [] [] v (f_X5_differ_23 v) := by
  unfold f_X5_differ_23
  refine tg_iconst (x := 1) C0 dX5_differ_23 (by decide) ?_
  refine tg_goto 28 C0 dX5_differ_24 (by decide) ?_
  exact tg_zret C0 dX5_differ_28 rfl
def f_X5_differ (x1 : Int32) (v : tmM) : Option (Int32 × tmM) := tm_cl (f_X5_valueAt 1 x1 v) fun r2 v1 => (if r2 = (-3) then f_X5_differ_23 v1 else tm_cl (f_X5_valueAt 0 x1 v1) fun r4 v3 => (if r2 = r4 then some (0, v3) else f_X5_differ_23 v3))
set_option maxRecDepth 100000 in
set_option maxHeartbeats 4000000 in
theorem w_X5_differ {p : Program} {l : Launch} {e : Env} {s : State} {m : MethodId} {args : Array Value} {below : List Frame} {meth : Method} {c : Code} {D : va_G} {cy : Nat → ClassId} {ad : Nat → Nat} {A : Nat → Prop} {z : (Int32 × tmM)} (C0 : tmC p s m args meth c cX5_differ 3 (some .boolean) RX5 TMW tm_NWC D cy tm_shC ad 256 [] A) (x1 : Int32) (v : tmM) : tmG p l e ({ frames := 1, cells := 0, slots := 0, locals := 24 } : Room) s m args below meth c 0 0 (MQ below (va_Qi (fun r u => z = (r, u)) (tmAt tm_shC 256 D cy ad A) A) args s 0 0 A) 3 D cy tm_shC ad 256 [] A z 0 [(0, .ref (ad 1)), (1, .int x1)] [] v (f_X5_differ x1 v) := by
  unfold f_X5_differ
  refine tg_aload_n 0 C0 dX5_differ_0 rfl rfl ?_
  refine tg_iconst (x := 1) C0 dX5_differ_1 (by decide) ?_
  refine tg_iload_n 1 C0 dX5_differ_2 rfl rfl ?_
  refine tg_callVi (As := [.int 1, .int x1]) 1 2 C0 dX5_differ_3 (c_X5_valueAt l 1 x1 v) rfl rfl (by decide) rfl rfl (tm_gV tl_X5_40 ti_X5_valueAt ts_X5_valueAt tn_X5 tc_X5_valueAt)  rfl rfl rfl rfl (by decide +kernel) ⟨by decide, by decide⟩ (Nat.le_of_ble_eq_true rfl) ⟨by decide, by decide⟩ (fun r2 v1 _ => ?_)
  refine tg_istore_n [(2, .int r2), (0, .ref (ad 1)), (1, .int x1)] C0 dX5_differ_6 rfl (by decide) rfl ?_
  refine tg_iload_n 0 C0 dX5_differ_7 rfl rfl ?_
  refine tg_bipush (x := (-3)) C0 dX5_differ_8 (by decide) ?_
  refine tg_icmp_eq 23 C0 dX5_differ_10 (by decide) (fun _ => ?_) (fun _ => ?_)
  · refine tg_sub [] rfl ?_
    exact w_X5_differ_23 C0 v1
  · refine tg_iload_n 0 C0 dX5_differ_13 rfl rfl ?_
    refine tg_aload_n 1 C0 dX5_differ_14 rfl rfl ?_
    refine tg_iconst (x := 0) C0 dX5_differ_15 (by decide) ?_
    refine tg_iload_n 2 C0 dX5_differ_16 rfl rfl ?_
    refine tg_callVi (As := [.int 0, .int x1]) 1 2 C0 dX5_differ_17 (c_X5_valueAt l 0 x1 v1) rfl rfl (by decide) rfl rfl (tm_gV tl_X5_40 ti_X5_valueAt ts_X5_valueAt tn_X5 tc_X5_valueAt)  rfl rfl rfl rfl (by decide +kernel) ⟨by decide, by decide⟩ (Nat.le_of_ble_eq_true rfl) ⟨by decide, by decide⟩ (fun r4 v3 _ => ?_)
    refine tg_icmp_eq 27 C0 dX5_differ_20 (by decide) (fun _ => ?_) (fun _ => ?_)
    · refine tg_iconst (x := 0) C0 dX5_differ_27 (by decide) ?_
      exact tg_zret C0 dX5_differ_28 rfl
    · refine tg_sub [] rfl ?_
      exact w_X5_differ_23 C0 v3
theorem c_X5_differ (l : Launch) (x1 : Int32) (v : tmM) : tmMi tm_NWC tm_shC 256 l yX5_differ (Cond.code yX5_differ cX5_differ 3 (some .boolean) :: TMW) ({ frames := 1, cells := 0, slots := 0, locals := 24 } : Room) (fun ad => [.ref (ad 1), .int x1]) v (f_X5_differ x1 v) :=
  tmMi.of (cc := cX5_differ) (nL := 3) (by decide +kernel) rfl tm_NWC_ok (fun _ => Nat.le_of_ble_eq_true rfl) (fun p e s m args below meth c A D cy ad z C0 => w_X5_differ C0 x1 v)
-- ----- X5_firstDifference
theorem dX5_firstDifference_0 : decode cX5_firstDifference 0 = .ok (.iload_n 1, 1) := by decide +kernel
theorem dX5_firstDifference_1 : decode cX5_firstDifference 1 = .ok (.invokestatic 44, 3) := by decide +kernel
theorem dX5_firstDifference_4 : decode cX5_firstDifference 4 = .ok (.istore_n 2, 1) := by decide +kernel
theorem dX5_firstDifference_5 : decode cX5_firstDifference 5 = .ok (.iload_n 2, 1) := by decide +kernel
theorem dX5_firstDifference_6 : decode cX5_firstDifference 6 = .ok (.iload_n 1, 1) := by decide +kernel
theorem dX5_firstDifference_7 : decode cX5_firstDifference 7 = .ok (.invokestatic 47, 3) := by decide +kernel
theorem dX5_firstDifference_10 : decode cX5_firstDifference 10 = .ok (.if_icmp .gt 19, 3) := by decide +kernel
theorem dX5_firstDifference_13 : decode cX5_firstDifference 13 = .ok (.aload_n 0, 1) := by decide +kernel
theorem dX5_firstDifference_14 : decode cX5_firstDifference 14 = .ok (.iload_n 2, 1) := by decide +kernel
theorem dX5_firstDifference_15 : decode cX5_firstDifference 15 = .ok (.invokevirtual 50, 3) := by decide +kernel
theorem dX5_firstDifference_18 : decode cX5_firstDifference 18 = .ok (.ifCond .eq 5, 3) := by decide +kernel
theorem dX5_firstDifference_21 : decode cX5_firstDifference 21 = .ok (.iload_n 2, 1) := by decide +kernel
theorem dX5_firstDifference_22 : decode cX5_firstDifference 22 = .ok (.ireturn, 1) := by decide +kernel
theorem dX5_firstDifference_23 : decode cX5_firstDifference 23 = .ok (.iinc 2 1, 3) := by decide +kernel
theorem dX5_firstDifference_26 : decode cX5_firstDifference 26 = .ok (.goto (-21), 3) := by decide +kernel
theorem dX5_firstDifference_29 : decode cX5_firstDifference 29 = .ok (.iconst (-1), 1) := by decide +kernel
theorem dX5_firstDifference_30 : decode cX5_firstDifference 30 = .ok (.ireturn, 1) := by decide +kernel
theorem tc_X7_firstKey : Cond.code yX7_firstKey cX7_firstKey 1 (some .int) ∈ TMW := tm_in 642 (by decide +kernel) (by decide +kernel)
theorem tst_X7_firstKey : Cond.static yX7_firstKey ∈ TMW := tm_in 641 (by decide +kernel) (by decide +kernel)
theorem tc_X7_lastKey : Cond.code yX7_lastKey cX7_lastKey 1 (some .int) ∈ TMW := tm_in 645 (by decide +kernel) (by decide +kernel)
theorem tst_X7_lastKey : Cond.static yX7_lastKey ∈ TMW := tm_in 644 (by decide +kernel) (by decide +kernel)
theorem tl_X5_50 : Cond.methodLink RX5 50 yX5_differ ∈ TMW := tm_in 686 (by decide +kernel) (by decide +kernel)
theorem ti_X5_differ : Cond.instanceMethod yX5_differ ∈ TMW := tm_in 687 (by decide +kernel) (by decide +kernel)
theorem ts_X5_differ : Cond.selects RX5 yX5_differ yX5_differ ∈ TMW := tm_in 688 (by decide +kernel) (by decide +kernel)
theorem tc_X5_differ : Cond.code yX5_differ cX5_differ 3 (some .boolean) ∈ TMW := tm_in 689 (by decide +kernel) (by decide +kernel)
def f_X5_firstDifference_5b (K0 : tmM → Option (Int32 × tmM)) (L : Int32 → Int32 → tmM → Option (Int32 × tmM)) (x1 x2 : Int32) (v : tmM) : Option (Int32 × tmM) := tm_cl (f_X7_lastKey x1 v) fun r4 v3 => (if r4 < x2 then K0 v3 else tm_cl (f_X5_differ x2 v3) fun r6 v5 => (if r6 = 0 then L x1 (x2 + 1) v5 else some (x2, v5)))
set_option maxRecDepth 100000 in
set_option maxHeartbeats 4000000 in
theorem w_X5_firstDifference_5b {p : Program} {l : Launch} {e : Env} {s : State} {m : MethodId} {args : Array Value} {below : List Frame} {meth : Method} {c : Code} {D : va_G} {cy : Nat → ClassId} {ad : Nat → Nat} {A : Nat → Prop} {z : (Int32 × tmM)} {K0 : tmM → Option (Int32 × tmM)} {L : Int32 → Int32 → tmM → Option (Int32 × tmM)} (C0 : tmC p s m args meth c cX5_firstDifference 3 (some .int) RX5 TMW tm_NWC D cy tm_shC ad 256 [] A) (hK0 : ∀ (w : tmM), tmG p l e ({ frames := 2, cells := 0, slots := 0, locals := 46 } : Room) s m args below meth c 0 0 (MQ below (va_Qi (fun r u => z = (r, u)) (tmAt tm_shC 256 D cy ad A) A) args s 0 0 A) 3 D cy tm_shC ad 256 [] A z 29 [] [] w (K0 w)) (hL : ∀ (a1 a2 : Int32) (w : tmM), tmG p l e ({ frames := 2, cells := 0, slots := 0, locals := 46 } : Room) s m args below meth c 0 0 (MQ below (va_Qi (fun r u => z = (r, u)) (tmAt tm_shC 256 D cy ad A) A) args s 0 0 A) 3 D cy tm_shC ad 256 [] A z 5 [(0, .ref (ad 1)), (1, .int a1), (2, .int a2)] [] w (L a1 a2 w)) (x1 x2 : Int32) (v : tmM) : tmG p l e ({ frames := 2, cells := 0, slots := 0, locals := 46 } : Room) s m args below meth c 0 0 (MQ below (va_Qi (fun r u => z = (r, u)) (tmAt tm_shC 256 D cy ad A) A) args s 0 0 A) 3 D cy tm_shC ad 256 [] A z 5 [(0, .ref (ad 1)), (1, .int x1), (2, .int x2)] [] v (f_X5_firstDifference_5b K0 L x1 x2 v) := by
  unfold f_X5_firstDifference_5b
  refine tg_iload_n 2 C0 dX5_firstDifference_5 rfl rfl ?_
  refine tg_iload_n 1 C0 dX5_firstDifference_6 rfl rfl ?_
  refine tg_callSNi (As := [.int x1]) 1 C0 dX5_firstDifference_7 (c_X7_lastKey l x1 v) rfl rfl (tm_gc tc_X7_lastKey) tm_nwC_X5_47 tn_X7 tst_X7_lastKey rfl rfl rfl rfl (by decide +kernel) ⟨by decide, by decide⟩ (Nat.le_of_ble_eq_true rfl) ⟨by decide, by decide⟩ (fun r4 v3 _ => ?_)
  refine tg_icmp_gt 29 C0 dX5_firstDifference_10 (by decide) (fun _ => ?_) (fun _ => ?_)
  · refine tg_sub [] rfl ?_
    exact hK0 v3
  · refine tg_aload_n 0 C0 dX5_firstDifference_13 rfl rfl ?_
    refine tg_iload_n 2 C0 dX5_firstDifference_14 rfl rfl ?_
    refine tg_callVi (As := [.int x2]) 1 1 C0 dX5_firstDifference_15 (c_X5_differ l x2 v3) rfl rfl (by decide) rfl rfl (tm_gV tl_X5_50 ti_X5_differ ts_X5_differ tn_X5 tc_X5_differ)  rfl rfl rfl rfl (by decide +kernel) ⟨by decide, by decide⟩ (Nat.le_of_ble_eq_true rfl) ⟨by decide, by decide⟩ (fun r6 v5 _ => ?_)
    refine tg_if_eq 23 C0 dX5_firstDifference_18 (by decide) (fun _ => ?_) (fun _ => ?_)
    · refine tg_iinc [(2, .int (x2 + 1)), (0, .ref (ad 1)), (1, .int x1)] 2 C0 dX5_firstDifference_23 rfl rfl (by decide) rfl ?_
      refine tg_goto 5 C0 dX5_firstDifference_26 (by decide) ?_
      refine tg_sub [1, 2, 0] rfl ?_
      exact hL x1 (x2 + 1) v5
    · refine tg_iload_n 2 C0 dX5_firstDifference_21 rfl rfl ?_
      exact tg_iret C0 dX5_firstDifference_22
def f_X5_firstDifference_5 (K0 : tmM → Option (Int32 × tmM)) : Nat → Int32 → Int32 → tmM → Option (Int32 × tmM)
  | 0 => fun _ _ _ => none
  | n + 1 => f_X5_firstDifference_5b K0 (f_X5_firstDifference_5 K0 n)
theorem w_X5_firstDifference_5 {p : Program} {l : Launch} {e : Env} {s : State} {m : MethodId} {args : Array Value} {below : List Frame} {meth : Method} {c : Code} {D : va_G} {cy : Nat → ClassId} {ad : Nat → Nat} {A : Nat → Prop} {z : (Int32 × tmM)} {K0 : tmM → Option (Int32 × tmM)} (C0 : tmC p s m args meth c cX5_firstDifference 3 (some .int) RX5 TMW tm_NWC D cy tm_shC ad 256 [] A) (hK0 : ∀ (w : tmM), tmG p l e ({ frames := 2, cells := 0, slots := 0, locals := 46 } : Room) s m args below meth c 0 0 (MQ below (va_Qi (fun r u => z = (r, u)) (tmAt tm_shC 256 D cy ad A) A) args s 0 0 A) 3 D cy tm_shC ad 256 [] A z 29 [] [] w (K0 w)) (nn : Nat) : ∀ (x1 x2 : Int32) (v : tmM), tmG p l e ({ frames := 2, cells := 0, slots := 0, locals := 46 } : Room) s m args below meth c 0 0 (MQ below (va_Qi (fun r u => z = (r, u)) (tmAt tm_shC 256 D cy ad A) A) args s 0 0 A) 3 D cy tm_shC ad 256 [] A z 5 [(0, .ref (ad 1)), (1, .int x1), (2, .int x2)] [] v (f_X5_firstDifference_5 K0 nn x1 x2 v) := by
  induction nn with
  | zero => intro _ _ _; exact tg_none
  | succ n ih => intro x1 x2 v; exact w_X5_firstDifference_5b C0 hK0 ih x1 x2 v
def f_X5_firstDifference (x1 : Int32) (v : tmM) : Option (Int32 × tmM) := tm_cl (f_X7_firstKey x1 v) fun r2 v1 => f_X5_firstDifference_5 (fun v7 => some ((-1), v7)) 10000 x1 r2 v1
set_option maxRecDepth 100000 in
set_option maxHeartbeats 4000000 in
theorem w_X5_firstDifference {p : Program} {l : Launch} {e : Env} {s : State} {m : MethodId} {args : Array Value} {below : List Frame} {meth : Method} {c : Code} {D : va_G} {cy : Nat → ClassId} {ad : Nat → Nat} {A : Nat → Prop} {z : (Int32 × tmM)} (C0 : tmC p s m args meth c cX5_firstDifference 3 (some .int) RX5 TMW tm_NWC D cy tm_shC ad 256 [] A) (x1 : Int32) (v : tmM) : tmG p l e ({ frames := 2, cells := 0, slots := 0, locals := 46 } : Room) s m args below meth c 0 0 (MQ below (va_Qi (fun r u => z = (r, u)) (tmAt tm_shC 256 D cy ad A) A) args s 0 0 A) 3 D cy tm_shC ad 256 [] A z 0 [(0, .ref (ad 1)), (1, .int x1)] [] v (f_X5_firstDifference x1 v) := by
  unfold f_X5_firstDifference
  refine tg_iload_n 1 C0 dX5_firstDifference_0 rfl rfl ?_
  refine tg_callSNi (As := [.int x1]) 1 C0 dX5_firstDifference_1 (c_X7_firstKey l x1 v) rfl rfl (tm_gc tc_X7_firstKey) tm_nwC_X5_44 tn_X7 tst_X7_firstKey rfl rfl rfl rfl (by decide +kernel) ⟨by decide, by decide⟩ (Nat.le_of_ble_eq_true rfl) ⟨by decide, by decide⟩ (fun r2 v1 _ => ?_)
  refine tg_istore_n [(2, .int r2), (0, .ref (ad 1)), (1, .int x1)] C0 dX5_firstDifference_4 rfl (by decide) rfl ?_
  refine tg_sub [1, 2, 0] rfl ?_
  refine w_X5_firstDifference_5 C0 (fun v7 => ?_) 10000 x1 r2 v1
  refine tg_iconst (x := (-1)) C0 dX5_firstDifference_29 (by decide) ?_
  exact tg_iret C0 dX5_firstDifference_30
theorem c_X5_firstDifference (l : Launch) (x1 : Int32) (v : tmM) : tmMi tm_NWC tm_shC 256 l yX5_firstDifference (Cond.code yX5_firstDifference cX5_firstDifference 3 (some .int) :: TMW) ({ frames := 2, cells := 0, slots := 0, locals := 46 } : Room) (fun ad => [.ref (ad 1), .int x1]) v (f_X5_firstDifference x1 v) :=
  tmMi.of (cc := cX5_firstDifference) (nL := 3) (by decide +kernel) rfl tm_NWC_ok (fun _ => Nat.le_of_ble_eq_true rfl) (fun p e s m args below meth c A D cy ad z C0 => w_X5_firstDifference C0 x1 v)
-- ----- X5_sumOf
theorem dX5_sumOf_0 : decode cX5_sumOf 0 = .ok (.iconst 0, 1) := by decide +kernel
theorem dX5_sumOf_1 : decode cX5_sumOf 1 = .ok (.istore_n 3, 1) := by decide +kernel
theorem dX5_sumOf_2 : decode cX5_sumOf 2 = .ok (.iload_n 2, 1) := by decide +kernel
theorem dX5_sumOf_3 : decode cX5_sumOf 3 = .ok (.invokestatic 44, 3) := by decide +kernel
theorem dX5_sumOf_6 : decode cX5_sumOf 6 = .ok (.istore 4, 2) := by decide +kernel
theorem dX5_sumOf_8 : decode cX5_sumOf 8 = .ok (.iload 4, 2) := by decide +kernel
theorem dX5_sumOf_10 : decode cX5_sumOf 10 = .ok (.iload_n 2, 1) := by decide +kernel
theorem dX5_sumOf_11 : decode cX5_sumOf 11 = .ok (.invokestatic 47, 3) := by decide +kernel
theorem dX5_sumOf_14 : decode cX5_sumOf 14 = .ok (.if_icmp .gt 49, 3) := by decide +kernel
theorem dX5_sumOf_17 : decode cX5_sumOf 17 = .ok (.aload_n 0, 1) := by decide +kernel
theorem dX5_sumOf_18 : decode cX5_sumOf 18 = .ok (.iload_n 1, 1) := by decide +kernel
theorem dX5_sumOf_19 : decode cX5_sumOf 19 = .ok (.iload 4, 2) := by decide +kernel
theorem dX5_sumOf_21 : decode cX5_sumOf 21 = .ok (.invokevirtual 40, 3) := by decide +kernel
theorem dX5_sumOf_24 : decode cX5_sumOf 24 = .ok (.istore 5, 2) := by decide +kernel
theorem dX5_sumOf_26 : decode cX5_sumOf 26 = .ok (.iload 5, 2) := by decide +kernel
theorem dX5_sumOf_28 : decode cX5_sumOf 28 = .ok (.iconst (-1), 1) := by decide +kernel
theorem dX5_sumOf_29 : decode cX5_sumOf 29 = .ok (.if_icmp .eq 28, 3) := by decide +kernel
theorem dX5_sumOf_32 : decode cX5_sumOf 32 = .ok (.iload_n 3, 1) := by decide +kernel
theorem dX5_sumOf_33 : decode cX5_sumOf 33 = .ok (.iload 4, 2) := by decide +kernel
theorem dX5_sumOf_35 : decode cX5_sumOf 35 = .ok (.iconst 1, 1) := by decide +kernel
theorem dX5_sumOf_36 : decode cX5_sumOf 36 = .ok (.iadd, 1) := by decide +kernel
theorem dX5_sumOf_37 : decode cX5_sumOf 37 = .ok (.iload 5, 2) := by decide +kernel
theorem dX5_sumOf_39 : decode cX5_sumOf 39 = .ok (.bipush (-3), 2) := by decide +kernel
theorem dX5_sumOf_41 : decode cX5_sumOf 41 = .ok (.if_icmp .ne 9, 3) := by decide +kernel
theorem dX5_sumOf_44 : decode cX5_sumOf 44 = .ok (.sipush 1000, 3) := by decide +kernel
theorem dX5_sumOf_47 : decode cX5_sumOf 47 = .ok (.goto 5, 3) := by decide +kernel
theorem dX5_sumOf_50 : decode cX5_sumOf 50 = .ok (.iload 5, 2) := by decide +kernel
theorem dX5_sumOf_52 : decode cX5_sumOf 52 = .ok (.iconst 1, 1) := by decide +kernel
theorem dX5_sumOf_53 : decode cX5_sumOf 53 = .ok (.iadd, 1) := by decide +kernel
theorem dX5_sumOf_54 : decode cX5_sumOf 54 = .ok (.imul, 1) := by decide +kernel
theorem dX5_sumOf_55 : decode cX5_sumOf 55 = .ok (.iadd, 1) := by decide +kernel
theorem dX5_sumOf_56 : decode cX5_sumOf 56 = .ok (.istore_n 3, 1) := by decide +kernel
theorem dX5_sumOf_57 : decode cX5_sumOf 57 = .ok (.iinc 4 1, 3) := by decide +kernel
theorem dX5_sumOf_60 : decode cX5_sumOf 60 = .ok (.goto (-52), 3) := by decide +kernel
theorem dX5_sumOf_63 : decode cX5_sumOf 63 = .ok (.iload_n 3, 1) := by decide +kernel
theorem dX5_sumOf_64 : decode cX5_sumOf 64 = .ok (.ireturn, 1) := by decide +kernel
def f_X5_sumOf_57 (K0 : Int32 → tmM → Option (Int32 × tmM)) (L : Int32 → Int32 → Int32 → Int32 → tmM → Option (Int32 × tmM)) (x1 x2 x3 x4 : Int32) (v : tmM) : Option (Int32 × tmM) := L x1 x2 x3 (x4 + 1) v
set_option maxRecDepth 100000 in
set_option maxHeartbeats 4000000 in
theorem w_X5_sumOf_57 {p : Program} {l : Launch} {e : Env} {s : State} {m : MethodId} {args : Array Value} {below : List Frame} {meth : Method} {c : Code} {D : va_G} {cy : Nat → ClassId} {ad : Nat → Nat} {A : Nat → Prop} {z : (Int32 × tmM)} {K0 : Int32 → tmM → Option (Int32 × tmM)} {L : Int32 → Int32 → Int32 → Int32 → tmM → Option (Int32 × tmM)} (C0 : tmC p s m args meth c cX5_sumOf 6 (some .int) RX5 TMW tm_NWC D cy tm_shC ad 256 [] A) (hK0 : ∀ (a3 : Int32) (w : tmM), tmG p l e ({ frames := 1, cells := 0, slots := 0, locals := 24 } : Room) s m args below meth c 0 0 (MQ below (va_Qi (fun r u => z = (r, u)) (tmAt tm_shC 256 D cy ad A) A) args s 0 0 A) 6 D cy tm_shC ad 256 [] A z 63 [(3, .int a3)] [] w (K0 a3 w)) (hL : ∀ (a1 a2 a3 a4 : Int32) (w : tmM), tmG p l e ({ frames := 1, cells := 0, slots := 0, locals := 24 } : Room) s m args below meth c 0 0 (MQ below (va_Qi (fun r u => z = (r, u)) (tmAt tm_shC 256 D cy ad A) A) args s 0 0 A) 6 D cy tm_shC ad 256 [] A z 8 [(0, .ref (ad 1)), (1, .int a1), (2, .int a2), (3, .int a3), (4, .int a4)] [] w (L a1 a2 a3 a4 w)) (x1 x2 x3 x4 : Int32) (v : tmM) : tmG p l e ({ frames := 1, cells := 0, slots := 0, locals := 24 } : Room) s m args below meth c 0 0 (MQ below (va_Qi (fun r u => z = (r, u)) (tmAt tm_shC 256 D cy ad A) A) args s 0 0 A) 6 D cy tm_shC ad 256 [] A z 57 [(0, .ref (ad 1)), (1, .int x1), (2, .int x2), (3, .int x3), (4, .int x4)] [] v (f_X5_sumOf_57 K0 L x1 x2 x3 x4 v) := by
  unfold f_X5_sumOf_57
  refine tg_iinc [(4, .int (x4 + 1)), (0, .ref (ad 1)), (1, .int x1), (2, .int x2), (3, .int x3)] 4 C0 dX5_sumOf_57 rfl rfl (by decide) rfl ?_
  refine tg_goto 8 C0 dX5_sumOf_60 (by decide) ?_
  refine tg_sub [1, 2, 3, 4, 0] rfl ?_
  exact hL x1 x2 x3 (x4 + 1) v
def f_X5_sumOf_52 (K0 : Int32 → tmM → Option (Int32 × tmM)) (L : Int32 → Int32 → Int32 → Int32 → tmM → Option (Int32 × tmM)) (x1 x2 x4 s0 s1 s2 : Int32) (v : tmM) : Option (Int32 × tmM) := tm_lt (s2 + (s1 * (s0 + 1))) fun y7 => f_X5_sumOf_57 K0 L x1 x2 y7 x4 v
set_option maxRecDepth 100000 in
set_option maxHeartbeats 4000000 in
theorem w_X5_sumOf_52 {p : Program} {l : Launch} {e : Env} {s : State} {m : MethodId} {args : Array Value} {below : List Frame} {meth : Method} {c : Code} {D : va_G} {cy : Nat → ClassId} {ad : Nat → Nat} {A : Nat → Prop} {z : (Int32 × tmM)} {K0 : Int32 → tmM → Option (Int32 × tmM)} {L : Int32 → Int32 → Int32 → Int32 → tmM → Option (Int32 × tmM)} (C0 : tmC p s m args meth c cX5_sumOf 6 (some .int) RX5 TMW tm_NWC D cy tm_shC ad 256 [] A) (hK0 : ∀ (a3 : Int32) (w : tmM), tmG p l e ({ frames := 1, cells := 0, slots := 0, locals := 24 } : Room) s m args below meth c 0 0 (MQ below (va_Qi (fun r u => z = (r, u)) (tmAt tm_shC 256 D cy ad A) A) args s 0 0 A) 6 D cy tm_shC ad 256 [] A z 63 [(3, .int a3)] [] w (K0 a3 w)) (hL : ∀ (a1 a2 a3 a4 : Int32) (w : tmM), tmG p l e ({ frames := 1, cells := 0, slots := 0, locals := 24 } : Room) s m args below meth c 0 0 (MQ below (va_Qi (fun r u => z = (r, u)) (tmAt tm_shC 256 D cy ad A) A) args s 0 0 A) 6 D cy tm_shC ad 256 [] A z 8 [(0, .ref (ad 1)), (1, .int a1), (2, .int a2), (3, .int a3), (4, .int a4)] [] w (L a1 a2 a3 a4 w)) (x1 x2 x4 s0 s1 s2 : Int32) (v : tmM) : tmG p l e ({ frames := 1, cells := 0, slots := 0, locals := 24 } : Room) s m args below meth c 0 0 (MQ below (va_Qi (fun r u => z = (r, u)) (tmAt tm_shC 256 D cy ad A) A) args s 0 0 A) 6 D cy tm_shC ad 256 [] A z 52 [(0, .ref (ad 1)), (1, .int x1), (2, .int x2), (4, .int x4)] [.int s0, .int s1, .int s2] v (f_X5_sumOf_52 K0 L x1 x2 x4 s0 s1 s2 v) := by
  unfold f_X5_sumOf_52
  refine tg_iconst (x := 1) C0 dX5_sumOf_52 (by decide) ?_
  refine tg_iadd C0 dX5_sumOf_53 ?_
  refine tg_imul C0 dX5_sumOf_54 ?_
  refine tg_iadd C0 dX5_sumOf_55 ?_
  refine tg_leti (fun y7 _ => ?_)
  refine tg_istore_n [(3, .int y7), (0, .ref (ad 1)), (1, .int x1), (2, .int x2), (4, .int x4)] C0 dX5_sumOf_56 rfl (by decide) rfl ?_
  refine tg_sub [1, 2, 3, 0, 4] rfl ?_
  exact w_X5_sumOf_57 C0 hK0 hL x1 x2 y7 x4 v
def f_X5_sumOf_8b (K0 : Int32 → tmM → Option (Int32 × tmM)) (L : Int32 → Int32 → Int32 → Int32 → tmM → Option (Int32 × tmM)) (x1 x2 x3 x4 : Int32) (v : tmM) : Option (Int32 × tmM) := tm_cl (f_X7_lastKey x2 v) fun r4 v3 => (if r4 < x4 then K0 x3 v3 else tm_cl (f_X5_valueAt x1 x4 v3) fun r6 v5 => (if r6 = (-1) then f_X5_sumOf_57 K0 L x1 x2 x3 x4 v5 else (if r6 = (-3) then f_X5_sumOf_52 K0 L x1 x2 x4 1000 (x4 + 1) x3 v5 else f_X5_sumOf_52 K0 L x1 x2 x4 r6 (x4 + 1) x3 v5)))
set_option maxRecDepth 100000 in
set_option maxHeartbeats 4000000 in
theorem w_X5_sumOf_8b {p : Program} {l : Launch} {e : Env} {s : State} {m : MethodId} {args : Array Value} {below : List Frame} {meth : Method} {c : Code} {D : va_G} {cy : Nat → ClassId} {ad : Nat → Nat} {A : Nat → Prop} {z : (Int32 × tmM)} {K0 : Int32 → tmM → Option (Int32 × tmM)} {L : Int32 → Int32 → Int32 → Int32 → tmM → Option (Int32 × tmM)} (C0 : tmC p s m args meth c cX5_sumOf 6 (some .int) RX5 TMW tm_NWC D cy tm_shC ad 256 [] A) (hK0 : ∀ (a3 : Int32) (w : tmM), tmG p l e ({ frames := 1, cells := 0, slots := 0, locals := 24 } : Room) s m args below meth c 0 0 (MQ below (va_Qi (fun r u => z = (r, u)) (tmAt tm_shC 256 D cy ad A) A) args s 0 0 A) 6 D cy tm_shC ad 256 [] A z 63 [(3, .int a3)] [] w (K0 a3 w)) (hL : ∀ (a1 a2 a3 a4 : Int32) (w : tmM), tmG p l e ({ frames := 1, cells := 0, slots := 0, locals := 24 } : Room) s m args below meth c 0 0 (MQ below (va_Qi (fun r u => z = (r, u)) (tmAt tm_shC 256 D cy ad A) A) args s 0 0 A) 6 D cy tm_shC ad 256 [] A z 8 [(0, .ref (ad 1)), (1, .int a1), (2, .int a2), (3, .int a3), (4, .int a4)] [] w (L a1 a2 a3 a4 w)) (x1 x2 x3 x4 : Int32) (v : tmM) : tmG p l e ({ frames := 1, cells := 0, slots := 0, locals := 24 } : Room) s m args below meth c 0 0 (MQ below (va_Qi (fun r u => z = (r, u)) (tmAt tm_shC 256 D cy ad A) A) args s 0 0 A) 6 D cy tm_shC ad 256 [] A z 8 [(0, .ref (ad 1)), (1, .int x1), (2, .int x2), (3, .int x3), (4, .int x4)] [] v (f_X5_sumOf_8b K0 L x1 x2 x3 x4 v) := by
  unfold f_X5_sumOf_8b
  refine tg_iload 4 C0 dX5_sumOf_8 rfl ?_
  refine tg_iload_n 2 C0 dX5_sumOf_10 rfl rfl ?_
  refine tg_callSNi (As := [.int x2]) 1 C0 dX5_sumOf_11 (c_X7_lastKey l x2 v) rfl rfl (tm_gc tc_X7_lastKey) tm_nwC_X5_47 tn_X7 tst_X7_lastKey rfl rfl rfl rfl (by decide +kernel) ⟨by decide, by decide⟩ (Nat.le_of_ble_eq_true rfl) ⟨by decide, by decide⟩ (fun r4 v3 _ => ?_)
  refine tg_icmp_gt 63 C0 dX5_sumOf_14 (by decide) (fun _ => ?_) (fun _ => ?_)
  · refine tg_sub [3] rfl ?_
    exact hK0 x3 v3
  · refine tg_aload_n 0 C0 dX5_sumOf_17 rfl rfl ?_
    refine tg_iload_n 1 C0 dX5_sumOf_18 rfl rfl ?_
    refine tg_iload 4 C0 dX5_sumOf_19 rfl ?_
    refine tg_callVi (As := [.int x1, .int x4]) 1 2 C0 dX5_sumOf_21 (c_X5_valueAt l x1 x4 v3) rfl rfl (by decide) rfl rfl (tm_gV tl_X5_40 ti_X5_valueAt ts_X5_valueAt tn_X5 tc_X5_valueAt)  rfl rfl rfl rfl (by decide +kernel) ⟨by decide, by decide⟩ (Nat.le_of_ble_eq_true rfl) ⟨by decide, by decide⟩ (fun r6 v5 _ => ?_)
    refine tg_istore [(5, .int r6), (0, .ref (ad 1)), (1, .int x1), (2, .int x2), (3, .int x3), (4, .int x4)] C0 dX5_sumOf_24 (by decide) rfl ?_
    refine tg_iload 0 C0 dX5_sumOf_26 rfl ?_
    refine tg_iconst (x := (-1)) C0 dX5_sumOf_28 (by decide) ?_
    refine tg_icmp_eq 57 C0 dX5_sumOf_29 (by decide) (fun _ => ?_) (fun _ => ?_)
    · refine tg_sub [1, 2, 3, 4, 5] rfl ?_
      exact w_X5_sumOf_57 C0 hK0 hL x1 x2 x3 x4 v5
    · refine tg_iload_n 4 C0 dX5_sumOf_32 rfl rfl ?_
      refine tg_iload 5 C0 dX5_sumOf_33 rfl ?_
      refine tg_iconst (x := 1) C0 dX5_sumOf_35 (by decide) ?_
      refine tg_iadd C0 dX5_sumOf_36 ?_
      refine tg_iload 0 C0 dX5_sumOf_37 rfl ?_
      refine tg_bipush (x := (-3)) C0 dX5_sumOf_39 (by decide) ?_
      refine tg_icmp_ne 50 C0 dX5_sumOf_41 (by decide) (fun _ => ?_) (fun _ => ?_)
      · refine tg_iload 0 C0 dX5_sumOf_50 rfl ?_
        refine tg_sub [1, 2, 3, 5] rfl ?_
        exact w_X5_sumOf_52 C0 hK0 hL x1 x2 x4 r6 (x4 + 1) x3 v5
      · refine tg_sipush (x := 1000) C0 dX5_sumOf_44 (by decide) ?_
        refine tg_goto 52 C0 dX5_sumOf_47 (by decide) ?_
        refine tg_sub [1, 2, 3, 5] rfl ?_
        exact w_X5_sumOf_52 C0 hK0 hL x1 x2 x4 1000 (x4 + 1) x3 v5
def f_X5_sumOf_8 (K0 : Int32 → tmM → Option (Int32 × tmM)) : Nat → Int32 → Int32 → Int32 → Int32 → tmM → Option (Int32 × tmM)
  | 0 => fun _ _ _ _ _ => none
  | n + 1 => f_X5_sumOf_8b K0 (f_X5_sumOf_8 K0 n)
theorem w_X5_sumOf_8 {p : Program} {l : Launch} {e : Env} {s : State} {m : MethodId} {args : Array Value} {below : List Frame} {meth : Method} {c : Code} {D : va_G} {cy : Nat → ClassId} {ad : Nat → Nat} {A : Nat → Prop} {z : (Int32 × tmM)} {K0 : Int32 → tmM → Option (Int32 × tmM)} (C0 : tmC p s m args meth c cX5_sumOf 6 (some .int) RX5 TMW tm_NWC D cy tm_shC ad 256 [] A) (hK0 : ∀ (a3 : Int32) (w : tmM), tmG p l e ({ frames := 1, cells := 0, slots := 0, locals := 24 } : Room) s m args below meth c 0 0 (MQ below (va_Qi (fun r u => z = (r, u)) (tmAt tm_shC 256 D cy ad A) A) args s 0 0 A) 6 D cy tm_shC ad 256 [] A z 63 [(3, .int a3)] [] w (K0 a3 w)) (nn : Nat) : ∀ (x1 x2 x3 x4 : Int32) (v : tmM), tmG p l e ({ frames := 1, cells := 0, slots := 0, locals := 24 } : Room) s m args below meth c 0 0 (MQ below (va_Qi (fun r u => z = (r, u)) (tmAt tm_shC 256 D cy ad A) A) args s 0 0 A) 6 D cy tm_shC ad 256 [] A z 8 [(0, .ref (ad 1)), (1, .int x1), (2, .int x2), (3, .int x3), (4, .int x4)] [] v (f_X5_sumOf_8 K0 nn x1 x2 x3 x4 v) := by
  induction nn with
  | zero => intro _ _ _ _ _; exact tg_none
  | succ n ih => intro x1 x2 x3 x4 v; exact w_X5_sumOf_8b C0 hK0 ih x1 x2 x3 x4 v
def f_X5_sumOf (x1 x2 : Int32) (v : tmM) : Option (Int32 × tmM) := tm_cl (f_X7_firstKey x2 v) fun r2 v1 => f_X5_sumOf_8 (fun x8 v9 => some (x8, v9)) 10000 x1 x2 0 r2 v1
set_option maxRecDepth 100000 in
set_option maxHeartbeats 4000000 in
theorem w_X5_sumOf {p : Program} {l : Launch} {e : Env} {s : State} {m : MethodId} {args : Array Value} {below : List Frame} {meth : Method} {c : Code} {D : va_G} {cy : Nat → ClassId} {ad : Nat → Nat} {A : Nat → Prop} {z : (Int32 × tmM)} (C0 : tmC p s m args meth c cX5_sumOf 6 (some .int) RX5 TMW tm_NWC D cy tm_shC ad 256 [] A) (x1 x2 : Int32) (v : tmM) : tmG p l e ({ frames := 1, cells := 0, slots := 0, locals := 24 } : Room) s m args below meth c 0 0 (MQ below (va_Qi (fun r u => z = (r, u)) (tmAt tm_shC 256 D cy ad A) A) args s 0 0 A) 6 D cy tm_shC ad 256 [] A z 0 [(0, .ref (ad 1)), (1, .int x1), (2, .int x2)] [] v (f_X5_sumOf x1 x2 v) := by
  unfold f_X5_sumOf
  refine tg_iconst (x := 0) C0 dX5_sumOf_0 (by decide) ?_
  refine tg_istore_n [(3, .int 0), (0, .ref (ad 1)), (1, .int x1), (2, .int x2)] C0 dX5_sumOf_1 rfl (by decide) rfl ?_
  refine tg_iload_n 3 C0 dX5_sumOf_2 rfl rfl ?_
  refine tg_callSNi (As := [.int x2]) 1 C0 dX5_sumOf_3 (c_X7_firstKey l x2 v) rfl rfl (tm_gc tc_X7_firstKey) tm_nwC_X5_44 tn_X7 tst_X7_firstKey rfl rfl rfl rfl (by decide +kernel) ⟨by decide, by decide⟩ (Nat.le_of_ble_eq_true rfl) ⟨by decide, by decide⟩ (fun r2 v1 _ => ?_)
  refine tg_istore [(4, .int r2), (3, .int 0), (0, .ref (ad 1)), (1, .int x1), (2, .int x2)] C0 dX5_sumOf_6 (by decide) rfl ?_
  refine tg_sub [2, 3, 4, 1, 0] rfl ?_
  refine w_X5_sumOf_8 C0 (fun x8 v9 => ?_) 10000 x1 x2 0 r2 v1
  refine tg_iload_n 0 C0 dX5_sumOf_63 rfl rfl ?_
  exact tg_iret C0 dX5_sumOf_64
theorem c_X5_sumOf (l : Launch) (x1 x2 : Int32) (v : tmM) : tmMi tm_NWC tm_shC 256 l yX5_sumOf (Cond.code yX5_sumOf cX5_sumOf 6 (some .int) :: TMW) ({ frames := 1, cells := 0, slots := 0, locals := 24 } : Room) (fun ad => [.ref (ad 1), .int x1, .int x2]) v (f_X5_sumOf x1 x2 v) :=
  tmMi.of (cc := cX5_sumOf) (nL := 6) (by decide +kernel) rfl tm_NWC_ok (fun _ => Nat.le_of_ble_eq_true rfl) (fun p e s m args below meth c A D cy ad z C0 => w_X5_sumOf C0 x1 x2 v)
-- ----- X5_someSumsDiffer
theorem dX5_someSumsDiffer_0 : decode cX5_someSumsDiffer 0 = .ok (.iconst 0, 1) := by decide +kernel
theorem dX5_someSumsDiffer_1 : decode cX5_someSumsDiffer 1 = .ok (.istore_n 1, 1) := by decide +kernel
theorem dX5_someSumsDiffer_2 : decode cX5_someSumsDiffer 2 = .ok (.iload_n 1, 1) := by decide +kernel
theorem dX5_someSumsDiffer_3 : decode cX5_someSumsDiffer 3 = .ok (.bipush 15, 2) := by decide +kernel
theorem dX5_someSumsDiffer_5 : decode cX5_someSumsDiffer 5 = .ok (.if_icmp .ge 26, 3) := by decide +kernel
theorem dX5_someSumsDiffer_8 : decode cX5_someSumsDiffer 8 = .ok (.aload_n 0, 1) := by decide +kernel
theorem dX5_someSumsDiffer_9 : decode cX5_someSumsDiffer 9 = .ok (.iconst 0, 1) := by decide +kernel
theorem dX5_someSumsDiffer_10 : decode cX5_someSumsDiffer 10 = .ok (.iload_n 1, 1) := by decide +kernel
theorem dX5_someSumsDiffer_11 : decode cX5_someSumsDiffer 11 = .ok (.invokevirtual 54, 3) := by decide +kernel
theorem dX5_someSumsDiffer_14 : decode cX5_someSumsDiffer 14 = .ok (.aload_n 0, 1) := by decide +kernel
theorem dX5_someSumsDiffer_15 : decode cX5_someSumsDiffer 15 = .ok (.iconst 1, 1) := by decide +kernel
theorem dX5_someSumsDiffer_16 : decode cX5_someSumsDiffer 16 = .ok (.iload_n 1, 1) := by decide +kernel
theorem dX5_someSumsDiffer_17 : decode cX5_someSumsDiffer 17 = .ok (.invokevirtual 54, 3) := by decide +kernel
theorem dX5_someSumsDiffer_20 : decode cX5_someSumsDiffer 20 = .ok (.if_icmp .eq 5, 3) := by decide +kernel
theorem dX5_someSumsDiffer_23 : decode cX5_someSumsDiffer 23 = .ok (.iconst 1, 1) := by decide +kernel
theorem dX5_someSumsDiffer_24 : decode cX5_someSumsDiffer 24 = .ok (.ireturn, 1) := by decide +kernel
theorem dX5_someSumsDiffer_25 : decode cX5_someSumsDiffer 25 = .ok (.iinc 1 1, 3) := by decide +kernel
theorem dX5_someSumsDiffer_28 : decode cX5_someSumsDiffer 28 = .ok (.goto (-26), 3) := by decide +kernel
theorem dX5_someSumsDiffer_31 : decode cX5_someSumsDiffer 31 = .ok (.iconst 0, 1) := by decide +kernel
theorem dX5_someSumsDiffer_32 : decode cX5_someSumsDiffer 32 = .ok (.ireturn, 1) := by decide +kernel
theorem tl_X5_54 : Cond.methodLink RX5 54 yX5_sumOf ∈ TMW := tm_in 636 (by decide +kernel) (by decide +kernel)
theorem ti_X5_sumOf : Cond.instanceMethod yX5_sumOf ∈ TMW := tm_in 637 (by decide +kernel) (by decide +kernel)
theorem ts_X5_sumOf : Cond.selects RX5 yX5_sumOf yX5_sumOf ∈ TMW := tm_in 638 (by decide +kernel) (by decide +kernel)
theorem tc_X5_sumOf : Cond.code yX5_sumOf cX5_sumOf 6 (some .int) ∈ TMW := tm_in 639 (by decide +kernel) (by decide +kernel)
def f_X5_someSumsDiffer_2b (K0 : tmM → Option (Int32 × tmM)) (L : Int32 → tmM → Option (Int32 × tmM)) (x1 : Int32) (v : tmM) : Option (Int32 × tmM) := (if 15 ≤ x1 then K0 v else tm_cl (f_X5_sumOf 0 x1 v) fun r2 v1 => tm_cl (f_X5_sumOf 1 x1 v1) fun r4 v3 => (if r2 = r4 then L (x1 + 1) v3 else some (1, v3)))
set_option maxRecDepth 100000 in
set_option maxHeartbeats 4000000 in
theorem w_X5_someSumsDiffer_2b {p : Program} {l : Launch} {e : Env} {s : State} {m : MethodId} {args : Array Value} {below : List Frame} {meth : Method} {c : Code} {D : va_G} {cy : Nat → ClassId} {ad : Nat → Nat} {A : Nat → Prop} {z : (Int32 × tmM)} {K0 : tmM → Option (Int32 × tmM)} {L : Int32 → tmM → Option (Int32 × tmM)} (C0 : tmC p s m args meth c cX5_someSumsDiffer 2 (some .boolean) RX5 TMW tm_NWC D cy tm_shC ad 256 [] A) (hK0 : ∀ (w : tmM), tmG p l e ({ frames := 2, cells := 0, slots := 0, locals := 49 } : Room) s m args below meth c 0 0 (MQ below (va_Qi (fun r u => z = (r, u)) (tmAt tm_shC 256 D cy ad A) A) args s 0 0 A) 2 D cy tm_shC ad 256 [] A z 31 [] [] w (K0 w)) (hL : ∀ (a1 : Int32) (w : tmM), tmG p l e ({ frames := 2, cells := 0, slots := 0, locals := 49 } : Room) s m args below meth c 0 0 (MQ below (va_Qi (fun r u => z = (r, u)) (tmAt tm_shC 256 D cy ad A) A) args s 0 0 A) 2 D cy tm_shC ad 256 [] A z 2 [(0, .ref (ad 1)), (1, .int a1)] [] w (L a1 w)) (x1 : Int32) (v : tmM) : tmG p l e ({ frames := 2, cells := 0, slots := 0, locals := 49 } : Room) s m args below meth c 0 0 (MQ below (va_Qi (fun r u => z = (r, u)) (tmAt tm_shC 256 D cy ad A) A) args s 0 0 A) 2 D cy tm_shC ad 256 [] A z 2 [(0, .ref (ad 1)), (1, .int x1)] [] v (f_X5_someSumsDiffer_2b K0 L x1 v) := by
  unfold f_X5_someSumsDiffer_2b
  refine tg_iload_n 1 C0 dX5_someSumsDiffer_2 rfl rfl ?_
  refine tg_bipush (x := 15) C0 dX5_someSumsDiffer_3 (by decide) ?_
  refine tg_icmp_ge 31 C0 dX5_someSumsDiffer_5 (by decide) (fun _ => ?_) (fun _ => ?_)
  · refine tg_sub [] rfl ?_
    exact hK0 v
  · refine tg_aload_n 0 C0 dX5_someSumsDiffer_8 rfl rfl ?_
    refine tg_iconst (x := 0) C0 dX5_someSumsDiffer_9 (by decide) ?_
    refine tg_iload_n 1 C0 dX5_someSumsDiffer_10 rfl rfl ?_
    refine tg_callVi (As := [.int 0, .int x1]) 1 2 C0 dX5_someSumsDiffer_11 (c_X5_sumOf l 0 x1 v) rfl rfl (by decide) rfl rfl (tm_gV tl_X5_54 ti_X5_sumOf ts_X5_sumOf tn_X5 tc_X5_sumOf)  rfl rfl rfl rfl (by decide +kernel) ⟨by decide, by decide⟩ (Nat.le_of_ble_eq_true rfl) ⟨by decide, by decide⟩ (fun r2 v1 _ => ?_)
    refine tg_aload_n 0 C0 dX5_someSumsDiffer_14 rfl rfl ?_
    refine tg_iconst (x := 1) C0 dX5_someSumsDiffer_15 (by decide) ?_
    refine tg_iload_n 1 C0 dX5_someSumsDiffer_16 rfl rfl ?_
    refine tg_callVi (As := [.int 1, .int x1]) 1 2 C0 dX5_someSumsDiffer_17 (c_X5_sumOf l 1 x1 v1) rfl rfl (by decide) rfl rfl (tm_gV tl_X5_54 ti_X5_sumOf ts_X5_sumOf tn_X5 tc_X5_sumOf)  rfl rfl rfl rfl (by decide +kernel) ⟨by decide, by decide⟩ (Nat.le_of_ble_eq_true rfl) ⟨by decide, by decide⟩ (fun r4 v3 _ => ?_)
    refine tg_icmp_eq 25 C0 dX5_someSumsDiffer_20 (by decide) (fun _ => ?_) (fun _ => ?_)
    · refine tg_iinc [(1, .int (x1 + 1)), (0, .ref (ad 1))] 1 C0 dX5_someSumsDiffer_25 rfl rfl (by decide) rfl ?_
      refine tg_goto 2 C0 dX5_someSumsDiffer_28 (by decide) ?_
      refine tg_sub [1, 0] rfl ?_
      exact hL (x1 + 1) v3
    · refine tg_iconst (x := 1) C0 dX5_someSumsDiffer_23 (by decide) ?_
      exact tg_zret C0 dX5_someSumsDiffer_24 rfl
def f_X5_someSumsDiffer_2 (K0 : tmM → Option (Int32 × tmM)) : Nat → Int32 → tmM → Option (Int32 × tmM)
  | 0 => fun _ _ => none
  | n + 1 => f_X5_someSumsDiffer_2b K0 (f_X5_someSumsDiffer_2 K0 n)
theorem w_X5_someSumsDiffer_2 {p : Program} {l : Launch} {e : Env} {s : State} {m : MethodId} {args : Array Value} {below : List Frame} {meth : Method} {c : Code} {D : va_G} {cy : Nat → ClassId} {ad : Nat → Nat} {A : Nat → Prop} {z : (Int32 × tmM)} {K0 : tmM → Option (Int32 × tmM)} (C0 : tmC p s m args meth c cX5_someSumsDiffer 2 (some .boolean) RX5 TMW tm_NWC D cy tm_shC ad 256 [] A) (hK0 : ∀ (w : tmM), tmG p l e ({ frames := 2, cells := 0, slots := 0, locals := 49 } : Room) s m args below meth c 0 0 (MQ below (va_Qi (fun r u => z = (r, u)) (tmAt tm_shC 256 D cy ad A) A) args s 0 0 A) 2 D cy tm_shC ad 256 [] A z 31 [] [] w (K0 w)) (nn : Nat) : ∀ (x1 : Int32) (v : tmM), tmG p l e ({ frames := 2, cells := 0, slots := 0, locals := 49 } : Room) s m args below meth c 0 0 (MQ below (va_Qi (fun r u => z = (r, u)) (tmAt tm_shC 256 D cy ad A) A) args s 0 0 A) 2 D cy tm_shC ad 256 [] A z 2 [(0, .ref (ad 1)), (1, .int x1)] [] v (f_X5_someSumsDiffer_2 K0 nn x1 v) := by
  induction nn with
  | zero => intro _ _; exact tg_none
  | succ n ih => intro x1 v; exact w_X5_someSumsDiffer_2b C0 hK0 ih x1 v
def f_X5_someSumsDiffer (v : tmM) : Option (Int32 × tmM) := f_X5_someSumsDiffer_2 (fun v5 => some (0, v5)) 10000 0 v
set_option maxRecDepth 100000 in
set_option maxHeartbeats 4000000 in
theorem w_X5_someSumsDiffer {p : Program} {l : Launch} {e : Env} {s : State} {m : MethodId} {args : Array Value} {below : List Frame} {meth : Method} {c : Code} {D : va_G} {cy : Nat → ClassId} {ad : Nat → Nat} {A : Nat → Prop} {z : (Int32 × tmM)} (C0 : tmC p s m args meth c cX5_someSumsDiffer 2 (some .boolean) RX5 TMW tm_NWC D cy tm_shC ad 256 [] A) (v : tmM) : tmG p l e ({ frames := 2, cells := 0, slots := 0, locals := 49 } : Room) s m args below meth c 0 0 (MQ below (va_Qi (fun r u => z = (r, u)) (tmAt tm_shC 256 D cy ad A) A) args s 0 0 A) 2 D cy tm_shC ad 256 [] A z 0 [(0, .ref (ad 1))] [] v (f_X5_someSumsDiffer v) := by
  unfold f_X5_someSumsDiffer
  refine tg_iconst (x := 0) C0 dX5_someSumsDiffer_0 (by decide) ?_
  refine tg_istore_n [(1, .int 0), (0, .ref (ad 1))] C0 dX5_someSumsDiffer_1 rfl (by decide) rfl ?_
  refine tg_sub [1, 0] rfl ?_
  refine w_X5_someSumsDiffer_2 C0 (fun v5 => ?_) 10000 0 v
  refine tg_iconst (x := 0) C0 dX5_someSumsDiffer_31 (by decide) ?_
  exact tg_zret C0 dX5_someSumsDiffer_32 rfl
theorem c_X5_someSumsDiffer (l : Launch) (v : tmM) : tmMi tm_NWC tm_shC 256 l yX5_someSumsDiffer (Cond.code yX5_someSumsDiffer cX5_someSumsDiffer 2 (some .boolean) :: TMW) ({ frames := 2, cells := 0, slots := 0, locals := 49 } : Room) (fun ad => [.ref (ad 1)]) v (f_X5_someSumsDiffer v) :=
  tmMi.of (cc := cX5_someSumsDiffer) (nL := 2) (by decide +kernel) rfl tm_NWC_ok (fun _ => Nat.le_of_ble_eq_true rfl) (fun p e s m args below meth c A D cy ad z C0 => w_X5_someSumsDiffer C0 v)
-- ----- X5_rowsOf
theorem dX5_rowsOf_0 : decode cX5_rowsOf 0 = .ok (.iconst 0, 1) := by decide +kernel
theorem dX5_rowsOf_1 : decode cX5_rowsOf 1 = .ok (.istore_n 2, 1) := by decide +kernel
theorem dX5_rowsOf_2 : decode cX5_rowsOf 2 = .ok (.iconst 0, 1) := by decide +kernel
theorem dX5_rowsOf_3 : decode cX5_rowsOf 3 = .ok (.istore_n 3, 1) := by decide +kernel
theorem dX5_rowsOf_4 : decode cX5_rowsOf 4 = .ok (.iload_n 3, 1) := by decide +kernel
theorem dX5_rowsOf_5 : decode cX5_rowsOf 5 = .ok (.bipush 60, 2) := by decide +kernel
theorem dX5_rowsOf_7 : decode cX5_rowsOf 7 = .ok (.if_icmp .ge 29, 3) := by decide +kernel
theorem dX5_rowsOf_10 : decode cX5_rowsOf 10 = .ok (.iload_n 2, 1) := by decide +kernel
theorem dX5_rowsOf_11 : decode cX5_rowsOf 11 = .ok (.aload_n 0, 1) := by decide +kernel
theorem dX5_rowsOf_12 : decode cX5_rowsOf 12 = .ok (.getfield 17, 3) := by decide +kernel
theorem dX5_rowsOf_15 : decode cX5_rowsOf 15 = .ok (.iload_n 1, 1) := by decide +kernel
theorem dX5_rowsOf_16 : decode cX5_rowsOf 16 = .ok (.aaload, 1) := by decide +kernel
theorem dX5_rowsOf_17 : decode cX5_rowsOf 17 = .ok (.iload_n 3, 1) := by decide +kernel
theorem dX5_rowsOf_18 : decode cX5_rowsOf 18 = .ok (.iaload, 1) := by decide +kernel
theorem dX5_rowsOf_19 : decode cX5_rowsOf 19 = .ok (.iconst (-1), 1) := by decide +kernel
theorem dX5_rowsOf_20 : decode cX5_rowsOf 20 = .ok (.if_icmp .ne 7, 3) := by decide +kernel
theorem dX5_rowsOf_23 : decode cX5_rowsOf 23 = .ok (.iconst 0, 1) := by decide +kernel
theorem dX5_rowsOf_24 : decode cX5_rowsOf 24 = .ok (.goto 4, 3) := by decide +kernel
theorem dX5_rowsOf_27 : decode cX5_rowsOf 27 = .ok (.iconst 1, 1) := by decide +kernel
theorem dX5_rowsOf_28 : decode cX5_rowsOf 28 = .ok (.iadd, 1) := by decide +kernel
theorem dX5_rowsOf_29 : decode cX5_rowsOf 29 = .ok (.istore_n 2, 1) := by decide +kernel
theorem dX5_rowsOf_30 : decode cX5_rowsOf 30 = .ok (.iinc 3 1, 3) := by decide +kernel
theorem dX5_rowsOf_33 : decode cX5_rowsOf 33 = .ok (.goto (-29), 3) := by decide +kernel
theorem dX5_rowsOf_36 : decode cX5_rowsOf 36 = .ok (.iload_n 2, 1) := by decide +kernel
theorem dX5_rowsOf_37 : decode cX5_rowsOf 37 = .ok (.ireturn, 1) := by decide +kernel
def f_X5_rowsOf_28 (K0 : Int32 → tmM → Option (Int32 × tmM)) (L : Int32 → Int32 → Int32 → tmM → Option (Int32 × tmM)) (x1 x3 s0 s1 : Int32) (v : tmM) : Option (Int32 × tmM) := tm_lt (s1 + s0) fun y4 => L x1 y4 (x3 + 1) v
set_option maxRecDepth 100000 in
set_option maxHeartbeats 4000000 in
theorem w_X5_rowsOf_28 {p : Program} {l : Launch} {e : Env} {s : State} {m : MethodId} {args : Array Value} {below : List Frame} {meth : Method} {c : Code} {D : va_G} {cy : Nat → ClassId} {ad : Nat → Nat} {A : Nat → Prop} {z : (Int32 × tmM)} {K0 : Int32 → tmM → Option (Int32 × tmM)} {L : Int32 → Int32 → Int32 → tmM → Option (Int32 × tmM)} (C0 : tmC p s m args meth c cX5_rowsOf 4 (some .int) RX5 TMW tm_NWC D cy tm_shC ad 256 [] A) (hK0 : ∀ (a2 : Int32) (w : tmM), tmG p l e ({ frames := 0, cells := 0, slots := 0, locals := 0 } : Room) s m args below meth c 0 0 (MQ below (va_Qi (fun r u => z = (r, u)) (tmAt tm_shC 256 D cy ad A) A) args s 0 0 A) 4 D cy tm_shC ad 256 [] A z 36 [(2, .int a2)] [] w (K0 a2 w)) (hL : ∀ (a1 a2 a3 : Int32) (w : tmM), tmG p l e ({ frames := 0, cells := 0, slots := 0, locals := 0 } : Room) s m args below meth c 0 0 (MQ below (va_Qi (fun r u => z = (r, u)) (tmAt tm_shC 256 D cy ad A) A) args s 0 0 A) 4 D cy tm_shC ad 256 [] A z 4 [(0, .ref (ad 1)), (1, .int a1), (2, .int a2), (3, .int a3)] [] w (L a1 a2 a3 w)) (x1 x3 s0 s1 : Int32) (v : tmM) : tmG p l e ({ frames := 0, cells := 0, slots := 0, locals := 0 } : Room) s m args below meth c 0 0 (MQ below (va_Qi (fun r u => z = (r, u)) (tmAt tm_shC 256 D cy ad A) A) args s 0 0 A) 4 D cy tm_shC ad 256 [] A z 28 [(0, .ref (ad 1)), (1, .int x1), (3, .int x3)] [.int s0, .int s1] v (f_X5_rowsOf_28 K0 L x1 x3 s0 s1 v) := by
  unfold f_X5_rowsOf_28
  refine tg_iadd C0 dX5_rowsOf_28 ?_
  refine tg_leti (fun y4 _ => ?_)
  refine tg_istore_n [(2, .int y4), (0, .ref (ad 1)), (1, .int x1), (3, .int x3)] C0 dX5_rowsOf_29 rfl (by decide) rfl ?_
  refine tg_iinc [(3, .int (x3 + 1)), (2, .int y4), (0, .ref (ad 1)), (1, .int x1)] 3 C0 dX5_rowsOf_30 rfl rfl (by decide) rfl ?_
  refine tg_goto 4 C0 dX5_rowsOf_33 (by decide) ?_
  refine tg_sub [2, 3, 1, 0] rfl ?_
  exact hL x1 y4 (x3 + 1) v
def f_X5_rowsOf_4b (K0 : Int32 → tmM → Option (Int32 × tmM)) (L : Int32 → Int32 → Int32 → tmM → Option (Int32 × tmM)) (x1 x2 x3 : Int32) (v : tmM) : Option (Int32 × tmM) := (if 60 ≤ x3 then K0 x2 v else tm_g (tm_ix x1 2) (tm_lt (([3, 4] : List Nat).getD x1.toNatClampNeg 0) fun q2 => tm_g (tm_ix x3 60) ((if (v q2 x3.toNatClampNeg) = (-1) then f_X5_rowsOf_28 K0 L x1 x3 0 x2 v else f_X5_rowsOf_28 K0 L x1 x3 1 x2 v))))
set_option maxRecDepth 100000 in
set_option maxHeartbeats 4000000 in
theorem w_X5_rowsOf_4b {p : Program} {l : Launch} {e : Env} {s : State} {m : MethodId} {args : Array Value} {below : List Frame} {meth : Method} {c : Code} {D : va_G} {cy : Nat → ClassId} {ad : Nat → Nat} {A : Nat → Prop} {z : (Int32 × tmM)} {K0 : Int32 → tmM → Option (Int32 × tmM)} {L : Int32 → Int32 → Int32 → tmM → Option (Int32 × tmM)} (C0 : tmC p s m args meth c cX5_rowsOf 4 (some .int) RX5 TMW tm_NWC D cy tm_shC ad 256 [] A) (hK0 : ∀ (a2 : Int32) (w : tmM), tmG p l e ({ frames := 0, cells := 0, slots := 0, locals := 0 } : Room) s m args below meth c 0 0 (MQ below (va_Qi (fun r u => z = (r, u)) (tmAt tm_shC 256 D cy ad A) A) args s 0 0 A) 4 D cy tm_shC ad 256 [] A z 36 [(2, .int a2)] [] w (K0 a2 w)) (hL : ∀ (a1 a2 a3 : Int32) (w : tmM), tmG p l e ({ frames := 0, cells := 0, slots := 0, locals := 0 } : Room) s m args below meth c 0 0 (MQ below (va_Qi (fun r u => z = (r, u)) (tmAt tm_shC 256 D cy ad A) A) args s 0 0 A) 4 D cy tm_shC ad 256 [] A z 4 [(0, .ref (ad 1)), (1, .int a1), (2, .int a2), (3, .int a3)] [] w (L a1 a2 a3 w)) (x1 x2 x3 : Int32) (v : tmM) : tmG p l e ({ frames := 0, cells := 0, slots := 0, locals := 0 } : Room) s m args below meth c 0 0 (MQ below (va_Qi (fun r u => z = (r, u)) (tmAt tm_shC 256 D cy ad A) A) args s 0 0 A) 4 D cy tm_shC ad 256 [] A z 4 [(0, .ref (ad 1)), (1, .int x1), (2, .int x2), (3, .int x3)] [] v (f_X5_rowsOf_4b K0 L x1 x2 x3 v) := by
  unfold f_X5_rowsOf_4b
  refine tg_iload_n 3 C0 dX5_rowsOf_4 rfl rfl ?_
  refine tg_bipush (x := 60) C0 dX5_rowsOf_5 (by decide) ?_
  refine tg_icmp_ge 36 C0 dX5_rowsOf_7 (by decide) (fun _ => ?_) (fun _ => ?_)
  · refine tg_sub [2] rfl ?_
    exact hK0 x2 v
  · refine tg_iload_n 2 C0 dX5_rowsOf_10 rfl rfl ?_
    refine tg_aload_n 0 C0 dX5_rowsOf_11 rfl rfl ?_
    refine tg_get 1 2 C0 dX5_rowsOf_12 (by decide) rfl rfl tu_X5 (by decide) tf_X5_17 rfl rfl rfl ?_
    refine tg_iload_n 1 C0 dX5_rowsOf_15 rfl rfl ?_
    refine tg_aald 2 C0 dX5_rowsOf_16 (by decide) rfl (by decide) rfl (fun q2 h1 e3 => ?_)
    have q2f := tm_all (P := fun r => tm_shC r = .inl (0, 60) ∧ r < 256) h1 e3 (by decide +kernel)
    refine tg_iload_n 3 C0 dX5_rowsOf_17 rfl rfl ?_
    refine tg_iald q2 C0 dX5_rowsOf_18 q2f.2 q2f.1 (fun _ => ?_)
    refine tg_iconst (x := (-1)) C0 dX5_rowsOf_19 (by decide) ?_
    refine tg_icmp_ne 27 C0 dX5_rowsOf_20 (by decide) (fun _ => ?_) (fun _ => ?_)
    · refine tg_iconst (x := 1) C0 dX5_rowsOf_27 (by decide) ?_
      refine tg_sub [0, 1, 3] rfl ?_
      exact w_X5_rowsOf_28 C0 hK0 hL x1 x3 1 x2 v
    · refine tg_iconst (x := 0) C0 dX5_rowsOf_23 (by decide) ?_
      refine tg_goto 28 C0 dX5_rowsOf_24 (by decide) ?_
      refine tg_sub [0, 1, 3] rfl ?_
      exact w_X5_rowsOf_28 C0 hK0 hL x1 x3 0 x2 v
def f_X5_rowsOf_4 (K0 : Int32 → tmM → Option (Int32 × tmM)) : Nat → Int32 → Int32 → Int32 → tmM → Option (Int32 × tmM)
  | 0 => fun _ _ _ _ => none
  | n + 1 => f_X5_rowsOf_4b K0 (f_X5_rowsOf_4 K0 n)
theorem w_X5_rowsOf_4 {p : Program} {l : Launch} {e : Env} {s : State} {m : MethodId} {args : Array Value} {below : List Frame} {meth : Method} {c : Code} {D : va_G} {cy : Nat → ClassId} {ad : Nat → Nat} {A : Nat → Prop} {z : (Int32 × tmM)} {K0 : Int32 → tmM → Option (Int32 × tmM)} (C0 : tmC p s m args meth c cX5_rowsOf 4 (some .int) RX5 TMW tm_NWC D cy tm_shC ad 256 [] A) (hK0 : ∀ (a2 : Int32) (w : tmM), tmG p l e ({ frames := 0, cells := 0, slots := 0, locals := 0 } : Room) s m args below meth c 0 0 (MQ below (va_Qi (fun r u => z = (r, u)) (tmAt tm_shC 256 D cy ad A) A) args s 0 0 A) 4 D cy tm_shC ad 256 [] A z 36 [(2, .int a2)] [] w (K0 a2 w)) (nn : Nat) : ∀ (x1 x2 x3 : Int32) (v : tmM), tmG p l e ({ frames := 0, cells := 0, slots := 0, locals := 0 } : Room) s m args below meth c 0 0 (MQ below (va_Qi (fun r u => z = (r, u)) (tmAt tm_shC 256 D cy ad A) A) args s 0 0 A) 4 D cy tm_shC ad 256 [] A z 4 [(0, .ref (ad 1)), (1, .int x1), (2, .int x2), (3, .int x3)] [] v (f_X5_rowsOf_4 K0 nn x1 x2 x3 v) := by
  induction nn with
  | zero => intro _ _ _ _; exact tg_none
  | succ n ih => intro x1 x2 x3 v; exact w_X5_rowsOf_4b C0 hK0 ih x1 x2 x3 v
def f_X5_rowsOf (x1 : Int32) (v : tmM) : Option (Int32 × tmM) := f_X5_rowsOf_4 (fun x5 v6 => some (x5, v6)) 10000 x1 0 0 v
set_option maxRecDepth 100000 in
set_option maxHeartbeats 4000000 in
theorem w_X5_rowsOf {p : Program} {l : Launch} {e : Env} {s : State} {m : MethodId} {args : Array Value} {below : List Frame} {meth : Method} {c : Code} {D : va_G} {cy : Nat → ClassId} {ad : Nat → Nat} {A : Nat → Prop} {z : (Int32 × tmM)} (C0 : tmC p s m args meth c cX5_rowsOf 4 (some .int) RX5 TMW tm_NWC D cy tm_shC ad 256 [] A) (x1 : Int32) (v : tmM) : tmG p l e ({ frames := 0, cells := 0, slots := 0, locals := 0 } : Room) s m args below meth c 0 0 (MQ below (va_Qi (fun r u => z = (r, u)) (tmAt tm_shC 256 D cy ad A) A) args s 0 0 A) 4 D cy tm_shC ad 256 [] A z 0 [(0, .ref (ad 1)), (1, .int x1)] [] v (f_X5_rowsOf x1 v) := by
  unfold f_X5_rowsOf
  refine tg_iconst (x := 0) C0 dX5_rowsOf_0 (by decide) ?_
  refine tg_istore_n [(2, .int 0), (0, .ref (ad 1)), (1, .int x1)] C0 dX5_rowsOf_1 rfl (by decide) rfl ?_
  refine tg_iconst (x := 0) C0 dX5_rowsOf_2 (by decide) ?_
  refine tg_istore_n [(3, .int 0), (2, .int 0), (0, .ref (ad 1)), (1, .int x1)] C0 dX5_rowsOf_3 rfl (by decide) rfl ?_
  refine tg_sub [2, 3, 1, 0] rfl ?_
  refine w_X5_rowsOf_4 C0 (fun x5 v6 => ?_) 10000 x1 0 0 v
  refine tg_iload_n 0 C0 dX5_rowsOf_36 rfl rfl ?_
  exact tg_iret C0 dX5_rowsOf_37
theorem c_X5_rowsOf (l : Launch) (x1 : Int32) (v : tmM) : tmMi tm_NWC tm_shC 256 l yX5_rowsOf (Cond.code yX5_rowsOf cX5_rowsOf 4 (some .int) :: TMW) ({ frames := 0, cells := 0, slots := 0, locals := 0 } : Room) (fun ad => [.ref (ad 1), .int x1]) v (f_X5_rowsOf x1 v) :=
  tmMi.of (cc := cX5_rowsOf) (nL := 4) (by decide +kernel) rfl tm_NWC_ok (fun _ => Nat.le_of_ble_eq_true rfl) (fun p e s m args below meth c A D cy ad z C0 => w_X5_rowsOf C0 x1 v)
-- ----- X5_brokenCells
theorem dX5_brokenCells_0 : decode cX5_brokenCells 0 = .ok (.iconst 0, 1) := by decide +kernel
theorem dX5_brokenCells_1 : decode cX5_brokenCells 1 = .ok (.istore_n 2, 1) := by decide +kernel
theorem dX5_brokenCells_2 : decode cX5_brokenCells 2 = .ok (.iconst 0, 1) := by decide +kernel
theorem dX5_brokenCells_3 : decode cX5_brokenCells 3 = .ok (.istore_n 3, 1) := by decide +kernel
theorem dX5_brokenCells_4 : decode cX5_brokenCells 4 = .ok (.iload_n 3, 1) := by decide +kernel
theorem dX5_brokenCells_5 : decode cX5_brokenCells 5 = .ok (.bipush 60, 2) := by decide +kernel
theorem dX5_brokenCells_7 : decode cX5_brokenCells 7 = .ok (.if_icmp .ge 28, 3) := by decide +kernel
theorem dX5_brokenCells_10 : decode cX5_brokenCells 10 = .ok (.iload_n 2, 1) := by decide +kernel
theorem dX5_brokenCells_11 : decode cX5_brokenCells 11 = .ok (.aload_n 0, 1) := by decide +kernel
theorem dX5_brokenCells_12 : decode cX5_brokenCells 12 = .ok (.iload_n 1, 1) := by decide +kernel
theorem dX5_brokenCells_13 : decode cX5_brokenCells 13 = .ok (.iload_n 3, 1) := by decide +kernel
theorem dX5_brokenCells_14 : decode cX5_brokenCells 14 = .ok (.invokevirtual 40, 3) := by decide +kernel
theorem dX5_brokenCells_17 : decode cX5_brokenCells 17 = .ok (.bipush (-3), 2) := by decide +kernel
theorem dX5_brokenCells_19 : decode cX5_brokenCells 19 = .ok (.if_icmp .ne 7, 3) := by decide +kernel
theorem dX5_brokenCells_22 : decode cX5_brokenCells 22 = .ok (.iconst 1, 1) := by decide +kernel
theorem dX5_brokenCells_23 : decode cX5_brokenCells 23 = .ok (.goto 4, 3) := by decide +kernel
theorem dX5_brokenCells_26 : decode cX5_brokenCells 26 = .ok (.iconst 0, 1) := by decide +kernel
theorem dX5_brokenCells_27 : decode cX5_brokenCells 27 = .ok (.iadd, 1) := by decide +kernel
theorem dX5_brokenCells_28 : decode cX5_brokenCells 28 = .ok (.istore_n 2, 1) := by decide +kernel
theorem dX5_brokenCells_29 : decode cX5_brokenCells 29 = .ok (.iinc 3 1, 3) := by decide +kernel
theorem dX5_brokenCells_32 : decode cX5_brokenCells 32 = .ok (.goto (-28), 3) := by decide +kernel
theorem dX5_brokenCells_35 : decode cX5_brokenCells 35 = .ok (.iload_n 2, 1) := by decide +kernel
theorem dX5_brokenCells_36 : decode cX5_brokenCells 36 = .ok (.ireturn, 1) := by decide +kernel
def f_X5_brokenCells_27 (K0 : Int32 → tmM → Option (Int32 × tmM)) (L : Int32 → Int32 → Int32 → tmM → Option (Int32 × tmM)) (x1 x3 s0 s1 : Int32) (v : tmM) : Option (Int32 × tmM) := tm_lt (s1 + s0) fun y3 => L x1 y3 (x3 + 1) v
set_option maxRecDepth 100000 in
set_option maxHeartbeats 4000000 in
theorem w_X5_brokenCells_27 {p : Program} {l : Launch} {e : Env} {s : State} {m : MethodId} {args : Array Value} {below : List Frame} {meth : Method} {c : Code} {D : va_G} {cy : Nat → ClassId} {ad : Nat → Nat} {A : Nat → Prop} {z : (Int32 × tmM)} {K0 : Int32 → tmM → Option (Int32 × tmM)} {L : Int32 → Int32 → Int32 → tmM → Option (Int32 × tmM)} (C0 : tmC p s m args meth c cX5_brokenCells 4 (some .int) RX5 TMW tm_NWC D cy tm_shC ad 256 [] A) (hK0 : ∀ (a2 : Int32) (w : tmM), tmG p l e ({ frames := 1, cells := 0, slots := 0, locals := 24 } : Room) s m args below meth c 0 0 (MQ below (va_Qi (fun r u => z = (r, u)) (tmAt tm_shC 256 D cy ad A) A) args s 0 0 A) 4 D cy tm_shC ad 256 [] A z 35 [(2, .int a2)] [] w (K0 a2 w)) (hL : ∀ (a1 a2 a3 : Int32) (w : tmM), tmG p l e ({ frames := 1, cells := 0, slots := 0, locals := 24 } : Room) s m args below meth c 0 0 (MQ below (va_Qi (fun r u => z = (r, u)) (tmAt tm_shC 256 D cy ad A) A) args s 0 0 A) 4 D cy tm_shC ad 256 [] A z 4 [(0, .ref (ad 1)), (1, .int a1), (2, .int a2), (3, .int a3)] [] w (L a1 a2 a3 w)) (x1 x3 s0 s1 : Int32) (v : tmM) : tmG p l e ({ frames := 1, cells := 0, slots := 0, locals := 24 } : Room) s m args below meth c 0 0 (MQ below (va_Qi (fun r u => z = (r, u)) (tmAt tm_shC 256 D cy ad A) A) args s 0 0 A) 4 D cy tm_shC ad 256 [] A z 27 [(0, .ref (ad 1)), (1, .int x1), (3, .int x3)] [.int s0, .int s1] v (f_X5_brokenCells_27 K0 L x1 x3 s0 s1 v) := by
  unfold f_X5_brokenCells_27
  refine tg_iadd C0 dX5_brokenCells_27 ?_
  refine tg_leti (fun y3 _ => ?_)
  refine tg_istore_n [(2, .int y3), (0, .ref (ad 1)), (1, .int x1), (3, .int x3)] C0 dX5_brokenCells_28 rfl (by decide) rfl ?_
  refine tg_iinc [(3, .int (x3 + 1)), (2, .int y3), (0, .ref (ad 1)), (1, .int x1)] 3 C0 dX5_brokenCells_29 rfl rfl (by decide) rfl ?_
  refine tg_goto 4 C0 dX5_brokenCells_32 (by decide) ?_
  refine tg_sub [2, 3, 1, 0] rfl ?_
  exact hL x1 y3 (x3 + 1) v
def f_X5_brokenCells_4b (K0 : Int32 → tmM → Option (Int32 × tmM)) (L : Int32 → Int32 → Int32 → tmM → Option (Int32 × tmM)) (x1 x2 x3 : Int32) (v : tmM) : Option (Int32 × tmM) := (if 60 ≤ x3 then K0 x2 v else tm_cl (f_X5_valueAt x1 x3 v) fun r2 v1 => (if r2 = (-3) then f_X5_brokenCells_27 K0 L x1 x3 1 x2 v1 else f_X5_brokenCells_27 K0 L x1 x3 0 x2 v1))
set_option maxRecDepth 100000 in
set_option maxHeartbeats 4000000 in
theorem w_X5_brokenCells_4b {p : Program} {l : Launch} {e : Env} {s : State} {m : MethodId} {args : Array Value} {below : List Frame} {meth : Method} {c : Code} {D : va_G} {cy : Nat → ClassId} {ad : Nat → Nat} {A : Nat → Prop} {z : (Int32 × tmM)} {K0 : Int32 → tmM → Option (Int32 × tmM)} {L : Int32 → Int32 → Int32 → tmM → Option (Int32 × tmM)} (C0 : tmC p s m args meth c cX5_brokenCells 4 (some .int) RX5 TMW tm_NWC D cy tm_shC ad 256 [] A) (hK0 : ∀ (a2 : Int32) (w : tmM), tmG p l e ({ frames := 1, cells := 0, slots := 0, locals := 24 } : Room) s m args below meth c 0 0 (MQ below (va_Qi (fun r u => z = (r, u)) (tmAt tm_shC 256 D cy ad A) A) args s 0 0 A) 4 D cy tm_shC ad 256 [] A z 35 [(2, .int a2)] [] w (K0 a2 w)) (hL : ∀ (a1 a2 a3 : Int32) (w : tmM), tmG p l e ({ frames := 1, cells := 0, slots := 0, locals := 24 } : Room) s m args below meth c 0 0 (MQ below (va_Qi (fun r u => z = (r, u)) (tmAt tm_shC 256 D cy ad A) A) args s 0 0 A) 4 D cy tm_shC ad 256 [] A z 4 [(0, .ref (ad 1)), (1, .int a1), (2, .int a2), (3, .int a3)] [] w (L a1 a2 a3 w)) (x1 x2 x3 : Int32) (v : tmM) : tmG p l e ({ frames := 1, cells := 0, slots := 0, locals := 24 } : Room) s m args below meth c 0 0 (MQ below (va_Qi (fun r u => z = (r, u)) (tmAt tm_shC 256 D cy ad A) A) args s 0 0 A) 4 D cy tm_shC ad 256 [] A z 4 [(0, .ref (ad 1)), (1, .int x1), (2, .int x2), (3, .int x3)] [] v (f_X5_brokenCells_4b K0 L x1 x2 x3 v) := by
  unfold f_X5_brokenCells_4b
  refine tg_iload_n 3 C0 dX5_brokenCells_4 rfl rfl ?_
  refine tg_bipush (x := 60) C0 dX5_brokenCells_5 (by decide) ?_
  refine tg_icmp_ge 35 C0 dX5_brokenCells_7 (by decide) (fun _ => ?_) (fun _ => ?_)
  · refine tg_sub [2] rfl ?_
    exact hK0 x2 v
  · refine tg_iload_n 2 C0 dX5_brokenCells_10 rfl rfl ?_
    refine tg_aload_n 0 C0 dX5_brokenCells_11 rfl rfl ?_
    refine tg_iload_n 1 C0 dX5_brokenCells_12 rfl rfl ?_
    refine tg_iload_n 3 C0 dX5_brokenCells_13 rfl rfl ?_
    refine tg_callVi (As := [.int x1, .int x3]) 1 2 C0 dX5_brokenCells_14 (c_X5_valueAt l x1 x3 v) rfl rfl (by decide) rfl rfl (tm_gV tl_X5_40 ti_X5_valueAt ts_X5_valueAt tn_X5 tc_X5_valueAt)  rfl rfl rfl rfl (by decide +kernel) ⟨by decide, by decide⟩ (Nat.le_of_ble_eq_true rfl) ⟨by decide, by decide⟩ (fun r2 v1 _ => ?_)
    refine tg_bipush (x := (-3)) C0 dX5_brokenCells_17 (by decide) ?_
    refine tg_icmp_ne 26 C0 dX5_brokenCells_19 (by decide) (fun _ => ?_) (fun _ => ?_)
    · refine tg_iconst (x := 0) C0 dX5_brokenCells_26 (by decide) ?_
      refine tg_sub [0, 1, 3] rfl ?_
      exact w_X5_brokenCells_27 C0 hK0 hL x1 x3 0 x2 v1
    · refine tg_iconst (x := 1) C0 dX5_brokenCells_22 (by decide) ?_
      refine tg_goto 27 C0 dX5_brokenCells_23 (by decide) ?_
      refine tg_sub [0, 1, 3] rfl ?_
      exact w_X5_brokenCells_27 C0 hK0 hL x1 x3 1 x2 v1
def f_X5_brokenCells_4 (K0 : Int32 → tmM → Option (Int32 × tmM)) : Nat → Int32 → Int32 → Int32 → tmM → Option (Int32 × tmM)
  | 0 => fun _ _ _ _ => none
  | n + 1 => f_X5_brokenCells_4b K0 (f_X5_brokenCells_4 K0 n)
theorem w_X5_brokenCells_4 {p : Program} {l : Launch} {e : Env} {s : State} {m : MethodId} {args : Array Value} {below : List Frame} {meth : Method} {c : Code} {D : va_G} {cy : Nat → ClassId} {ad : Nat → Nat} {A : Nat → Prop} {z : (Int32 × tmM)} {K0 : Int32 → tmM → Option (Int32 × tmM)} (C0 : tmC p s m args meth c cX5_brokenCells 4 (some .int) RX5 TMW tm_NWC D cy tm_shC ad 256 [] A) (hK0 : ∀ (a2 : Int32) (w : tmM), tmG p l e ({ frames := 1, cells := 0, slots := 0, locals := 24 } : Room) s m args below meth c 0 0 (MQ below (va_Qi (fun r u => z = (r, u)) (tmAt tm_shC 256 D cy ad A) A) args s 0 0 A) 4 D cy tm_shC ad 256 [] A z 35 [(2, .int a2)] [] w (K0 a2 w)) (nn : Nat) : ∀ (x1 x2 x3 : Int32) (v : tmM), tmG p l e ({ frames := 1, cells := 0, slots := 0, locals := 24 } : Room) s m args below meth c 0 0 (MQ below (va_Qi (fun r u => z = (r, u)) (tmAt tm_shC 256 D cy ad A) A) args s 0 0 A) 4 D cy tm_shC ad 256 [] A z 4 [(0, .ref (ad 1)), (1, .int x1), (2, .int x2), (3, .int x3)] [] v (f_X5_brokenCells_4 K0 nn x1 x2 x3 v) := by
  induction nn with
  | zero => intro _ _ _ _; exact tg_none
  | succ n ih => intro x1 x2 x3 v; exact w_X5_brokenCells_4b C0 hK0 ih x1 x2 x3 v
def f_X5_brokenCells (x1 : Int32) (v : tmM) : Option (Int32 × tmM) := f_X5_brokenCells_4 (fun x4 v5 => some (x4, v5)) 10000 x1 0 0 v
set_option maxRecDepth 100000 in
set_option maxHeartbeats 4000000 in
theorem w_X5_brokenCells {p : Program} {l : Launch} {e : Env} {s : State} {m : MethodId} {args : Array Value} {below : List Frame} {meth : Method} {c : Code} {D : va_G} {cy : Nat → ClassId} {ad : Nat → Nat} {A : Nat → Prop} {z : (Int32 × tmM)} (C0 : tmC p s m args meth c cX5_brokenCells 4 (some .int) RX5 TMW tm_NWC D cy tm_shC ad 256 [] A) (x1 : Int32) (v : tmM) : tmG p l e ({ frames := 1, cells := 0, slots := 0, locals := 24 } : Room) s m args below meth c 0 0 (MQ below (va_Qi (fun r u => z = (r, u)) (tmAt tm_shC 256 D cy ad A) A) args s 0 0 A) 4 D cy tm_shC ad 256 [] A z 0 [(0, .ref (ad 1)), (1, .int x1)] [] v (f_X5_brokenCells x1 v) := by
  unfold f_X5_brokenCells
  refine tg_iconst (x := 0) C0 dX5_brokenCells_0 (by decide) ?_
  refine tg_istore_n [(2, .int 0), (0, .ref (ad 1)), (1, .int x1)] C0 dX5_brokenCells_1 rfl (by decide) rfl ?_
  refine tg_iconst (x := 0) C0 dX5_brokenCells_2 (by decide) ?_
  refine tg_istore_n [(3, .int 0), (2, .int 0), (0, .ref (ad 1)), (1, .int x1)] C0 dX5_brokenCells_3 rfl (by decide) rfl ?_
  refine tg_sub [2, 3, 1, 0] rfl ?_
  refine w_X5_brokenCells_4 C0 (fun x4 v5 => ?_) 10000 x1 0 0 v
  refine tg_iload_n 0 C0 dX5_brokenCells_35 rfl rfl ?_
  exact tg_iret C0 dX5_brokenCells_36
theorem c_X5_brokenCells (l : Launch) (x1 : Int32) (v : tmM) : tmMi tm_NWC tm_shC 256 l yX5_brokenCells (Cond.code yX5_brokenCells cX5_brokenCells 4 (some .int) :: TMW) ({ frames := 1, cells := 0, slots := 0, locals := 24 } : Room) (fun ad => [.ref (ad 1), .int x1]) v (f_X5_brokenCells x1 v) :=
  tmMi.of (cc := cX5_brokenCells) (nL := 4) (by decide +kernel) rfl tm_NWC_ok (fun _ => Nat.le_of_ble_eq_true rfl) (fun p e s m args below meth c A D cy ad z C0 => w_X5_brokenCells C0 x1 v)
-- ----- X5_valueSum
theorem dX5_valueSum_0 : decode cX5_valueSum 0 = .ok (.iconst 0, 1) := by decide +kernel
theorem dX5_valueSum_1 : decode cX5_valueSum 1 = .ok (.istore 4, 2) := by decide +kernel
theorem dX5_valueSum_3 : decode cX5_valueSum 3 = .ok (.iload_n 2, 1) := by decide +kernel
theorem dX5_valueSum_4 : decode cX5_valueSum 4 = .ok (.istore 5, 2) := by decide +kernel
theorem dX5_valueSum_6 : decode cX5_valueSum 6 = .ok (.iload 5, 2) := by decide +kernel
theorem dX5_valueSum_8 : decode cX5_valueSum 8 = .ok (.iload_n 3, 1) := by decide +kernel
theorem dX5_valueSum_9 : decode cX5_valueSum 9 = .ok (.if_icmp .gt 25, 3) := by decide +kernel
theorem dX5_valueSum_12 : decode cX5_valueSum 12 = .ok (.iload 4, 2) := by decide +kernel
theorem dX5_valueSum_14 : decode cX5_valueSum 14 = .ok (.aload_n 0, 1) := by decide +kernel
theorem dX5_valueSum_15 : decode cX5_valueSum 15 = .ok (.iload_n 1, 1) := by decide +kernel
theorem dX5_valueSum_16 : decode cX5_valueSum 16 = .ok (.iload 5, 2) := by decide +kernel
theorem dX5_valueSum_18 : decode cX5_valueSum 18 = .ok (.invokevirtual 40, 3) := by decide +kernel
theorem dX5_valueSum_21 : decode cX5_valueSum 21 = .ok (.iconst 0, 1) := by decide +kernel
theorem dX5_valueSum_22 : decode cX5_valueSum 22 = .ok (.invokestatic 57, 3) := by decide +kernel
theorem dX5_valueSum_25 : decode cX5_valueSum 25 = .ok (.iadd, 1) := by decide +kernel
theorem dX5_valueSum_26 : decode cX5_valueSum 26 = .ok (.istore 4, 2) := by decide +kernel
theorem dX5_valueSum_28 : decode cX5_valueSum 28 = .ok (.iinc 5 1, 3) := by decide +kernel
theorem dX5_valueSum_31 : decode cX5_valueSum 31 = .ok (.goto (-25), 3) := by decide +kernel
theorem dX5_valueSum_34 : decode cX5_valueSum 34 = .ok (.iload 4, 2) := by decide +kernel
theorem dX5_valueSum_36 : decode cX5_valueSum 36 = .ok (.ireturn, 1) := by decide +kernel
theorem tl_X5_57 : Cond.methodLink RX5 57 Lib.Math.max.name ∈ TMW := tm_in 1191 (by decide +kernel) (by decide +kernel)
theorem tmmaxst : Cond.static Lib.Math.max.name ∈ TMW := tm_in 1192 (by decide +kernel) (by decide +kernel)
theorem tmmaxco : Cond.code Lib.Math.max.name Lib.Math.max.code 2 (some .int) ∈ TMW := tm_in 1193 (by decide +kernel) (by decide +kernel)
def f_X5_valueSum_6b (K0 : Int32 → tmM → Option (Int32 × tmM)) (L : Int32 → Int32 → Int32 → Int32 → tmM → Option (Int32 × tmM)) (x1 x3 x4 x5 : Int32) (v : tmM) : Option (Int32 × tmM) := (if x3 < x5 then K0 x4 v else tm_cl (f_X5_valueAt x1 x5 v) fun r2 v1 => tm_lt (x4 + (if r2 < 0 then 0 else r2)) fun y3 => L x1 x3 y3 (x5 + 1) v1)
set_option maxRecDepth 100000 in
set_option maxHeartbeats 4000000 in
theorem w_X5_valueSum_6b {p : Program} {l : Launch} {e : Env} {s : State} {m : MethodId} {args : Array Value} {below : List Frame} {meth : Method} {c : Code} {D : va_G} {cy : Nat → ClassId} {ad : Nat → Nat} {A : Nat → Prop} {z : (Int32 × tmM)} {K0 : Int32 → tmM → Option (Int32 × tmM)} {L : Int32 → Int32 → Int32 → Int32 → tmM → Option (Int32 × tmM)} (C0 : tmC p s m args meth c cX5_valueSum 6 (some .int) RX5 TMW tm_NWC D cy tm_shC ad 256 [] A) (hK0 : ∀ (a4 : Int32) (w : tmM), tmG p l e ({ frames := 1, cells := 0, slots := 0, locals := 40 } : Room) s m args below meth c 0 0 (MQ below (va_Qi (fun r u => z = (r, u)) (tmAt tm_shC 256 D cy ad A) A) args s 0 0 A) 6 D cy tm_shC ad 256 [] A z 34 [(4, .int a4)] [] w (K0 a4 w)) (hL : ∀ (a1 a3 a4 a5 : Int32) (w : tmM), tmG p l e ({ frames := 1, cells := 0, slots := 0, locals := 40 } : Room) s m args below meth c 0 0 (MQ below (va_Qi (fun r u => z = (r, u)) (tmAt tm_shC 256 D cy ad A) A) args s 0 0 A) 6 D cy tm_shC ad 256 [] A z 6 [(0, .ref (ad 1)), (1, .int a1), (3, .int a3), (4, .int a4), (5, .int a5)] [] w (L a1 a3 a4 a5 w)) (x1 x3 x4 x5 : Int32) (v : tmM) : tmG p l e ({ frames := 1, cells := 0, slots := 0, locals := 40 } : Room) s m args below meth c 0 0 (MQ below (va_Qi (fun r u => z = (r, u)) (tmAt tm_shC 256 D cy ad A) A) args s 0 0 A) 6 D cy tm_shC ad 256 [] A z 6 [(0, .ref (ad 1)), (1, .int x1), (3, .int x3), (4, .int x4), (5, .int x5)] [] v (f_X5_valueSum_6b K0 L x1 x3 x4 x5 v) := by
  unfold f_X5_valueSum_6b
  refine tg_iload 4 C0 dX5_valueSum_6 rfl ?_
  refine tg_iload_n 2 C0 dX5_valueSum_8 rfl rfl ?_
  refine tg_icmp_gt 34 C0 dX5_valueSum_9 (by decide) (fun _ => ?_) (fun _ => ?_)
  · refine tg_sub [3] rfl ?_
    exact hK0 x4 v
  · refine tg_iload 3 C0 dX5_valueSum_12 rfl ?_
    refine tg_aload_n 0 C0 dX5_valueSum_14 rfl rfl ?_
    refine tg_iload_n 1 C0 dX5_valueSum_15 rfl rfl ?_
    refine tg_iload 4 C0 dX5_valueSum_16 rfl ?_
    refine tg_callVi (As := [.int x1, .int x5]) 1 2 C0 dX5_valueSum_18 (c_X5_valueAt l x1 x5 v) rfl rfl (by decide) rfl rfl (tm_gV tl_X5_40 ti_X5_valueAt ts_X5_valueAt tn_X5 tc_X5_valueAt)  rfl rfl rfl rfl (by decide +kernel) ⟨by decide, by decide⟩ (Nat.le_of_ble_eq_true rfl) ⟨by decide, by decide⟩ (fun r2 v1 _ => ?_)
    refine tg_iconst (x := 0) C0 dX5_valueSum_21 (by decide) ?_
    refine tg_mmax C0 dX5_valueSum_22 tl_X5_57 tmmaxst tmath tmmaxco (by decide) (Nat.le_of_ble_eq_true rfl) ⟨by decide, by decide⟩ ?_
    refine tg_iadd C0 dX5_valueSum_25 ?_
    refine tg_leti (fun y3 _ => ?_)
    refine tg_istore [(4, .int y3), (0, .ref (ad 1)), (1, .int x1), (3, .int x3), (5, .int x5)] C0 dX5_valueSum_26 (by decide) rfl ?_
    refine tg_iinc [(5, .int (x5 + 1)), (4, .int y3), (0, .ref (ad 1)), (1, .int x1), (3, .int x3)] 4 C0 dX5_valueSum_28 rfl rfl (by decide) rfl ?_
    refine tg_goto 6 C0 dX5_valueSum_31 (by decide) ?_
    refine tg_sub [2, 3, 4, 1, 0] rfl ?_
    exact hL x1 x3 y3 (x5 + 1) v1
def f_X5_valueSum_6 (K0 : Int32 → tmM → Option (Int32 × tmM)) : Nat → Int32 → Int32 → Int32 → Int32 → tmM → Option (Int32 × tmM)
  | 0 => fun _ _ _ _ _ => none
  | n + 1 => f_X5_valueSum_6b K0 (f_X5_valueSum_6 K0 n)
theorem w_X5_valueSum_6 {p : Program} {l : Launch} {e : Env} {s : State} {m : MethodId} {args : Array Value} {below : List Frame} {meth : Method} {c : Code} {D : va_G} {cy : Nat → ClassId} {ad : Nat → Nat} {A : Nat → Prop} {z : (Int32 × tmM)} {K0 : Int32 → tmM → Option (Int32 × tmM)} (C0 : tmC p s m args meth c cX5_valueSum 6 (some .int) RX5 TMW tm_NWC D cy tm_shC ad 256 [] A) (hK0 : ∀ (a4 : Int32) (w : tmM), tmG p l e ({ frames := 1, cells := 0, slots := 0, locals := 40 } : Room) s m args below meth c 0 0 (MQ below (va_Qi (fun r u => z = (r, u)) (tmAt tm_shC 256 D cy ad A) A) args s 0 0 A) 6 D cy tm_shC ad 256 [] A z 34 [(4, .int a4)] [] w (K0 a4 w)) (nn : Nat) : ∀ (x1 x3 x4 x5 : Int32) (v : tmM), tmG p l e ({ frames := 1, cells := 0, slots := 0, locals := 40 } : Room) s m args below meth c 0 0 (MQ below (va_Qi (fun r u => z = (r, u)) (tmAt tm_shC 256 D cy ad A) A) args s 0 0 A) 6 D cy tm_shC ad 256 [] A z 6 [(0, .ref (ad 1)), (1, .int x1), (3, .int x3), (4, .int x4), (5, .int x5)] [] v (f_X5_valueSum_6 K0 nn x1 x3 x4 x5 v) := by
  induction nn with
  | zero => intro _ _ _ _ _; exact tg_none
  | succ n ih => intro x1 x3 x4 x5 v; exact w_X5_valueSum_6b C0 hK0 ih x1 x3 x4 x5 v
def f_X5_valueSum (x1 x2 x3 : Int32) (v : tmM) : Option (Int32 × tmM) := f_X5_valueSum_6 (fun x4 v5 => some (x4, v5)) 10000 x1 x3 0 x2 v
set_option maxRecDepth 100000 in
set_option maxHeartbeats 4000000 in
theorem w_X5_valueSum {p : Program} {l : Launch} {e : Env} {s : State} {m : MethodId} {args : Array Value} {below : List Frame} {meth : Method} {c : Code} {D : va_G} {cy : Nat → ClassId} {ad : Nat → Nat} {A : Nat → Prop} {z : (Int32 × tmM)} (C0 : tmC p s m args meth c cX5_valueSum 6 (some .int) RX5 TMW tm_NWC D cy tm_shC ad 256 [] A) (x1 x2 x3 : Int32) (v : tmM) : tmG p l e ({ frames := 1, cells := 0, slots := 0, locals := 40 } : Room) s m args below meth c 0 0 (MQ below (va_Qi (fun r u => z = (r, u)) (tmAt tm_shC 256 D cy ad A) A) args s 0 0 A) 6 D cy tm_shC ad 256 [] A z 0 [(0, .ref (ad 1)), (1, .int x1), (2, .int x2), (3, .int x3)] [] v (f_X5_valueSum x1 x2 x3 v) := by
  unfold f_X5_valueSum
  refine tg_iconst (x := 0) C0 dX5_valueSum_0 (by decide) ?_
  refine tg_istore [(4, .int 0), (0, .ref (ad 1)), (1, .int x1), (2, .int x2), (3, .int x3)] C0 dX5_valueSum_1 (by decide) rfl ?_
  refine tg_iload_n 3 C0 dX5_valueSum_3 rfl rfl ?_
  refine tg_istore [(5, .int x2), (4, .int 0), (0, .ref (ad 1)), (1, .int x1), (2, .int x2), (3, .int x3)] C0 dX5_valueSum_4 (by decide) rfl ?_
  refine tg_sub [2, 3, 5, 1, 0] rfl ?_
  refine w_X5_valueSum_6 C0 (fun x4 v5 => ?_) 10000 x1 x3 0 x2 v
  refine tg_iload 0 C0 dX5_valueSum_34 rfl ?_
  exact tg_iret C0 dX5_valueSum_36
theorem c_X5_valueSum (l : Launch) (x1 x2 x3 : Int32) (v : tmM) : tmMi tm_NWC tm_shC 256 l yX5_valueSum (Cond.code yX5_valueSum cX5_valueSum 6 (some .int) :: TMW) ({ frames := 1, cells := 0, slots := 0, locals := 40 } : Room) (fun ad => [.ref (ad 1), .int x1, .int x2, .int x3]) v (f_X5_valueSum x1 x2 x3 v) :=
  tmMi.of (cc := cX5_valueSum) (nL := 6) (by decide +kernel) rfl tm_NWC_ok (fun _ => Nat.le_of_ble_eq_true rfl) (fun p e s m args below meth c A D cy ad z C0 => w_X5_valueSum C0 x1 x2 x3 v)
-- ----- X5_leastValue
theorem dX5_leastValue_0 : decode cX5_leastValue 0 = .ok (.iconst (-1), 1) := by decide +kernel
theorem dX5_leastValue_1 : decode cX5_leastValue 1 = .ok (.istore_n 2, 1) := by decide +kernel
theorem dX5_leastValue_2 : decode cX5_leastValue 2 = .ok (.iconst 0, 1) := by decide +kernel
theorem dX5_leastValue_3 : decode cX5_leastValue 3 = .ok (.istore_n 3, 1) := by decide +kernel
theorem dX5_leastValue_4 : decode cX5_leastValue 4 = .ok (.iload_n 3, 1) := by decide +kernel
theorem dX5_leastValue_5 : decode cX5_leastValue 5 = .ok (.bipush 60, 2) := by decide +kernel
theorem dX5_leastValue_7 : decode cX5_leastValue 7 = .ok (.if_icmp .ge 36, 3) := by decide +kernel
theorem dX5_leastValue_10 : decode cX5_leastValue 10 = .ok (.aload_n 0, 1) := by decide +kernel
theorem dX5_leastValue_11 : decode cX5_leastValue 11 = .ok (.iload_n 1, 1) := by decide +kernel
theorem dX5_leastValue_12 : decode cX5_leastValue 12 = .ok (.iload_n 3, 1) := by decide +kernel
theorem dX5_leastValue_13 : decode cX5_leastValue 13 = .ok (.invokevirtual 40, 3) := by decide +kernel
theorem dX5_leastValue_16 : decode cX5_leastValue 16 = .ok (.istore 4, 2) := by decide +kernel
theorem dX5_leastValue_18 : decode cX5_leastValue 18 = .ok (.iload 4, 2) := by decide +kernel
theorem dX5_leastValue_20 : decode cX5_leastValue 20 = .ok (.ifCond .lt 17, 3) := by decide +kernel
theorem dX5_leastValue_23 : decode cX5_leastValue 23 = .ok (.iload_n 2, 1) := by decide +kernel
theorem dX5_leastValue_24 : decode cX5_leastValue 24 = .ok (.iconst (-1), 1) := by decide +kernel
theorem dX5_leastValue_25 : decode cX5_leastValue 25 = .ok (.if_icmp .eq 9, 3) := by decide +kernel
theorem dX5_leastValue_28 : decode cX5_leastValue 28 = .ok (.iload 4, 2) := by decide +kernel
theorem dX5_leastValue_30 : decode cX5_leastValue 30 = .ok (.iload_n 2, 1) := by decide +kernel
theorem dX5_leastValue_31 : decode cX5_leastValue 31 = .ok (.if_icmp .ge 6, 3) := by decide +kernel
theorem dX5_leastValue_34 : decode cX5_leastValue 34 = .ok (.iload 4, 2) := by decide +kernel
theorem dX5_leastValue_36 : decode cX5_leastValue 36 = .ok (.istore_n 2, 1) := by decide +kernel
theorem dX5_leastValue_37 : decode cX5_leastValue 37 = .ok (.iinc 3 1, 3) := by decide +kernel
theorem dX5_leastValue_40 : decode cX5_leastValue 40 = .ok (.goto (-36), 3) := by decide +kernel
theorem dX5_leastValue_43 : decode cX5_leastValue 43 = .ok (.iload_n 2, 1) := by decide +kernel
theorem dX5_leastValue_44 : decode cX5_leastValue 44 = .ok (.ireturn, 1) := by decide +kernel
def f_X5_leastValue_37 (K0 : Int32 → tmM → Option (Int32 × tmM)) (L : Int32 → Int32 → Int32 → tmM → Option (Int32 × tmM)) (x1 x2 x3 : Int32) (v : tmM) : Option (Int32 × tmM) := L x1 x2 (x3 + 1) v
set_option maxRecDepth 100000 in
set_option maxHeartbeats 4000000 in
theorem w_X5_leastValue_37 {p : Program} {l : Launch} {e : Env} {s : State} {m : MethodId} {args : Array Value} {below : List Frame} {meth : Method} {c : Code} {D : va_G} {cy : Nat → ClassId} {ad : Nat → Nat} {A : Nat → Prop} {z : (Int32 × tmM)} {K0 : Int32 → tmM → Option (Int32 × tmM)} {L : Int32 → Int32 → Int32 → tmM → Option (Int32 × tmM)} (C0 : tmC p s m args meth c cX5_leastValue 5 (some .int) RX5 TMW tm_NWC D cy tm_shC ad 256 [] A) (hK0 : ∀ (a2 : Int32) (w : tmM), tmG p l e ({ frames := 1, cells := 0, slots := 0, locals := 24 } : Room) s m args below meth c 0 0 (MQ below (va_Qi (fun r u => z = (r, u)) (tmAt tm_shC 256 D cy ad A) A) args s 0 0 A) 5 D cy tm_shC ad 256 [] A z 43 [(2, .int a2)] [] w (K0 a2 w)) (hL : ∀ (a1 a2 a3 : Int32) (w : tmM), tmG p l e ({ frames := 1, cells := 0, slots := 0, locals := 24 } : Room) s m args below meth c 0 0 (MQ below (va_Qi (fun r u => z = (r, u)) (tmAt tm_shC 256 D cy ad A) A) args s 0 0 A) 5 D cy tm_shC ad 256 [] A z 4 [(0, .ref (ad 1)), (1, .int a1), (2, .int a2), (3, .int a3)] [] w (L a1 a2 a3 w)) (x1 x2 x3 : Int32) (v : tmM) : tmG p l e ({ frames := 1, cells := 0, slots := 0, locals := 24 } : Room) s m args below meth c 0 0 (MQ below (va_Qi (fun r u => z = (r, u)) (tmAt tm_shC 256 D cy ad A) A) args s 0 0 A) 5 D cy tm_shC ad 256 [] A z 37 [(0, .ref (ad 1)), (1, .int x1), (2, .int x2), (3, .int x3)] [] v (f_X5_leastValue_37 K0 L x1 x2 x3 v) := by
  unfold f_X5_leastValue_37
  refine tg_iinc [(3, .int (x3 + 1)), (0, .ref (ad 1)), (1, .int x1), (2, .int x2)] 3 C0 dX5_leastValue_37 rfl rfl (by decide) rfl ?_
  refine tg_goto 4 C0 dX5_leastValue_40 (by decide) ?_
  refine tg_sub [1, 2, 3, 0] rfl ?_
  exact hL x1 x2 (x3 + 1) v
def f_X5_leastValue_34 (K0 : Int32 → tmM → Option (Int32 × tmM)) (L : Int32 → Int32 → Int32 → tmM → Option (Int32 × tmM)) (x1 x3 x4 : Int32) (v : tmM) : Option (Int32 × tmM) := f_X5_leastValue_37 K0 L x1 x4 x3 v
set_option maxRecDepth 100000 in
set_option maxHeartbeats 4000000 in
theorem w_X5_leastValue_34 {p : Program} {l : Launch} {e : Env} {s : State} {m : MethodId} {args : Array Value} {below : List Frame} {meth : Method} {c : Code} {D : va_G} {cy : Nat → ClassId} {ad : Nat → Nat} {A : Nat → Prop} {z : (Int32 × tmM)} {K0 : Int32 → tmM → Option (Int32 × tmM)} {L : Int32 → Int32 → Int32 → tmM → Option (Int32 × tmM)} (C0 : tmC p s m args meth c cX5_leastValue 5 (some .int) RX5 TMW tm_NWC D cy tm_shC ad 256 [] A) (hK0 : ∀ (a2 : Int32) (w : tmM), tmG p l e ({ frames := 1, cells := 0, slots := 0, locals := 24 } : Room) s m args below meth c 0 0 (MQ below (va_Qi (fun r u => z = (r, u)) (tmAt tm_shC 256 D cy ad A) A) args s 0 0 A) 5 D cy tm_shC ad 256 [] A z 43 [(2, .int a2)] [] w (K0 a2 w)) (hL : ∀ (a1 a2 a3 : Int32) (w : tmM), tmG p l e ({ frames := 1, cells := 0, slots := 0, locals := 24 } : Room) s m args below meth c 0 0 (MQ below (va_Qi (fun r u => z = (r, u)) (tmAt tm_shC 256 D cy ad A) A) args s 0 0 A) 5 D cy tm_shC ad 256 [] A z 4 [(0, .ref (ad 1)), (1, .int a1), (2, .int a2), (3, .int a3)] [] w (L a1 a2 a3 w)) (x1 x3 x4 : Int32) (v : tmM) : tmG p l e ({ frames := 1, cells := 0, slots := 0, locals := 24 } : Room) s m args below meth c 0 0 (MQ below (va_Qi (fun r u => z = (r, u)) (tmAt tm_shC 256 D cy ad A) A) args s 0 0 A) 5 D cy tm_shC ad 256 [] A z 34 [(0, .ref (ad 1)), (1, .int x1), (3, .int x3), (4, .int x4)] [] v (f_X5_leastValue_34 K0 L x1 x3 x4 v) := by
  unfold f_X5_leastValue_34
  refine tg_iload 3 C0 dX5_leastValue_34 rfl ?_
  refine tg_istore_n [(2, .int x4), (0, .ref (ad 1)), (1, .int x1), (3, .int x3), (4, .int x4)] C0 dX5_leastValue_36 rfl (by decide) rfl ?_
  refine tg_sub [1, 2, 0, 3] rfl ?_
  exact w_X5_leastValue_37 C0 hK0 hL x1 x4 x3 v
def f_X5_leastValue_4b (K0 : Int32 → tmM → Option (Int32 × tmM)) (L : Int32 → Int32 → Int32 → tmM → Option (Int32 × tmM)) (x1 x2 x3 : Int32) (v : tmM) : Option (Int32 × tmM) := (if 60 ≤ x3 then K0 x2 v else tm_cl (f_X5_valueAt x1 x3 v) fun r2 v1 => (if r2 < 0 then f_X5_leastValue_37 K0 L x1 x2 x3 v1 else (if x2 = (-1) then f_X5_leastValue_34 K0 L x1 x3 r2 v1 else (if x2 ≤ r2 then f_X5_leastValue_37 K0 L x1 x2 x3 v1 else f_X5_leastValue_34 K0 L x1 x3 r2 v1))))
set_option maxRecDepth 100000 in
set_option maxHeartbeats 4000000 in
theorem w_X5_leastValue_4b {p : Program} {l : Launch} {e : Env} {s : State} {m : MethodId} {args : Array Value} {below : List Frame} {meth : Method} {c : Code} {D : va_G} {cy : Nat → ClassId} {ad : Nat → Nat} {A : Nat → Prop} {z : (Int32 × tmM)} {K0 : Int32 → tmM → Option (Int32 × tmM)} {L : Int32 → Int32 → Int32 → tmM → Option (Int32 × tmM)} (C0 : tmC p s m args meth c cX5_leastValue 5 (some .int) RX5 TMW tm_NWC D cy tm_shC ad 256 [] A) (hK0 : ∀ (a2 : Int32) (w : tmM), tmG p l e ({ frames := 1, cells := 0, slots := 0, locals := 24 } : Room) s m args below meth c 0 0 (MQ below (va_Qi (fun r u => z = (r, u)) (tmAt tm_shC 256 D cy ad A) A) args s 0 0 A) 5 D cy tm_shC ad 256 [] A z 43 [(2, .int a2)] [] w (K0 a2 w)) (hL : ∀ (a1 a2 a3 : Int32) (w : tmM), tmG p l e ({ frames := 1, cells := 0, slots := 0, locals := 24 } : Room) s m args below meth c 0 0 (MQ below (va_Qi (fun r u => z = (r, u)) (tmAt tm_shC 256 D cy ad A) A) args s 0 0 A) 5 D cy tm_shC ad 256 [] A z 4 [(0, .ref (ad 1)), (1, .int a1), (2, .int a2), (3, .int a3)] [] w (L a1 a2 a3 w)) (x1 x2 x3 : Int32) (v : tmM) : tmG p l e ({ frames := 1, cells := 0, slots := 0, locals := 24 } : Room) s m args below meth c 0 0 (MQ below (va_Qi (fun r u => z = (r, u)) (tmAt tm_shC 256 D cy ad A) A) args s 0 0 A) 5 D cy tm_shC ad 256 [] A z 4 [(0, .ref (ad 1)), (1, .int x1), (2, .int x2), (3, .int x3)] [] v (f_X5_leastValue_4b K0 L x1 x2 x3 v) := by
  unfold f_X5_leastValue_4b
  refine tg_iload_n 3 C0 dX5_leastValue_4 rfl rfl ?_
  refine tg_bipush (x := 60) C0 dX5_leastValue_5 (by decide) ?_
  refine tg_icmp_ge 43 C0 dX5_leastValue_7 (by decide) (fun _ => ?_) (fun _ => ?_)
  · refine tg_sub [2] rfl ?_
    exact hK0 x2 v
  · refine tg_aload_n 0 C0 dX5_leastValue_10 rfl rfl ?_
    refine tg_iload_n 1 C0 dX5_leastValue_11 rfl rfl ?_
    refine tg_iload_n 3 C0 dX5_leastValue_12 rfl rfl ?_
    refine tg_callVi (As := [.int x1, .int x3]) 1 2 C0 dX5_leastValue_13 (c_X5_valueAt l x1 x3 v) rfl rfl (by decide) rfl rfl (tm_gV tl_X5_40 ti_X5_valueAt ts_X5_valueAt tn_X5 tc_X5_valueAt)  rfl rfl rfl rfl (by decide +kernel) ⟨by decide, by decide⟩ (Nat.le_of_ble_eq_true rfl) ⟨by decide, by decide⟩ (fun r2 v1 _ => ?_)
    refine tg_istore [(4, .int r2), (0, .ref (ad 1)), (1, .int x1), (2, .int x2), (3, .int x3)] C0 dX5_leastValue_16 (by decide) rfl ?_
    refine tg_iload 0 C0 dX5_leastValue_18 rfl ?_
    refine tg_if_lt 37 C0 dX5_leastValue_20 (by decide) (fun _ => ?_) (fun _ => ?_)
    · refine tg_sub [1, 2, 3, 4] rfl ?_
      exact w_X5_leastValue_37 C0 hK0 hL x1 x2 x3 v1
    · refine tg_iload_n 3 C0 dX5_leastValue_23 rfl rfl ?_
      refine tg_iconst (x := (-1)) C0 dX5_leastValue_24 (by decide) ?_
      refine tg_icmp_eq 34 C0 dX5_leastValue_25 (by decide) (fun _ => ?_) (fun _ => ?_)
      · refine tg_sub [1, 2, 4, 0] rfl ?_
        exact w_X5_leastValue_34 C0 hK0 hL x1 x3 r2 v1
      · refine tg_iload 0 C0 dX5_leastValue_28 rfl ?_
        refine tg_iload_n 3 C0 dX5_leastValue_30 rfl rfl ?_
        refine tg_icmp_ge 37 C0 dX5_leastValue_31 (by decide) (fun _ => ?_) (fun _ => ?_)
        · refine tg_sub [1, 2, 3, 4] rfl ?_
          exact w_X5_leastValue_37 C0 hK0 hL x1 x2 x3 v1
        · refine tg_sub [1, 2, 4, 0] rfl ?_
          exact w_X5_leastValue_34 C0 hK0 hL x1 x3 r2 v1
def f_X5_leastValue_4 (K0 : Int32 → tmM → Option (Int32 × tmM)) : Nat → Int32 → Int32 → Int32 → tmM → Option (Int32 × tmM)
  | 0 => fun _ _ _ _ => none
  | n + 1 => f_X5_leastValue_4b K0 (f_X5_leastValue_4 K0 n)
theorem w_X5_leastValue_4 {p : Program} {l : Launch} {e : Env} {s : State} {m : MethodId} {args : Array Value} {below : List Frame} {meth : Method} {c : Code} {D : va_G} {cy : Nat → ClassId} {ad : Nat → Nat} {A : Nat → Prop} {z : (Int32 × tmM)} {K0 : Int32 → tmM → Option (Int32 × tmM)} (C0 : tmC p s m args meth c cX5_leastValue 5 (some .int) RX5 TMW tm_NWC D cy tm_shC ad 256 [] A) (hK0 : ∀ (a2 : Int32) (w : tmM), tmG p l e ({ frames := 1, cells := 0, slots := 0, locals := 24 } : Room) s m args below meth c 0 0 (MQ below (va_Qi (fun r u => z = (r, u)) (tmAt tm_shC 256 D cy ad A) A) args s 0 0 A) 5 D cy tm_shC ad 256 [] A z 43 [(2, .int a2)] [] w (K0 a2 w)) (nn : Nat) : ∀ (x1 x2 x3 : Int32) (v : tmM), tmG p l e ({ frames := 1, cells := 0, slots := 0, locals := 24 } : Room) s m args below meth c 0 0 (MQ below (va_Qi (fun r u => z = (r, u)) (tmAt tm_shC 256 D cy ad A) A) args s 0 0 A) 5 D cy tm_shC ad 256 [] A z 4 [(0, .ref (ad 1)), (1, .int x1), (2, .int x2), (3, .int x3)] [] v (f_X5_leastValue_4 K0 nn x1 x2 x3 v) := by
  induction nn with
  | zero => intro _ _ _ _; exact tg_none
  | succ n ih => intro x1 x2 x3 v; exact w_X5_leastValue_4b C0 hK0 ih x1 x2 x3 v
def f_X5_leastValue (x1 : Int32) (v : tmM) : Option (Int32 × tmM) := f_X5_leastValue_4 (fun x3 v4 => some (x3, v4)) 10000 x1 (-1) 0 v
set_option maxRecDepth 100000 in
set_option maxHeartbeats 4000000 in
theorem w_X5_leastValue {p : Program} {l : Launch} {e : Env} {s : State} {m : MethodId} {args : Array Value} {below : List Frame} {meth : Method} {c : Code} {D : va_G} {cy : Nat → ClassId} {ad : Nat → Nat} {A : Nat → Prop} {z : (Int32 × tmM)} (C0 : tmC p s m args meth c cX5_leastValue 5 (some .int) RX5 TMW tm_NWC D cy tm_shC ad 256 [] A) (x1 : Int32) (v : tmM) : tmG p l e ({ frames := 1, cells := 0, slots := 0, locals := 24 } : Room) s m args below meth c 0 0 (MQ below (va_Qi (fun r u => z = (r, u)) (tmAt tm_shC 256 D cy ad A) A) args s 0 0 A) 5 D cy tm_shC ad 256 [] A z 0 [(0, .ref (ad 1)), (1, .int x1)] [] v (f_X5_leastValue x1 v) := by
  unfold f_X5_leastValue
  refine tg_iconst (x := (-1)) C0 dX5_leastValue_0 (by decide) ?_
  refine tg_istore_n [(2, .int (-1)), (0, .ref (ad 1)), (1, .int x1)] C0 dX5_leastValue_1 rfl (by decide) rfl ?_
  refine tg_iconst (x := 0) C0 dX5_leastValue_2 (by decide) ?_
  refine tg_istore_n [(3, .int 0), (2, .int (-1)), (0, .ref (ad 1)), (1, .int x1)] C0 dX5_leastValue_3 rfl (by decide) rfl ?_
  refine tg_sub [2, 3, 1, 0] rfl ?_
  refine w_X5_leastValue_4 C0 (fun x3 v4 => ?_) 10000 x1 (-1) 0 v
  refine tg_iload_n 0 C0 dX5_leastValue_43 rfl rfl ?_
  exact tg_iret C0 dX5_leastValue_44
theorem c_X5_leastValue (l : Launch) (x1 : Int32) (v : tmM) : tmMi tm_NWC tm_shC 256 l yX5_leastValue (Cond.code yX5_leastValue cX5_leastValue 5 (some .int) :: TMW) ({ frames := 1, cells := 0, slots := 0, locals := 24 } : Room) (fun ad => [.ref (ad 1), .int x1]) v (f_X5_leastValue x1 v) :=
  tmMi.of (cc := cX5_leastValue) (nL := 5) (by decide +kernel) rfl tm_NWC_ok (fun _ => Nat.le_of_ble_eq_true rfl) (fun p e s m args below meth c A D cy ad z C0 => w_X5_leastValue C0 x1 v)
-- ----- X5_greatestValue
theorem dX5_greatestValue_0 : decode cX5_greatestValue 0 = .ok (.iconst (-1), 1) := by decide +kernel
theorem dX5_greatestValue_1 : decode cX5_greatestValue 1 = .ok (.istore_n 2, 1) := by decide +kernel
theorem dX5_greatestValue_2 : decode cX5_greatestValue 2 = .ok (.iconst 0, 1) := by decide +kernel
theorem dX5_greatestValue_3 : decode cX5_greatestValue 3 = .ok (.istore_n 3, 1) := by decide +kernel
theorem dX5_greatestValue_4 : decode cX5_greatestValue 4 = .ok (.iload_n 3, 1) := by decide +kernel
theorem dX5_greatestValue_5 : decode cX5_greatestValue 5 = .ok (.bipush 60, 2) := by decide +kernel
theorem dX5_greatestValue_7 : decode cX5_greatestValue 7 = .ok (.if_icmp .ge 20, 3) := by decide +kernel
theorem dX5_greatestValue_10 : decode cX5_greatestValue 10 = .ok (.iload_n 2, 1) := by decide +kernel
theorem dX5_greatestValue_11 : decode cX5_greatestValue 11 = .ok (.aload_n 0, 1) := by decide +kernel
theorem dX5_greatestValue_12 : decode cX5_greatestValue 12 = .ok (.iload_n 1, 1) := by decide +kernel
theorem dX5_greatestValue_13 : decode cX5_greatestValue 13 = .ok (.iload_n 3, 1) := by decide +kernel
theorem dX5_greatestValue_14 : decode cX5_greatestValue 14 = .ok (.invokevirtual 40, 3) := by decide +kernel
theorem dX5_greatestValue_17 : decode cX5_greatestValue 17 = .ok (.invokestatic 57, 3) := by decide +kernel
theorem dX5_greatestValue_20 : decode cX5_greatestValue 20 = .ok (.istore_n 2, 1) := by decide +kernel
theorem dX5_greatestValue_21 : decode cX5_greatestValue 21 = .ok (.iinc 3 1, 3) := by decide +kernel
theorem dX5_greatestValue_24 : decode cX5_greatestValue 24 = .ok (.goto (-20), 3) := by decide +kernel
theorem dX5_greatestValue_27 : decode cX5_greatestValue 27 = .ok (.iload_n 2, 1) := by decide +kernel
theorem dX5_greatestValue_28 : decode cX5_greatestValue 28 = .ok (.ireturn, 1) := by decide +kernel
def f_X5_greatestValue_4b (K0 : Int32 → tmM → Option (Int32 × tmM)) (L : Int32 → Int32 → Int32 → tmM → Option (Int32 × tmM)) (x1 x2 x3 : Int32) (v : tmM) : Option (Int32 × tmM) := (if 60 ≤ x3 then K0 x2 v else tm_cl (f_X5_valueAt x1 x3 v) fun r2 v1 => tm_lt (if x2 < r2 then r2 else x2) fun y3 => L x1 y3 (x3 + 1) v1)
set_option maxRecDepth 100000 in
set_option maxHeartbeats 4000000 in
theorem w_X5_greatestValue_4b {p : Program} {l : Launch} {e : Env} {s : State} {m : MethodId} {args : Array Value} {below : List Frame} {meth : Method} {c : Code} {D : va_G} {cy : Nat → ClassId} {ad : Nat → Nat} {A : Nat → Prop} {z : (Int32 × tmM)} {K0 : Int32 → tmM → Option (Int32 × tmM)} {L : Int32 → Int32 → Int32 → tmM → Option (Int32 × tmM)} (C0 : tmC p s m args meth c cX5_greatestValue 4 (some .int) RX5 TMW tm_NWC D cy tm_shC ad 256 [] A) (hK0 : ∀ (a2 : Int32) (w : tmM), tmG p l e ({ frames := 1, cells := 0, slots := 0, locals := 40 } : Room) s m args below meth c 0 0 (MQ below (va_Qi (fun r u => z = (r, u)) (tmAt tm_shC 256 D cy ad A) A) args s 0 0 A) 4 D cy tm_shC ad 256 [] A z 27 [(2, .int a2)] [] w (K0 a2 w)) (hL : ∀ (a1 a2 a3 : Int32) (w : tmM), tmG p l e ({ frames := 1, cells := 0, slots := 0, locals := 40 } : Room) s m args below meth c 0 0 (MQ below (va_Qi (fun r u => z = (r, u)) (tmAt tm_shC 256 D cy ad A) A) args s 0 0 A) 4 D cy tm_shC ad 256 [] A z 4 [(0, .ref (ad 1)), (1, .int a1), (2, .int a2), (3, .int a3)] [] w (L a1 a2 a3 w)) (x1 x2 x3 : Int32) (v : tmM) : tmG p l e ({ frames := 1, cells := 0, slots := 0, locals := 40 } : Room) s m args below meth c 0 0 (MQ below (va_Qi (fun r u => z = (r, u)) (tmAt tm_shC 256 D cy ad A) A) args s 0 0 A) 4 D cy tm_shC ad 256 [] A z 4 [(0, .ref (ad 1)), (1, .int x1), (2, .int x2), (3, .int x3)] [] v (f_X5_greatestValue_4b K0 L x1 x2 x3 v) := by
  unfold f_X5_greatestValue_4b
  refine tg_iload_n 3 C0 dX5_greatestValue_4 rfl rfl ?_
  refine tg_bipush (x := 60) C0 dX5_greatestValue_5 (by decide) ?_
  refine tg_icmp_ge 27 C0 dX5_greatestValue_7 (by decide) (fun _ => ?_) (fun _ => ?_)
  · refine tg_sub [2] rfl ?_
    exact hK0 x2 v
  · refine tg_iload_n 2 C0 dX5_greatestValue_10 rfl rfl ?_
    refine tg_aload_n 0 C0 dX5_greatestValue_11 rfl rfl ?_
    refine tg_iload_n 1 C0 dX5_greatestValue_12 rfl rfl ?_
    refine tg_iload_n 3 C0 dX5_greatestValue_13 rfl rfl ?_
    refine tg_callVi (As := [.int x1, .int x3]) 1 2 C0 dX5_greatestValue_14 (c_X5_valueAt l x1 x3 v) rfl rfl (by decide) rfl rfl (tm_gV tl_X5_40 ti_X5_valueAt ts_X5_valueAt tn_X5 tc_X5_valueAt)  rfl rfl rfl rfl (by decide +kernel) ⟨by decide, by decide⟩ (Nat.le_of_ble_eq_true rfl) ⟨by decide, by decide⟩ (fun r2 v1 _ => ?_)
    refine tg_mmax C0 dX5_greatestValue_17 tl_X5_57 tmmaxst tmath tmmaxco (by decide) (Nat.le_of_ble_eq_true rfl) ⟨by decide, by decide⟩ ?_
    refine tg_leti (fun y3 _ => ?_)
    refine tg_istore_n [(2, .int y3), (0, .ref (ad 1)), (1, .int x1), (3, .int x3)] C0 dX5_greatestValue_20 rfl (by decide) rfl ?_
    refine tg_iinc [(3, .int (x3 + 1)), (2, .int y3), (0, .ref (ad 1)), (1, .int x1)] 3 C0 dX5_greatestValue_21 rfl rfl (by decide) rfl ?_
    refine tg_goto 4 C0 dX5_greatestValue_24 (by decide) ?_
    refine tg_sub [2, 3, 1, 0] rfl ?_
    exact hL x1 y3 (x3 + 1) v1
def f_X5_greatestValue_4 (K0 : Int32 → tmM → Option (Int32 × tmM)) : Nat → Int32 → Int32 → Int32 → tmM → Option (Int32 × tmM)
  | 0 => fun _ _ _ _ => none
  | n + 1 => f_X5_greatestValue_4b K0 (f_X5_greatestValue_4 K0 n)
theorem w_X5_greatestValue_4 {p : Program} {l : Launch} {e : Env} {s : State} {m : MethodId} {args : Array Value} {below : List Frame} {meth : Method} {c : Code} {D : va_G} {cy : Nat → ClassId} {ad : Nat → Nat} {A : Nat → Prop} {z : (Int32 × tmM)} {K0 : Int32 → tmM → Option (Int32 × tmM)} (C0 : tmC p s m args meth c cX5_greatestValue 4 (some .int) RX5 TMW tm_NWC D cy tm_shC ad 256 [] A) (hK0 : ∀ (a2 : Int32) (w : tmM), tmG p l e ({ frames := 1, cells := 0, slots := 0, locals := 40 } : Room) s m args below meth c 0 0 (MQ below (va_Qi (fun r u => z = (r, u)) (tmAt tm_shC 256 D cy ad A) A) args s 0 0 A) 4 D cy tm_shC ad 256 [] A z 27 [(2, .int a2)] [] w (K0 a2 w)) (nn : Nat) : ∀ (x1 x2 x3 : Int32) (v : tmM), tmG p l e ({ frames := 1, cells := 0, slots := 0, locals := 40 } : Room) s m args below meth c 0 0 (MQ below (va_Qi (fun r u => z = (r, u)) (tmAt tm_shC 256 D cy ad A) A) args s 0 0 A) 4 D cy tm_shC ad 256 [] A z 4 [(0, .ref (ad 1)), (1, .int x1), (2, .int x2), (3, .int x3)] [] v (f_X5_greatestValue_4 K0 nn x1 x2 x3 v) := by
  induction nn with
  | zero => intro _ _ _ _; exact tg_none
  | succ n ih => intro x1 x2 x3 v; exact w_X5_greatestValue_4b C0 hK0 ih x1 x2 x3 v
def f_X5_greatestValue (x1 : Int32) (v : tmM) : Option (Int32 × tmM) := f_X5_greatestValue_4 (fun x4 v5 => some (x4, v5)) 10000 x1 (-1) 0 v
set_option maxRecDepth 100000 in
set_option maxHeartbeats 4000000 in
theorem w_X5_greatestValue {p : Program} {l : Launch} {e : Env} {s : State} {m : MethodId} {args : Array Value} {below : List Frame} {meth : Method} {c : Code} {D : va_G} {cy : Nat → ClassId} {ad : Nat → Nat} {A : Nat → Prop} {z : (Int32 × tmM)} (C0 : tmC p s m args meth c cX5_greatestValue 4 (some .int) RX5 TMW tm_NWC D cy tm_shC ad 256 [] A) (x1 : Int32) (v : tmM) : tmG p l e ({ frames := 1, cells := 0, slots := 0, locals := 40 } : Room) s m args below meth c 0 0 (MQ below (va_Qi (fun r u => z = (r, u)) (tmAt tm_shC 256 D cy ad A) A) args s 0 0 A) 4 D cy tm_shC ad 256 [] A z 0 [(0, .ref (ad 1)), (1, .int x1)] [] v (f_X5_greatestValue x1 v) := by
  unfold f_X5_greatestValue
  refine tg_iconst (x := (-1)) C0 dX5_greatestValue_0 (by decide) ?_
  refine tg_istore_n [(2, .int (-1)), (0, .ref (ad 1)), (1, .int x1)] C0 dX5_greatestValue_1 rfl (by decide) rfl ?_
  refine tg_iconst (x := 0) C0 dX5_greatestValue_2 (by decide) ?_
  refine tg_istore_n [(3, .int 0), (2, .int (-1)), (0, .ref (ad 1)), (1, .int x1)] C0 dX5_greatestValue_3 rfl (by decide) rfl ?_
  refine tg_sub [2, 3, 1, 0] rfl ?_
  refine w_X5_greatestValue_4 C0 (fun x4 v5 => ?_) 10000 x1 (-1) 0 v
  refine tg_iload_n 0 C0 dX5_greatestValue_27 rfl rfl ?_
  exact tg_iret C0 dX5_greatestValue_28
theorem c_X5_greatestValue (l : Launch) (x1 : Int32) (v : tmM) : tmMi tm_NWC tm_shC 256 l yX5_greatestValue (Cond.code yX5_greatestValue cX5_greatestValue 4 (some .int) :: TMW) ({ frames := 1, cells := 0, slots := 0, locals := 40 } : Room) (fun ad => [.ref (ad 1), .int x1]) v (f_X5_greatestValue x1 v) :=
  tmMi.of (cc := cX5_greatestValue) (nL := 4) (by decide +kernel) rfl tm_NWC_ok (fun _ => Nat.le_of_ble_eq_true rfl) (fun p e s m args below meth c A D cy ad z C0 => w_X5_greatestValue C0 x1 v)
-- ----- X5_changesAgainst
theorem dX5_changesAgainst_0 : decode cX5_changesAgainst 0 = .ok (.iconst 0, 1) := by decide +kernel
theorem dX5_changesAgainst_1 : decode cX5_changesAgainst 1 = .ok (.istore_n 2, 1) := by decide +kernel
theorem dX5_changesAgainst_2 : decode cX5_changesAgainst 2 = .ok (.iconst 0, 1) := by decide +kernel
theorem dX5_changesAgainst_3 : decode cX5_changesAgainst 3 = .ok (.istore_n 3, 1) := by decide +kernel
theorem dX5_changesAgainst_4 : decode cX5_changesAgainst 4 = .ok (.iload_n 3, 1) := by decide +kernel
theorem dX5_changesAgainst_5 : decode cX5_changesAgainst 5 = .ok (.bipush 60, 2) := by decide +kernel
theorem dX5_changesAgainst_7 : decode cX5_changesAgainst 7 = .ok (.if_icmp .ge 67, 3) := by decide +kernel
theorem dX5_changesAgainst_10 : decode cX5_changesAgainst 10 = .ok (.aload_n 0, 1) := by decide +kernel
theorem dX5_changesAgainst_11 : decode cX5_changesAgainst 11 = .ok (.getfield 17, 3) := by decide +kernel
theorem dX5_changesAgainst_14 : decode cX5_changesAgainst 14 = .ok (.iconst 0, 1) := by decide +kernel
theorem dX5_changesAgainst_15 : decode cX5_changesAgainst 15 = .ok (.aaload, 1) := by decide +kernel
theorem dX5_changesAgainst_16 : decode cX5_changesAgainst 16 = .ok (.iload_n 3, 1) := by decide +kernel
theorem dX5_changesAgainst_17 : decode cX5_changesAgainst 17 = .ok (.iaload, 1) := by decide +kernel
theorem dX5_changesAgainst_18 : decode cX5_changesAgainst 18 = .ok (.aload_n 1, 1) := by decide +kernel
theorem dX5_changesAgainst_19 : decode cX5_changesAgainst 19 = .ok (.getfield 17, 3) := by decide +kernel
theorem dX5_changesAgainst_22 : decode cX5_changesAgainst 22 = .ok (.iconst 0, 1) := by decide +kernel
theorem dX5_changesAgainst_23 : decode cX5_changesAgainst 23 = .ok (.aaload, 1) := by decide +kernel
theorem dX5_changesAgainst_24 : decode cX5_changesAgainst 24 = .ok (.iload_n 3, 1) := by decide +kernel
theorem dX5_changesAgainst_25 : decode cX5_changesAgainst 25 = .ok (.iaload, 1) := by decide +kernel
theorem dX5_changesAgainst_26 : decode cX5_changesAgainst 26 = .ok (.if_icmp .ne 26, 3) := by decide +kernel
theorem dX5_changesAgainst_29 : decode cX5_changesAgainst 29 = .ok (.aload_n 0, 1) := by decide +kernel
theorem dX5_changesAgainst_30 : decode cX5_changesAgainst 30 = .ok (.getfield 17, 3) := by decide +kernel
theorem dX5_changesAgainst_33 : decode cX5_changesAgainst 33 = .ok (.iconst 1, 1) := by decide +kernel
theorem dX5_changesAgainst_34 : decode cX5_changesAgainst 34 = .ok (.aaload, 1) := by decide +kernel
theorem dX5_changesAgainst_35 : decode cX5_changesAgainst 35 = .ok (.iload_n 3, 1) := by decide +kernel
theorem dX5_changesAgainst_36 : decode cX5_changesAgainst 36 = .ok (.iaload, 1) := by decide +kernel
theorem dX5_changesAgainst_37 : decode cX5_changesAgainst 37 = .ok (.aload_n 1, 1) := by decide +kernel
theorem dX5_changesAgainst_38 : decode cX5_changesAgainst 38 = .ok (.getfield 17, 3) := by decide +kernel
theorem dX5_changesAgainst_41 : decode cX5_changesAgainst 41 = .ok (.iconst 1, 1) := by decide +kernel
theorem dX5_changesAgainst_42 : decode cX5_changesAgainst 42 = .ok (.aaload, 1) := by decide +kernel
theorem dX5_changesAgainst_43 : decode cX5_changesAgainst 43 = .ok (.iload_n 3, 1) := by decide +kernel
theorem dX5_changesAgainst_44 : decode cX5_changesAgainst 44 = .ok (.iaload, 1) := by decide +kernel
theorem dX5_changesAgainst_45 : decode cX5_changesAgainst 45 = .ok (.if_icmp .ne 7, 3) := by decide +kernel
theorem dX5_changesAgainst_48 : decode cX5_changesAgainst 48 = .ok (.iconst 1, 1) := by decide +kernel
theorem dX5_changesAgainst_49 : decode cX5_changesAgainst 49 = .ok (.goto 4, 3) := by decide +kernel
theorem dX5_changesAgainst_52 : decode cX5_changesAgainst 52 = .ok (.iconst 0, 1) := by decide +kernel
theorem dX5_changesAgainst_53 : decode cX5_changesAgainst 53 = .ok (.istore 4, 2) := by decide +kernel
theorem dX5_changesAgainst_55 : decode cX5_changesAgainst 55 = .ok (.iload_n 2, 1) := by decide +kernel
theorem dX5_changesAgainst_56 : decode cX5_changesAgainst 56 = .ok (.iload 4, 2) := by decide +kernel
theorem dX5_changesAgainst_58 : decode cX5_changesAgainst 58 = .ok (.ifCond .eq 7, 3) := by decide +kernel
theorem dX5_changesAgainst_61 : decode cX5_changesAgainst 61 = .ok (.iconst 0, 1) := by decide +kernel
theorem dX5_changesAgainst_62 : decode cX5_changesAgainst 62 = .ok (.goto 4, 3) := by decide +kernel
theorem dX5_changesAgainst_65 : decode cX5_changesAgainst 65 = .ok (.iconst 1, 1) := by decide +kernel
theorem dX5_changesAgainst_66 : decode cX5_changesAgainst 66 = .ok (.iadd, 1) := by decide +kernel
theorem dX5_changesAgainst_67 : decode cX5_changesAgainst 67 = .ok (.istore_n 2, 1) := by decide +kernel
theorem dX5_changesAgainst_68 : decode cX5_changesAgainst 68 = .ok (.iinc 3 1, 3) := by decide +kernel
theorem dX5_changesAgainst_71 : decode cX5_changesAgainst 71 = .ok (.goto (-67), 3) := by decide +kernel
theorem dX5_changesAgainst_74 : decode cX5_changesAgainst 74 = .ok (.iload_n 2, 1) := by decide +kernel
theorem dX5_changesAgainst_75 : decode cX5_changesAgainst 75 = .ok (.ireturn, 1) := by decide +kernel
def f_X5_changesAgainst_66 (k2 : Nat) (K0 : Int32 → tmM → Option (Int32 × tmM)) (L : Int32 → Int32 → tmM → Option (Int32 × tmM)) (x3 s0 s1 : Int32) (v : tmM) : Option (Int32 × tmM) := tm_lt (s1 + s0) fun y7 => L y7 (x3 + 1) v
set_option maxRecDepth 100000 in
set_option maxHeartbeats 4000000 in
theorem w_X5_changesAgainst_66 {p : Program} {l : Launch} {e : Env} {s : State} {m : MethodId} {args : Array Value} {below : List Frame} {meth : Method} {c : Code} {D : va_G} {cy : Nat → ClassId} {ad : Nat → Nat} {A : Nat → Prop} {z : (Int32 × tmM)} {k2 : Nat} {K0 : Int32 → tmM → Option (Int32 × tmM)} {L : Int32 → Int32 → tmM → Option (Int32 × tmM)} (C0 : tmC p s m args meth c cX5_changesAgainst 5 (some .int) RX5 TMW tm_NWC D cy tm_shC ad 256 [] A) (hk2 : tm_isS k2) (hK0 : ∀ (a2 : Int32) (w : tmM), tmG p l e ({ frames := 0, cells := 0, slots := 0, locals := 0 } : Room) s m args below meth c 0 0 (MQ below (va_Qi (fun r u => z = (r, u)) (tmAt tm_shC 256 D cy ad A) A) args s 0 0 A) 5 D cy tm_shC ad 256 [] A z 74 [(2, .int a2)] [] w (K0 a2 w)) (hL : ∀ (a2 a3 : Int32) (w : tmM), tmG p l e ({ frames := 0, cells := 0, slots := 0, locals := 0 } : Room) s m args below meth c 0 0 (MQ below (va_Qi (fun r u => z = (r, u)) (tmAt tm_shC 256 D cy ad A) A) args s 0 0 A) 5 D cy tm_shC ad 256 [] A z 4 [(0, .ref (ad 1)), (1, .ref (ad (k2 + 1))), (2, .int a2), (3, .int a3)] [] w (L a2 a3 w)) (x3 s0 s1 : Int32) (v : tmM) : tmG p l e ({ frames := 0, cells := 0, slots := 0, locals := 0 } : Room) s m args below meth c 0 0 (MQ below (va_Qi (fun r u => z = (r, u)) (tmAt tm_shC 256 D cy ad A) A) args s 0 0 A) 5 D cy tm_shC ad 256 [] A z 66 [(0, .ref (ad 1)), (1, .ref (ad (k2 + 1))), (3, .int x3)] [.int s0, .int s1] v (f_X5_changesAgainst_66 k2 K0 L x3 s0 s1 v) := by
  unfold f_X5_changesAgainst_66
  refine tg_iadd C0 dX5_changesAgainst_66 ?_
  refine tg_leti (fun y7 _ => ?_)
  refine tg_istore_n [(2, .int y7), (0, .ref (ad 1)), (1, .ref (ad (k2 + 1))), (3, .int x3)] C0 dX5_changesAgainst_67 rfl (by decide) rfl ?_
  refine tg_iinc [(3, .int (x3 + 1)), (2, .int y7), (0, .ref (ad 1)), (1, .ref (ad (k2 + 1)))] 3 C0 dX5_changesAgainst_68 rfl rfl (by decide) rfl ?_
  refine tg_goto 4 C0 dX5_changesAgainst_71 (by decide) ?_
  refine tg_sub [2, 3, 1, 0] rfl ?_
  exact hL y7 (x3 + 1) v
def f_X5_changesAgainst_53 (k2 : Nat) (K0 : Int32 → tmM → Option (Int32 × tmM)) (L : Int32 → Int32 → tmM → Option (Int32 × tmM)) (x2 x3 s0 : Int32) (v : tmM) : Option (Int32 × tmM) := (if s0 = 0 then f_X5_changesAgainst_66 k2 K0 L x3 1 x2 v else f_X5_changesAgainst_66 k2 K0 L x3 0 x2 v)
set_option maxRecDepth 100000 in
set_option maxHeartbeats 4000000 in
theorem w_X5_changesAgainst_53 {p : Program} {l : Launch} {e : Env} {s : State} {m : MethodId} {args : Array Value} {below : List Frame} {meth : Method} {c : Code} {D : va_G} {cy : Nat → ClassId} {ad : Nat → Nat} {A : Nat → Prop} {z : (Int32 × tmM)} {k2 : Nat} {K0 : Int32 → tmM → Option (Int32 × tmM)} {L : Int32 → Int32 → tmM → Option (Int32 × tmM)} (C0 : tmC p s m args meth c cX5_changesAgainst 5 (some .int) RX5 TMW tm_NWC D cy tm_shC ad 256 [] A) (hk2 : tm_isS k2) (hK0 : ∀ (a2 : Int32) (w : tmM), tmG p l e ({ frames := 0, cells := 0, slots := 0, locals := 0 } : Room) s m args below meth c 0 0 (MQ below (va_Qi (fun r u => z = (r, u)) (tmAt tm_shC 256 D cy ad A) A) args s 0 0 A) 5 D cy tm_shC ad 256 [] A z 74 [(2, .int a2)] [] w (K0 a2 w)) (hL : ∀ (a2 a3 : Int32) (w : tmM), tmG p l e ({ frames := 0, cells := 0, slots := 0, locals := 0 } : Room) s m args below meth c 0 0 (MQ below (va_Qi (fun r u => z = (r, u)) (tmAt tm_shC 256 D cy ad A) A) args s 0 0 A) 5 D cy tm_shC ad 256 [] A z 4 [(0, .ref (ad 1)), (1, .ref (ad (k2 + 1))), (2, .int a2), (3, .int a3)] [] w (L a2 a3 w)) (x2 x3 s0 : Int32) (v : tmM) : tmG p l e ({ frames := 0, cells := 0, slots := 0, locals := 0 } : Room) s m args below meth c 0 0 (MQ below (va_Qi (fun r u => z = (r, u)) (tmAt tm_shC 256 D cy ad A) A) args s 0 0 A) 5 D cy tm_shC ad 256 [] A z 53 [(0, .ref (ad 1)), (1, .ref (ad (k2 + 1))), (2, .int x2), (3, .int x3)] [.int s0] v (f_X5_changesAgainst_53 k2 K0 L x2 x3 s0 v) := by
  unfold f_X5_changesAgainst_53
  refine tg_istore [(4, .int s0), (0, .ref (ad 1)), (1, .ref (ad (k2 + 1))), (2, .int x2), (3, .int x3)] C0 dX5_changesAgainst_53 (by decide) rfl ?_
  refine tg_iload_n 3 C0 dX5_changesAgainst_55 rfl rfl ?_
  refine tg_iload 0 C0 dX5_changesAgainst_56 rfl ?_
  refine tg_if_eq 65 C0 dX5_changesAgainst_58 (by decide) (fun _ => ?_) (fun _ => ?_)
  · refine tg_iconst (x := 1) C0 dX5_changesAgainst_65 (by decide) ?_
    refine tg_sub [1, 2, 4] rfl ?_
    exact w_X5_changesAgainst_66 C0 hk2 hK0 hL x3 1 x2 v
  · refine tg_iconst (x := 0) C0 dX5_changesAgainst_61 (by decide) ?_
    refine tg_goto 66 C0 dX5_changesAgainst_62 (by decide) ?_
    refine tg_sub [1, 2, 4] rfl ?_
    exact w_X5_changesAgainst_66 C0 hk2 hK0 hL x3 0 x2 v
def f_X5_changesAgainst_52 (k2 : Nat) (K0 : Int32 → tmM → Option (Int32 × tmM)) (L : Int32 → Int32 → tmM → Option (Int32 × tmM)) (x2 x3 : Int32) (v : tmM) : Option (Int32 × tmM) := f_X5_changesAgainst_53 k2 K0 L x2 x3 0 v
set_option maxRecDepth 100000 in
set_option maxHeartbeats 4000000 in
theorem w_X5_changesAgainst_52 {p : Program} {l : Launch} {e : Env} {s : State} {m : MethodId} {args : Array Value} {below : List Frame} {meth : Method} {c : Code} {D : va_G} {cy : Nat → ClassId} {ad : Nat → Nat} {A : Nat → Prop} {z : (Int32 × tmM)} {k2 : Nat} {K0 : Int32 → tmM → Option (Int32 × tmM)} {L : Int32 → Int32 → tmM → Option (Int32 × tmM)} (C0 : tmC p s m args meth c cX5_changesAgainst 5 (some .int) RX5 TMW tm_NWC D cy tm_shC ad 256 [] A) (hk2 : tm_isS k2) (hK0 : ∀ (a2 : Int32) (w : tmM), tmG p l e ({ frames := 0, cells := 0, slots := 0, locals := 0 } : Room) s m args below meth c 0 0 (MQ below (va_Qi (fun r u => z = (r, u)) (tmAt tm_shC 256 D cy ad A) A) args s 0 0 A) 5 D cy tm_shC ad 256 [] A z 74 [(2, .int a2)] [] w (K0 a2 w)) (hL : ∀ (a2 a3 : Int32) (w : tmM), tmG p l e ({ frames := 0, cells := 0, slots := 0, locals := 0 } : Room) s m args below meth c 0 0 (MQ below (va_Qi (fun r u => z = (r, u)) (tmAt tm_shC 256 D cy ad A) A) args s 0 0 A) 5 D cy tm_shC ad 256 [] A z 4 [(0, .ref (ad 1)), (1, .ref (ad (k2 + 1))), (2, .int a2), (3, .int a3)] [] w (L a2 a3 w)) (x2 x3 : Int32) (v : tmM) : tmG p l e ({ frames := 0, cells := 0, slots := 0, locals := 0 } : Room) s m args below meth c 0 0 (MQ below (va_Qi (fun r u => z = (r, u)) (tmAt tm_shC 256 D cy ad A) A) args s 0 0 A) 5 D cy tm_shC ad 256 [] A z 52 [(0, .ref (ad 1)), (1, .ref (ad (k2 + 1))), (2, .int x2), (3, .int x3)] [] v (f_X5_changesAgainst_52 k2 K0 L x2 x3 v) := by
  unfold f_X5_changesAgainst_52
  refine tg_iconst (x := 0) C0 dX5_changesAgainst_52 (by decide) ?_
  exact w_X5_changesAgainst_53 C0 hk2 hK0 hL x2 x3 0 v
def f_X5_changesAgainst_4b (k2 : Nat) (K0 : Int32 → tmM → Option (Int32 × tmM)) (L : Int32 → Int32 → tmM → Option (Int32 × tmM)) (x2 x3 : Int32) (v : tmM) : Option (Int32 × tmM) := (if 60 ≤ x3 then K0 x2 v else tm_g (tm_ix 0 2) (tm_lt (([3, 4] : List Nat).getD (0 : Int32).toNatClampNeg 0) fun q2 => tm_g (tm_ix x3 60) (tm_g (tm_ix 0 2) (tm_lt (([(k2 + 3), (k2 + 4)] : List Nat).getD (0 : Int32).toNatClampNeg 0) fun q5 => tm_g (tm_ix x3 60) ((if (v q2 x3.toNatClampNeg) = (v q5 x3.toNatClampNeg) then tm_g (tm_ix 1 2) (tm_lt (([3, 4] : List Nat).getD (1 : Int32).toNatClampNeg 0) fun q9 => tm_g (tm_ix x3 60) (tm_g (tm_ix 1 2) (tm_lt (([(k2 + 3), (k2 + 4)] : List Nat).getD (1 : Int32).toNatClampNeg 0) fun q12 => tm_g (tm_ix x3 60) ((if (v q9 x3.toNatClampNeg) = (v q12 x3.toNatClampNeg) then f_X5_changesAgainst_53 k2 K0 L x2 x3 1 v else f_X5_changesAgainst_52 k2 K0 L x2 x3 v))))) else f_X5_changesAgainst_52 k2 K0 L x2 x3 v))))))
set_option maxRecDepth 100000 in
set_option maxHeartbeats 4000000 in
theorem w_X5_changesAgainst_4b {p : Program} {l : Launch} {e : Env} {s : State} {m : MethodId} {args : Array Value} {below : List Frame} {meth : Method} {c : Code} {D : va_G} {cy : Nat → ClassId} {ad : Nat → Nat} {A : Nat → Prop} {z : (Int32 × tmM)} {k2 : Nat} {K0 : Int32 → tmM → Option (Int32 × tmM)} {L : Int32 → Int32 → tmM → Option (Int32 × tmM)} (C0 : tmC p s m args meth c cX5_changesAgainst 5 (some .int) RX5 TMW tm_NWC D cy tm_shC ad 256 [] A) (hk2 : tm_isS k2) (hK0 : ∀ (a2 : Int32) (w : tmM), tmG p l e ({ frames := 0, cells := 0, slots := 0, locals := 0 } : Room) s m args below meth c 0 0 (MQ below (va_Qi (fun r u => z = (r, u)) (tmAt tm_shC 256 D cy ad A) A) args s 0 0 A) 5 D cy tm_shC ad 256 [] A z 74 [(2, .int a2)] [] w (K0 a2 w)) (hL : ∀ (a2 a3 : Int32) (w : tmM), tmG p l e ({ frames := 0, cells := 0, slots := 0, locals := 0 } : Room) s m args below meth c 0 0 (MQ below (va_Qi (fun r u => z = (r, u)) (tmAt tm_shC 256 D cy ad A) A) args s 0 0 A) 5 D cy tm_shC ad 256 [] A z 4 [(0, .ref (ad 1)), (1, .ref (ad (k2 + 1))), (2, .int a2), (3, .int a3)] [] w (L a2 a3 w)) (x2 x3 : Int32) (v : tmM) : tmG p l e ({ frames := 0, cells := 0, slots := 0, locals := 0 } : Room) s m args below meth c 0 0 (MQ below (va_Qi (fun r u => z = (r, u)) (tmAt tm_shC 256 D cy ad A) A) args s 0 0 A) 5 D cy tm_shC ad 256 [] A z 4 [(0, .ref (ad 1)), (1, .ref (ad (k2 + 1))), (2, .int x2), (3, .int x3)] [] v (f_X5_changesAgainst_4b k2 K0 L x2 x3 v) := by
  unfold f_X5_changesAgainst_4b
  refine tg_iload_n 3 C0 dX5_changesAgainst_4 rfl rfl ?_
  refine tg_bipush (x := 60) C0 dX5_changesAgainst_5 (by decide) ?_
  refine tg_icmp_ge 74 C0 dX5_changesAgainst_7 (by decide) (fun _ => ?_) (fun _ => ?_)
  · refine tg_sub [2] rfl ?_
    exact hK0 x2 v
  · refine tg_aload_n 0 C0 dX5_changesAgainst_10 rfl rfl ?_
    refine tg_get 1 2 C0 dX5_changesAgainst_11 (by decide) rfl rfl tu_X5 (by decide) tf_X5_17 rfl rfl rfl ?_
    refine tg_iconst (x := 0) C0 dX5_changesAgainst_14 (by decide) ?_
    refine tg_aald 2 C0 dX5_changesAgainst_15 (by decide) rfl (by decide) rfl (fun q2 h1 e3 => ?_)
    have q2f := tm_all (P := fun r => tm_shC r = .inl (0, 60) ∧ r < 256) h1 e3 (by decide +kernel)
    refine tg_iload_n 3 C0 dX5_changesAgainst_16 rfl rfl ?_
    refine tg_iald q2 C0 dX5_changesAgainst_17 q2f.2 q2f.1 (fun _ => ?_)
    refine tg_aload_n 1 C0 dX5_changesAgainst_18 rfl rfl ?_
    refine tg_get (k2 + 1) 2 C0 dX5_changesAgainst_19 (tm_Sl 1 (by decide) hk2) (tm_S 1 (by decide) hk2) rfl tu_X5 (by decide) tf_X5_17 rfl rfl rfl ?_
    refine tg_iconst (x := 0) C0 dX5_changesAgainst_22 (by decide) ?_
    refine tg_aald (k2 + 2) C0 dX5_changesAgainst_23 (tm_Sl 2 (by decide) hk2) (tm_S 2 (by decide) hk2) (by decide) rfl (fun q5 h4 e6 => ?_)
    have q5f := tm_all (P := fun r => tm_shC r = .inl (0, 60) ∧ r < 256) h4 e6 (tm_Sall2 hk2)
    refine tg_iload_n 3 C0 dX5_changesAgainst_24 rfl rfl ?_
    refine tg_iald q5 C0 dX5_changesAgainst_25 q5f.2 q5f.1 (fun _ => ?_)
    refine tg_icmp_ne 52 C0 dX5_changesAgainst_26 (by decide) (fun _ => ?_) (fun _ => ?_)
    · exact w_X5_changesAgainst_52 C0 hk2 hK0 hL x2 x3 v
    · refine tg_aload_n 0 C0 dX5_changesAgainst_29 rfl rfl ?_
      refine tg_get 1 2 C0 dX5_changesAgainst_30 (by decide) rfl rfl tu_X5 (by decide) tf_X5_17 rfl rfl rfl ?_
      refine tg_iconst (x := 1) C0 dX5_changesAgainst_33 (by decide) ?_
      refine tg_aald 2 C0 dX5_changesAgainst_34 (by decide) rfl (by decide) rfl (fun q9 h8 e10 => ?_)
      have q9f := tm_all (P := fun r => tm_shC r = .inl (0, 60) ∧ r < 256) h8 e10 (by decide +kernel)
      refine tg_iload_n 3 C0 dX5_changesAgainst_35 rfl rfl ?_
      refine tg_iald q9 C0 dX5_changesAgainst_36 q9f.2 q9f.1 (fun _ => ?_)
      refine tg_aload_n 1 C0 dX5_changesAgainst_37 rfl rfl ?_
      refine tg_get (k2 + 1) 2 C0 dX5_changesAgainst_38 (tm_Sl 1 (by decide) hk2) (tm_S 1 (by decide) hk2) rfl tu_X5 (by decide) tf_X5_17 rfl rfl rfl ?_
      refine tg_iconst (x := 1) C0 dX5_changesAgainst_41 (by decide) ?_
      refine tg_aald (k2 + 2) C0 dX5_changesAgainst_42 (tm_Sl 2 (by decide) hk2) (tm_S 2 (by decide) hk2) (by decide) rfl (fun q12 h11 e13 => ?_)
      have q12f := tm_all (P := fun r => tm_shC r = .inl (0, 60) ∧ r < 256) h11 e13 (tm_Sall2 hk2)
      refine tg_iload_n 3 C0 dX5_changesAgainst_43 rfl rfl ?_
      refine tg_iald q12 C0 dX5_changesAgainst_44 q12f.2 q12f.1 (fun _ => ?_)
      refine tg_icmp_ne 52 C0 dX5_changesAgainst_45 (by decide) (fun _ => ?_) (fun _ => ?_)
      · exact w_X5_changesAgainst_52 C0 hk2 hK0 hL x2 x3 v
      · refine tg_iconst (x := 1) C0 dX5_changesAgainst_48 (by decide) ?_
        refine tg_goto 53 C0 dX5_changesAgainst_49 (by decide) ?_
        exact w_X5_changesAgainst_53 C0 hk2 hK0 hL x2 x3 1 v
def f_X5_changesAgainst_4 (k2 : Nat) (K0 : Int32 → tmM → Option (Int32 × tmM)) : Nat → Int32 → Int32 → tmM → Option (Int32 × tmM)
  | 0 => fun _ _ _ => none
  | n + 1 => f_X5_changesAgainst_4b k2 K0 (f_X5_changesAgainst_4 k2 K0 n)
theorem w_X5_changesAgainst_4 {p : Program} {l : Launch} {e : Env} {s : State} {m : MethodId} {args : Array Value} {below : List Frame} {meth : Method} {c : Code} {D : va_G} {cy : Nat → ClassId} {ad : Nat → Nat} {A : Nat → Prop} {z : (Int32 × tmM)} {k2 : Nat} {K0 : Int32 → tmM → Option (Int32 × tmM)} (C0 : tmC p s m args meth c cX5_changesAgainst 5 (some .int) RX5 TMW tm_NWC D cy tm_shC ad 256 [] A) (hk2 : tm_isS k2) (hK0 : ∀ (a2 : Int32) (w : tmM), tmG p l e ({ frames := 0, cells := 0, slots := 0, locals := 0 } : Room) s m args below meth c 0 0 (MQ below (va_Qi (fun r u => z = (r, u)) (tmAt tm_shC 256 D cy ad A) A) args s 0 0 A) 5 D cy tm_shC ad 256 [] A z 74 [(2, .int a2)] [] w (K0 a2 w)) (nn : Nat) : ∀ (x2 x3 : Int32) (v : tmM), tmG p l e ({ frames := 0, cells := 0, slots := 0, locals := 0 } : Room) s m args below meth c 0 0 (MQ below (va_Qi (fun r u => z = (r, u)) (tmAt tm_shC 256 D cy ad A) A) args s 0 0 A) 5 D cy tm_shC ad 256 [] A z 4 [(0, .ref (ad 1)), (1, .ref (ad (k2 + 1))), (2, .int x2), (3, .int x3)] [] v (f_X5_changesAgainst_4 k2 K0 nn x2 x3 v) := by
  induction nn with
  | zero => intro _ _ _; exact tg_none
  | succ n ih => intro x2 x3 v; exact w_X5_changesAgainst_4b C0 hk2 hK0 ih x2 x3 v
def f_X5_changesAgainst (k2 : Nat) (v : tmM) : Option (Int32 × tmM) := f_X5_changesAgainst_4 k2 (fun x14 v15 => some (x14, v15)) 10000 0 0 v
set_option maxRecDepth 100000 in
set_option maxHeartbeats 4000000 in
theorem w_X5_changesAgainst {p : Program} {l : Launch} {e : Env} {s : State} {m : MethodId} {args : Array Value} {below : List Frame} {meth : Method} {c : Code} {D : va_G} {cy : Nat → ClassId} {ad : Nat → Nat} {A : Nat → Prop} {z : (Int32 × tmM)} {k2 : Nat} (C0 : tmC p s m args meth c cX5_changesAgainst 5 (some .int) RX5 TMW tm_NWC D cy tm_shC ad 256 [] A) (hk2 : tm_isS k2) (v : tmM) : tmG p l e ({ frames := 0, cells := 0, slots := 0, locals := 0 } : Room) s m args below meth c 0 0 (MQ below (va_Qi (fun r u => z = (r, u)) (tmAt tm_shC 256 D cy ad A) A) args s 0 0 A) 5 D cy tm_shC ad 256 [] A z 0 [(0, .ref (ad 1)), (1, .ref (ad (k2 + 1)))] [] v (f_X5_changesAgainst k2 v) := by
  unfold f_X5_changesAgainst
  refine tg_iconst (x := 0) C0 dX5_changesAgainst_0 (by decide) ?_
  refine tg_istore_n [(2, .int 0), (0, .ref (ad 1)), (1, .ref (ad (k2 + 1)))] C0 dX5_changesAgainst_1 rfl (by decide) rfl ?_
  refine tg_iconst (x := 0) C0 dX5_changesAgainst_2 (by decide) ?_
  refine tg_istore_n [(3, .int 0), (2, .int 0), (0, .ref (ad 1)), (1, .ref (ad (k2 + 1)))] C0 dX5_changesAgainst_3 rfl (by decide) rfl ?_
  refine tg_sub [2, 3, 1, 0] rfl ?_
  refine w_X5_changesAgainst_4 C0 hk2 (fun x14 v15 => ?_) 10000 0 0 v
  refine tg_iload_n 0 C0 dX5_changesAgainst_74 rfl rfl ?_
  exact tg_iret C0 dX5_changesAgainst_75
theorem c_X5_changesAgainst (l : Launch) (k2 : Nat) (hk2 : tm_isS k2) (v : tmM) : tmMi tm_NWC tm_shC 256 l yX5_changesAgainst (Cond.code yX5_changesAgainst cX5_changesAgainst 5 (some .int) :: TMW) ({ frames := 0, cells := 0, slots := 0, locals := 0 } : Room) (fun ad => [.ref (ad 1), .ref (ad (k2 + 1))]) v (f_X5_changesAgainst k2 v) :=
  tmMi.of (cc := cX5_changesAgainst) (nL := 5) (by decide +kernel) rfl tm_NWC_ok (fun _ => Nat.le_of_ble_eq_true rfl) (fun p e s m args below meth c A D cy ad z C0 => w_X5_changesAgainst C0 hk2 v)
-- ----- X5_copyCells
theorem dX5_copyCells_0 : decode cX5_copyCells 0 = .ok (.iconst 0, 1) := by decide +kernel
theorem dX5_copyCells_1 : decode cX5_copyCells 1 = .ok (.istore_n 2, 1) := by decide +kernel
theorem dX5_copyCells_2 : decode cX5_copyCells 2 = .ok (.iload_n 2, 1) := by decide +kernel
theorem dX5_copyCells_3 : decode cX5_copyCells 3 = .ok (.iconst 2, 1) := by decide +kernel
theorem dX5_copyCells_4 : decode cX5_copyCells 4 = .ok (.if_icmp .ge 22, 3) := by decide +kernel
theorem dX5_copyCells_7 : decode cX5_copyCells 7 = .ok (.aload_n 0, 1) := by decide +kernel
theorem dX5_copyCells_8 : decode cX5_copyCells 8 = .ok (.iload_n 2, 1) := by decide +kernel
theorem dX5_copyCells_9 : decode cX5_copyCells 9 = .ok (.aaload, 1) := by decide +kernel
theorem dX5_copyCells_10 : decode cX5_copyCells 10 = .ok (.iconst 0, 1) := by decide +kernel
theorem dX5_copyCells_11 : decode cX5_copyCells 11 = .ok (.aload_n 1, 1) := by decide +kernel
theorem dX5_copyCells_12 : decode cX5_copyCells 12 = .ok (.iload_n 2, 1) := by decide +kernel
theorem dX5_copyCells_13 : decode cX5_copyCells 13 = .ok (.aaload, 1) := by decide +kernel
theorem dX5_copyCells_14 : decode cX5_copyCells 14 = .ok (.iconst 0, 1) := by decide +kernel
theorem dX5_copyCells_15 : decode cX5_copyCells 15 = .ok (.bipush 60, 2) := by decide +kernel
theorem dX5_copyCells_17 : decode cX5_copyCells 17 = .ok (.invokestatic 30, 3) := by decide +kernel
theorem dX5_copyCells_20 : decode cX5_copyCells 20 = .ok (.iinc 2 1, 3) := by decide +kernel
theorem dX5_copyCells_23 : decode cX5_copyCells 23 = .ok (.goto (-21), 3) := by decide +kernel
theorem dX5_copyCells_26 : decode cX5_copyCells 26 = .ok (.return_, 1) := by decide +kernel
theorem tl_X5_30 : Cond.methodLink RX5 30 arraycopyName ∈ TMW := tm_in 508 (by decide +kernel) (by decide +kernel)
def f_X5_copyCells_2b (k1 : Nat) (k2 : Nat) (K0 : tmM → Option (Unit × tmM)) (L : Int32 → tmM → Option (Unit × tmM)) (x2 : Int32) (v : tmM) : Option (Unit × tmM) := (if 2 ≤ x2 then K0 v else tm_g (tm_ix x2 2) (tm_lt (([(k1 + 1), (k1 + 2)] : List Nat).getD x2.toNatClampNeg 0) fun q2 => tm_g (tm_ix x2 2) (tm_lt (([(k2 + 1), (k2 + 2)] : List Nat).getD x2.toNatClampNeg 0) fun q5 => tm_g (tm_cok 0 0 60 60 60) (tm_lt (tm_set v q5 (va_cpy (v q2) (v q5) (0 : Int32).toNatClampNeg (0 : Int32).toNatClampNeg (60 : Int32).toNatClampNeg)) fun v7 => L (x2 + 1) v7))))
set_option maxRecDepth 100000 in
set_option maxHeartbeats 4000000 in
theorem w_X5_copyCells_2b {p : Program} {l : Launch} {e : Env} {s : State} {m : MethodId} {args : Array Value} {below : List Frame} {meth : Method} {c : Code} {D : va_G} {cy : Nat → ClassId} {ad : Nat → Nat} {A : Nat → Prop} {z : (Unit × tmM)} {k1 : Nat} {k2 : Nat} {K0 : tmM → Option (Unit × tmM)} {L : Int32 → tmM → Option (Unit × tmM)} (C0 : tmC p s m args meth c cX5_copyCells 3 none RX5 TMW tm_NWC D cy tm_shC ad 256 [] A) (hk1 : tm_isO k1) (hk2 : tm_isO k2) (hK0 : ∀ (w : tmM), tmG p l e ({ frames := 1, cells := 0, slots := 0, locals := 40 } : Room) s m args below meth c 0 0 (MQ below (va_Qv (fun u => z = ((), u)) (tmAt tm_shC 256 D cy ad A) A) args s 0 0 A) 3 D cy tm_shC ad 256 [] A z 26 [] [] w (K0 w)) (hL : ∀ (a2 : Int32) (w : tmM), tmG p l e ({ frames := 1, cells := 0, slots := 0, locals := 40 } : Room) s m args below meth c 0 0 (MQ below (va_Qv (fun u => z = ((), u)) (tmAt tm_shC 256 D cy ad A) A) args s 0 0 A) 3 D cy tm_shC ad 256 [] A z 2 [(0, .ref (ad k1)), (1, .ref (ad k2)), (2, .int a2)] [] w (L a2 w)) (x2 : Int32) (v : tmM) : tmG p l e ({ frames := 1, cells := 0, slots := 0, locals := 40 } : Room) s m args below meth c 0 0 (MQ below (va_Qv (fun u => z = ((), u)) (tmAt tm_shC 256 D cy ad A) A) args s 0 0 A) 3 D cy tm_shC ad 256 [] A z 2 [(0, .ref (ad k1)), (1, .ref (ad k2)), (2, .int x2)] [] v (f_X5_copyCells_2b k1 k2 K0 L x2 v) := by
  unfold f_X5_copyCells_2b
  refine tg_iload_n 2 C0 dX5_copyCells_2 rfl rfl ?_
  refine tg_iconst (x := 2) C0 dX5_copyCells_3 (by decide) ?_
  refine tg_icmp_ge 26 C0 dX5_copyCells_4 (by decide) (fun _ => ?_) (fun _ => ?_)
  · refine tg_sub [] rfl ?_
    exact hK0 v
  · refine tg_aload_n 0 C0 dX5_copyCells_7 rfl rfl ?_
    refine tg_iload_n 2 C0 dX5_copyCells_8 rfl rfl ?_
    refine tg_aald k1 C0 dX5_copyCells_9 (tm_Ol hk1) hk1.1.1 (by decide) rfl (fun q2 h1 e3 => ?_)
    have q2f := tm_all (P := fun r => tm_shC r = .inl (0, 60) ∧ r < 256) h1 e3 (tm_Oall hk1)
    refine tg_iconst (x := 0) C0 dX5_copyCells_10 (by decide) ?_
    refine tg_aload_n 1 C0 dX5_copyCells_11 rfl rfl ?_
    refine tg_iload_n 2 C0 dX5_copyCells_12 rfl rfl ?_
    refine tg_aald k2 C0 dX5_copyCells_13 (tm_Ol hk2) hk2.1.1 (by decide) rfl (fun q5 h4 e6 => ?_)
    have q5f := tm_all (P := fun r => tm_shC r = .inl (0, 60) ∧ r < 256) h4 e6 (tm_Oall hk2)
    refine tg_iconst (x := 0) C0 dX5_copyCells_14 (by decide) ?_
    refine tg_bipush (x := 60) C0 dX5_copyCells_15 (by decide) ?_
    refine tg_copy q2 q5 C0 dX5_copyCells_17 q2f.2 q5f.2 q2f.1 q5f.1 tl_X5_30 tnat tsta tsys (by decide) (Nat.le_of_ble_eq_true rfl) ?_
    refine tg_letm (fun v7 _ => ?_)
    refine tg_iinc [(2, .int (x2 + 1)), (0, .ref (ad k1)), (1, .ref (ad k2))] 2 C0 dX5_copyCells_20 rfl rfl (by decide) rfl ?_
    refine tg_goto 2 C0 dX5_copyCells_23 (by decide) ?_
    refine tg_sub [1, 2, 0] rfl ?_
    exact hL (x2 + 1) v7
def f_X5_copyCells_2 (k1 : Nat) (k2 : Nat) (K0 : tmM → Option (Unit × tmM)) : Nat → Int32 → tmM → Option (Unit × tmM)
  | 0 => fun _ _ => none
  | n + 1 => f_X5_copyCells_2b k1 k2 K0 (f_X5_copyCells_2 k1 k2 K0 n)
theorem w_X5_copyCells_2 {p : Program} {l : Launch} {e : Env} {s : State} {m : MethodId} {args : Array Value} {below : List Frame} {meth : Method} {c : Code} {D : va_G} {cy : Nat → ClassId} {ad : Nat → Nat} {A : Nat → Prop} {z : (Unit × tmM)} {k1 : Nat} {k2 : Nat} {K0 : tmM → Option (Unit × tmM)} (C0 : tmC p s m args meth c cX5_copyCells 3 none RX5 TMW tm_NWC D cy tm_shC ad 256 [] A) (hk1 : tm_isO k1) (hk2 : tm_isO k2) (hK0 : ∀ (w : tmM), tmG p l e ({ frames := 1, cells := 0, slots := 0, locals := 40 } : Room) s m args below meth c 0 0 (MQ below (va_Qv (fun u => z = ((), u)) (tmAt tm_shC 256 D cy ad A) A) args s 0 0 A) 3 D cy tm_shC ad 256 [] A z 26 [] [] w (K0 w)) (nn : Nat) : ∀ (x2 : Int32) (v : tmM), tmG p l e ({ frames := 1, cells := 0, slots := 0, locals := 40 } : Room) s m args below meth c 0 0 (MQ below (va_Qv (fun u => z = ((), u)) (tmAt tm_shC 256 D cy ad A) A) args s 0 0 A) 3 D cy tm_shC ad 256 [] A z 2 [(0, .ref (ad k1)), (1, .ref (ad k2)), (2, .int x2)] [] v (f_X5_copyCells_2 k1 k2 K0 nn x2 v) := by
  induction nn with
  | zero => intro _ _; exact tg_none
  | succ n ih => intro x2 v; exact w_X5_copyCells_2b C0 hk1 hk2 hK0 ih x2 v
def f_X5_copyCells (k1 : Nat) (k2 : Nat) (v : tmM) : Option (Unit × tmM) := f_X5_copyCells_2 k1 k2 (fun v8 => some ((), v8)) 10000 0 v
set_option maxRecDepth 100000 in
set_option maxHeartbeats 4000000 in
theorem w_X5_copyCells {p : Program} {l : Launch} {e : Env} {s : State} {m : MethodId} {args : Array Value} {below : List Frame} {meth : Method} {c : Code} {D : va_G} {cy : Nat → ClassId} {ad : Nat → Nat} {A : Nat → Prop} {z : (Unit × tmM)} {k1 : Nat} {k2 : Nat} (C0 : tmC p s m args meth c cX5_copyCells 3 none RX5 TMW tm_NWC D cy tm_shC ad 256 [] A) (hk1 : tm_isO k1) (hk2 : tm_isO k2) (v : tmM) : tmG p l e ({ frames := 1, cells := 0, slots := 0, locals := 40 } : Room) s m args below meth c 0 0 (MQ below (va_Qv (fun u => z = ((), u)) (tmAt tm_shC 256 D cy ad A) A) args s 0 0 A) 3 D cy tm_shC ad 256 [] A z 0 [(0, .ref (ad k1)), (1, .ref (ad k2))] [] v (f_X5_copyCells k1 k2 v) := by
  unfold f_X5_copyCells
  refine tg_iconst (x := 0) C0 dX5_copyCells_0 (by decide) ?_
  refine tg_istore_n [(2, .int 0), (0, .ref (ad k1)), (1, .ref (ad k2))] C0 dX5_copyCells_1 rfl (by decide) rfl ?_
  refine tg_sub [1, 2, 0] rfl ?_
  refine w_X5_copyCells_2 C0 hk1 hk2 (fun v8 => ?_) 10000 0 v
  exact tg_vret C0 dX5_copyCells_26
theorem c_X5_copyCells (l : Launch) (k1 : Nat) (k2 : Nat) (hk1 : tm_isO k1) (hk2 : tm_isO k2) (v : tmM) : tmMv tm_NWC tm_shC 256 l yX5_copyCells (Cond.code yX5_copyCells cX5_copyCells 3 none :: TMW) ({ frames := 1, cells := 0, slots := 0, locals := 40 } : Room) (fun ad => [.ref (ad k1), .ref (ad k2)]) v (f_X5_copyCells k1 k2 v) :=
  tmMv.of (cc := cX5_copyCells) (nL := 3) (by decide +kernel) rfl tm_NWC_ok (fun _ => Nat.le_of_ble_eq_true rfl) (fun p e s m args below meth c A D cy ad z C0 => w_X5_copyCells C0 hk1 hk2 v)
-- ----- X5_become
theorem dX5_become_0 : decode cX5_become 0 = .ok (.aload_n 0, 1) := by decide +kernel
theorem dX5_become_1 : decode cX5_become 1 = .ok (.aload_n 1, 1) := by decide +kernel
theorem dX5_become_2 : decode cX5_become 2 = .ok (.getfield 9, 3) := by decide +kernel
theorem dX5_become_5 : decode cX5_become 5 = .ok (.putfield 9, 3) := by decide +kernel
theorem dX5_become_8 : decode cX5_become 8 = .ok (.aload_n 0, 1) := by decide +kernel
theorem dX5_become_9 : decode cX5_become 9 = .ok (.aload_n 1, 1) := by decide +kernel
theorem dX5_become_10 : decode cX5_become 10 = .ok (.getfield 23, 3) := by decide +kernel
theorem dX5_become_13 : decode cX5_become 13 = .ok (.putfield 23, 3) := by decide +kernel
theorem dX5_become_16 : decode cX5_become 16 = .ok (.aload_n 1, 1) := by decide +kernel
theorem dX5_become_17 : decode cX5_become 17 = .ok (.getfield 17, 3) := by decide +kernel
theorem dX5_become_20 : decode cX5_become 20 = .ok (.aload_n 0, 1) := by decide +kernel
theorem dX5_become_21 : decode cX5_become 21 = .ok (.getfield 17, 3) := by decide +kernel
theorem dX5_become_24 : decode cX5_become 24 = .ok (.invokestatic 26, 3) := by decide +kernel
theorem dX5_become_27 : decode cX5_become 27 = .ok (.aload_n 1, 1) := by decide +kernel
theorem dX5_become_28 : decode cX5_become 28 = .ok (.getfield 20, 3) := by decide +kernel
theorem dX5_become_31 : decode cX5_become 31 = .ok (.aload_n 0, 1) := by decide +kernel
theorem dX5_become_32 : decode cX5_become 32 = .ok (.getfield 20, 3) := by decide +kernel
theorem dX5_become_35 : decode cX5_become 35 = .ok (.invokestatic 26, 3) := by decide +kernel
theorem dX5_become_38 : decode cX5_become 38 = .ok (.return_, 1) := by decide +kernel
theorem tc_X5_copyCells : Cond.code yX5_copyCells cX5_copyCells 3 none ∈ TMW := tm_in 507 (by decide +kernel) (by decide +kernel)
theorem tl_X5_26 : Cond.methodLink RX5 26 yX5_copyCells ∈ TMW := tm_in 505 (by decide +kernel) (by decide +kernel)
theorem tst_X5_copyCells : Cond.static yX5_copyCells ∈ TMW := tm_in 506 (by decide +kernel) (by decide +kernel)
theorem tf_X5_20 : Cond.fieldLink RX5 20 "TableMove$Tables" (TX5 3).2.1 (TX5 3).2.2.1 ∈ TMW := tm_in 166 (by decide +kernel) (by decide +kernel)
def f_X5_become (k1 : Nat) (k2 : Nat) (v : tmM) : Option (Unit × tmM) := tm_lt (tm_up v (k1 + 1) 0 (v (k2 + 1) 0)) fun v1 => tm_lt (tm_up v1 (k1 + 1) 1 (v1 (k2 + 1) 1)) fun v2 => tm_cl (f_X5_copyCells (k2 + 2) (k1 + 2) v2) fun _ v3 => tm_cl (f_X5_copyCells (k2 + 5) (k1 + 5) v3) fun _ v5 => some ((), v5)
set_option maxRecDepth 100000 in
set_option maxHeartbeats 4000000 in
theorem w_X5_become {p : Program} {l : Launch} {e : Env} {s : State} {m : MethodId} {args : Array Value} {below : List Frame} {meth : Method} {c : Code} {D : va_G} {cy : Nat → ClassId} {ad : Nat → Nat} {A : Nat → Prop} {z : (Unit × tmM)} {k1 : Nat} {k2 : Nat} (C0 : tmC p s m args meth c cX5_become 2 none RX5 TMW tm_NWC D cy tm_shC ad 256 [] A) (hk1 : tm_isS k1) (hk2 : tm_isS k2) (v : tmM) : tmG p l e ({ frames := 2, cells := 0, slots := 0, locals := 62 } : Room) s m args below meth c 0 0 (MQ below (va_Qv (fun u => z = ((), u)) (tmAt tm_shC 256 D cy ad A) A) args s 0 0 A) 2 D cy tm_shC ad 256 [] A z 0 [(0, .ref (ad (k1 + 1))), (1, .ref (ad (k2 + 1)))] [] v (f_X5_become k1 k2 v) := by
  unfold f_X5_become
  refine tg_aload_n 0 C0 dX5_become_0 rfl rfl ?_
  refine tg_aload_n 1 C0 dX5_become_1 rfl rfl ?_
  refine tg_get (k2 + 1) 0 C0 dX5_become_2 (tm_Sl 1 (by decide) hk2) (tm_S 1 (by decide) hk2) rfl tu_X5 (by decide) tf_X5_9 rfl rfl rfl ?_
  refine tg_put (k1 + 1) 0 C0 dX5_become_5 (tm_Sl 1 (by decide) hk1) (tm_S 1 (by decide) hk1) rfl tu_X5 tyX5_ok nmX5 (by decide) tf_X5_9 rfl rfl rfl rfl rfl rfl ?_
  refine tg_letm (fun v1 _ => ?_)
  refine tg_aload_n 0 C0 dX5_become_8 rfl rfl ?_
  refine tg_aload_n 1 C0 dX5_become_9 rfl rfl ?_
  refine tg_get (k2 + 1) 1 C0 dX5_become_10 (tm_Sl 1 (by decide) hk2) (tm_S 1 (by decide) hk2) rfl tu_X5 (by decide) tf_X5_23 rfl rfl rfl ?_
  refine tg_put (k1 + 1) 1 C0 dX5_become_13 (tm_Sl 1 (by decide) hk1) (tm_S 1 (by decide) hk1) rfl tu_X5 tyX5_ok nmX5 (by decide) tf_X5_23 rfl rfl rfl rfl rfl rfl ?_
  refine tg_letm (fun v2 _ => ?_)
  refine tg_aload_n 1 C0 dX5_become_16 rfl rfl ?_
  refine tg_get (k2 + 1) 2 C0 dX5_become_17 (tm_Sl 1 (by decide) hk2) (tm_S 1 (by decide) hk2) rfl tu_X5 (by decide) tf_X5_17 rfl rfl rfl ?_
  refine tg_aload_n 0 C0 dX5_become_20 rfl rfl ?_
  refine tg_get (k1 + 1) 2 C0 dX5_become_21 (tm_Sl 1 (by decide) hk1) (tm_S 1 (by decide) hk1) rfl tu_X5 (by decide) tf_X5_17 rfl rfl rfl ?_
  refine tg_callSv (As := [.ref (ad (k2 + 2)), .ref (ad (k1 + 2))]) 2 C0 dX5_become_24 (c_X5_copyCells l (k2 + 2) (k1 + 2) (tm_SO 2 (by decide) hk2) (tm_SO 2 (by decide) hk1) v2) rfl rfl (tm_gc tc_X5_copyCells) tl_X5_26 tn_X5 tst_X5_copyCells  rfl rfl rfl rfl (by decide +kernel) ⟨by decide, by decide⟩ (Nat.le_of_ble_eq_true rfl) ⟨by decide, by decide⟩ (fun v3 _ => ?_)
  refine tg_aload_n 1 C0 dX5_become_27 rfl rfl ?_
  refine tg_get (k2 + 1) 3 C0 dX5_become_28 (tm_Sl 1 (by decide) hk2) (tm_S 1 (by decide) hk2) rfl tu_X5 (by decide) tf_X5_20 rfl rfl rfl ?_
  refine tg_aload_n 0 C0 dX5_become_31 rfl rfl ?_
  refine tg_get (k1 + 1) 3 C0 dX5_become_32 (tm_Sl 1 (by decide) hk1) (tm_S 1 (by decide) hk1) rfl tu_X5 (by decide) tf_X5_20 rfl rfl rfl ?_
  refine tg_callSv (As := [.ref (ad (k2 + 5)), .ref (ad (k1 + 5))]) 2 C0 dX5_become_35 (c_X5_copyCells l (k2 + 5) (k1 + 5) (tm_SO 5 (by decide) hk2) (tm_SO 5 (by decide) hk1) v3) rfl rfl (tm_gc tc_X5_copyCells) tl_X5_26 tn_X5 tst_X5_copyCells  rfl rfl rfl rfl (by decide +kernel) ⟨by decide, by decide⟩ (Nat.le_of_ble_eq_true rfl) ⟨by decide, by decide⟩ (fun v5 _ => ?_)
  exact tg_vret C0 dX5_become_38
theorem c_X5_become (l : Launch) (k1 : Nat) (k2 : Nat) (hk1 : tm_isS k1) (hk2 : tm_isS k2) (v : tmM) : tmMv tm_NWC tm_shC 256 l yX5_become (Cond.code yX5_become cX5_become 2 none :: TMW) ({ frames := 2, cells := 0, slots := 0, locals := 62 } : Room) (fun ad => [.ref (ad (k1 + 1)), .ref (ad (k2 + 1))]) v (f_X5_become k1 k2 v) :=
  tmMv.of (cc := cX5_become) (nL := 2) (by decide +kernel) rfl tm_NWC_ok (fun _ => Nat.le_of_ble_eq_true rfl) (fun p e s m args below meth c A D cy ad z C0 => w_X5_become C0 hk1 hk2 v)
-- ----- X5_keepAside
theorem dX5_keepAside_0 : decode cX5_keepAside 0 = .ok (.aload_n 0, 1) := by decide +kernel
theorem dX5_keepAside_1 : decode cX5_keepAside 1 = .ok (.getfield 17, 3) := by decide +kernel
theorem dX5_keepAside_4 : decode cX5_keepAside 4 = .ok (.aload_n 0, 1) := by decide +kernel
theorem dX5_keepAside_5 : decode cX5_keepAside 5 = .ok (.getfield 20, 3) := by decide +kernel
theorem dX5_keepAside_8 : decode cX5_keepAside 8 = .ok (.invokestatic 26, 3) := by decide +kernel
theorem dX5_keepAside_11 : decode cX5_keepAside 11 = .ok (.return_, 1) := by decide +kernel
def f_X5_keepAside (v : tmM) : Option (Unit × tmM) := tm_cl (f_X5_copyCells 2 5 v) fun _ v1 => some ((), v1)
set_option maxRecDepth 100000 in
set_option maxHeartbeats 4000000 in
theorem w_X5_keepAside {p : Program} {l : Launch} {e : Env} {s : State} {m : MethodId} {args : Array Value} {below : List Frame} {meth : Method} {c : Code} {D : va_G} {cy : Nat → ClassId} {ad : Nat → Nat} {A : Nat → Prop} {z : (Unit × tmM)} (C0 : tmC p s m args meth c cX5_keepAside 1 none RX5 TMW tm_NWC D cy tm_shC ad 256 [] A) (v : tmM) : tmG p l e ({ frames := 2, cells := 0, slots := 0, locals := 62 } : Room) s m args below meth c 0 0 (MQ below (va_Qv (fun u => z = ((), u)) (tmAt tm_shC 256 D cy ad A) A) args s 0 0 A) 1 D cy tm_shC ad 256 [] A z 0 [(0, .ref (ad 1))] [] v (f_X5_keepAside v) := by
  unfold f_X5_keepAside
  refine tg_aload_n 0 C0 dX5_keepAside_0 rfl rfl ?_
  refine tg_get 1 2 C0 dX5_keepAside_1 (by decide) rfl rfl tu_X5 (by decide) tf_X5_17 rfl rfl rfl ?_
  refine tg_aload_n 0 C0 dX5_keepAside_4 rfl rfl ?_
  refine tg_get 1 3 C0 dX5_keepAside_5 (by decide) rfl rfl tu_X5 (by decide) tf_X5_20 rfl rfl rfl ?_
  refine tg_callSv (As := [.ref (ad 2), .ref (ad 5)]) 2 C0 dX5_keepAside_8 (c_X5_copyCells l 2 5 (tm_SO 2 (by decide) tm_S0) (tm_SO 5 (by decide) tm_S0) v) rfl rfl (tm_gc tc_X5_copyCells) tl_X5_26 tn_X5 tst_X5_copyCells  rfl rfl rfl rfl (by decide +kernel) ⟨by decide, by decide⟩ (Nat.le_of_ble_eq_true rfl) ⟨by decide, by decide⟩ (fun v1 _ => ?_)
  exact tg_vret C0 dX5_keepAside_11
theorem c_X5_keepAside (l : Launch) (v : tmM) : tmMv tm_NWC tm_shC 256 l yX5_keepAside (Cond.code yX5_keepAside cX5_keepAside 1 none :: TMW) ({ frames := 2, cells := 0, slots := 0, locals := 62 } : Room) (fun ad => [.ref (ad 1)]) v (f_X5_keepAside v) :=
  tmMv.of (cc := cX5_keepAside) (nL := 1) (by decide +kernel) rfl tm_NWC_ok (fun _ => Nat.le_of_ble_eq_true rfl) (fun p e s m args below meth c A D cy ad z C0 => w_X5_keepAside C0 v)
-- ----- X5_takeBack
theorem dX5_takeBack_0 : decode cX5_takeBack 0 = .ok (.aload_n 0, 1) := by decide +kernel
theorem dX5_takeBack_1 : decode cX5_takeBack 1 = .ok (.getfield 20, 3) := by decide +kernel
theorem dX5_takeBack_4 : decode cX5_takeBack 4 = .ok (.aload_n 0, 1) := by decide +kernel
theorem dX5_takeBack_5 : decode cX5_takeBack 5 = .ok (.getfield 17, 3) := by decide +kernel
theorem dX5_takeBack_8 : decode cX5_takeBack 8 = .ok (.invokestatic 26, 3) := by decide +kernel
theorem dX5_takeBack_11 : decode cX5_takeBack 11 = .ok (.return_, 1) := by decide +kernel
def f_X5_takeBack (v : tmM) : Option (Unit × tmM) := tm_cl (f_X5_copyCells 5 2 v) fun _ v1 => some ((), v1)
set_option maxRecDepth 100000 in
set_option maxHeartbeats 4000000 in
theorem w_X5_takeBack {p : Program} {l : Launch} {e : Env} {s : State} {m : MethodId} {args : Array Value} {below : List Frame} {meth : Method} {c : Code} {D : va_G} {cy : Nat → ClassId} {ad : Nat → Nat} {A : Nat → Prop} {z : (Unit × tmM)} (C0 : tmC p s m args meth c cX5_takeBack 1 none RX5 TMW tm_NWC D cy tm_shC ad 256 [] A) (v : tmM) : tmG p l e ({ frames := 2, cells := 0, slots := 0, locals := 62 } : Room) s m args below meth c 0 0 (MQ below (va_Qv (fun u => z = ((), u)) (tmAt tm_shC 256 D cy ad A) A) args s 0 0 A) 1 D cy tm_shC ad 256 [] A z 0 [(0, .ref (ad 1))] [] v (f_X5_takeBack v) := by
  unfold f_X5_takeBack
  refine tg_aload_n 0 C0 dX5_takeBack_0 rfl rfl ?_
  refine tg_get 1 3 C0 dX5_takeBack_1 (by decide) rfl rfl tu_X5 (by decide) tf_X5_20 rfl rfl rfl ?_
  refine tg_aload_n 0 C0 dX5_takeBack_4 rfl rfl ?_
  refine tg_get 1 2 C0 dX5_takeBack_5 (by decide) rfl rfl tu_X5 (by decide) tf_X5_17 rfl rfl rfl ?_
  refine tg_callSv (As := [.ref (ad 5), .ref (ad 2)]) 2 C0 dX5_takeBack_8 (c_X5_copyCells l 5 2 (tm_SO 5 (by decide) tm_S0) (tm_SO 2 (by decide) tm_S0) v) rfl rfl (tm_gc tc_X5_copyCells) tl_X5_26 tn_X5 tst_X5_copyCells  rfl rfl rfl rfl (by decide +kernel) ⟨by decide, by decide⟩ (Nat.le_of_ble_eq_true rfl) ⟨by decide, by decide⟩ (fun v1 _ => ?_)
  exact tg_vret C0 dX5_takeBack_11
theorem c_X5_takeBack (l : Launch) (v : tmM) : tmMv tm_NWC tm_shC 256 l yX5_takeBack (Cond.code yX5_takeBack cX5_takeBack 1 none :: TMW) ({ frames := 2, cells := 0, slots := 0, locals := 62 } : Room) (fun ad => [.ref (ad 1)]) v (f_X5_takeBack v) :=
  tmMv.of (cc := cX5_takeBack) (nL := 1) (by decide +kernel) rfl tm_NWC_ok (fun _ => Nat.le_of_ble_eq_true rfl) (fun p e s m args below meth c A D cy ad z C0 => w_X5_takeBack C0 v)
-- ----- X5_clear
theorem dX5_clear_0 : decode cX5_clear 0 = .ok (.iconst 0, 1) := by decide +kernel
theorem dX5_clear_1 : decode cX5_clear 1 = .ok (.istore_n 2, 1) := by decide +kernel
theorem dX5_clear_2 : decode cX5_clear 2 = .ok (.iload_n 2, 1) := by decide +kernel
theorem dX5_clear_3 : decode cX5_clear 3 = .ok (.bipush 60, 2) := by decide +kernel
theorem dX5_clear_5 : decode cX5_clear 5 = .ok (.if_icmp .ge 18, 3) := by decide +kernel
theorem dX5_clear_8 : decode cX5_clear 8 = .ok (.aload_n 0, 1) := by decide +kernel
theorem dX5_clear_9 : decode cX5_clear 9 = .ok (.getfield 17, 3) := by decide +kernel
theorem dX5_clear_12 : decode cX5_clear 12 = .ok (.iload_n 1, 1) := by decide +kernel
theorem dX5_clear_13 : decode cX5_clear 13 = .ok (.aaload, 1) := by decide +kernel
theorem dX5_clear_14 : decode cX5_clear 14 = .ok (.iload_n 2, 1) := by decide +kernel
theorem dX5_clear_15 : decode cX5_clear 15 = .ok (.iconst (-1), 1) := by decide +kernel
theorem dX5_clear_16 : decode cX5_clear 16 = .ok (.iastore, 1) := by decide +kernel
theorem dX5_clear_17 : decode cX5_clear 17 = .ok (.iinc 2 1, 3) := by decide +kernel
theorem dX5_clear_20 : decode cX5_clear 20 = .ok (.goto (-18), 3) := by decide +kernel
theorem dX5_clear_23 : decode cX5_clear 23 = .ok (.return_, 1) := by decide +kernel
def f_X5_clear_2b (K0 : tmM → Option (Unit × tmM)) (L : Int32 → Int32 → tmM → Option (Unit × tmM)) (x1 x2 : Int32) (v : tmM) : Option (Unit × tmM) := (if 60 ≤ x2 then K0 v else tm_g (tm_ix x1 2) (tm_lt (([3, 4] : List Nat).getD x1.toNatClampNeg 0) fun q2 => tm_g (tm_ix x2 60) (tm_lt (tm_up v q2 x2.toNatClampNeg (-1)) fun v4 => L x1 (x2 + 1) v4)))
set_option maxRecDepth 100000 in
set_option maxHeartbeats 4000000 in
theorem w_X5_clear_2b {p : Program} {l : Launch} {e : Env} {s : State} {m : MethodId} {args : Array Value} {below : List Frame} {meth : Method} {c : Code} {D : va_G} {cy : Nat → ClassId} {ad : Nat → Nat} {A : Nat → Prop} {z : (Unit × tmM)} {K0 : tmM → Option (Unit × tmM)} {L : Int32 → Int32 → tmM → Option (Unit × tmM)} (C0 : tmC p s m args meth c cX5_clear 3 none RX5 TMW tm_NWC D cy tm_shC ad 256 [] A) (hK0 : ∀ (w : tmM), tmG p l e ({ frames := 0, cells := 0, slots := 0, locals := 0 } : Room) s m args below meth c 0 0 (MQ below (va_Qv (fun u => z = ((), u)) (tmAt tm_shC 256 D cy ad A) A) args s 0 0 A) 3 D cy tm_shC ad 256 [] A z 23 [] [] w (K0 w)) (hL : ∀ (a1 a2 : Int32) (w : tmM), tmG p l e ({ frames := 0, cells := 0, slots := 0, locals := 0 } : Room) s m args below meth c 0 0 (MQ below (va_Qv (fun u => z = ((), u)) (tmAt tm_shC 256 D cy ad A) A) args s 0 0 A) 3 D cy tm_shC ad 256 [] A z 2 [(0, .ref (ad 1)), (1, .int a1), (2, .int a2)] [] w (L a1 a2 w)) (x1 x2 : Int32) (v : tmM) : tmG p l e ({ frames := 0, cells := 0, slots := 0, locals := 0 } : Room) s m args below meth c 0 0 (MQ below (va_Qv (fun u => z = ((), u)) (tmAt tm_shC 256 D cy ad A) A) args s 0 0 A) 3 D cy tm_shC ad 256 [] A z 2 [(0, .ref (ad 1)), (1, .int x1), (2, .int x2)] [] v (f_X5_clear_2b K0 L x1 x2 v) := by
  unfold f_X5_clear_2b
  refine tg_iload_n 2 C0 dX5_clear_2 rfl rfl ?_
  refine tg_bipush (x := 60) C0 dX5_clear_3 (by decide) ?_
  refine tg_icmp_ge 23 C0 dX5_clear_5 (by decide) (fun _ => ?_) (fun _ => ?_)
  · refine tg_sub [] rfl ?_
    exact hK0 v
  · refine tg_aload_n 0 C0 dX5_clear_8 rfl rfl ?_
    refine tg_get 1 2 C0 dX5_clear_9 (by decide) rfl rfl tu_X5 (by decide) tf_X5_17 rfl rfl rfl ?_
    refine tg_iload_n 1 C0 dX5_clear_12 rfl rfl ?_
    refine tg_aald 2 C0 dX5_clear_13 (by decide) rfl (by decide) rfl (fun q2 h1 e3 => ?_)
    have q2f := tm_all (P := fun r => tm_shC r = .inl (0, 60) ∧ r < 256) h1 e3 (by decide +kernel)
    refine tg_iload_n 2 C0 dX5_clear_14 rfl rfl ?_
    refine tg_iconst (x := (-1)) C0 dX5_clear_15 (by decide) ?_
    refine tg_iast q2 C0 dX5_clear_16 q2f.2 q2f.1 (fun _ => ?_)
    refine tg_letm (fun v4 _ => ?_)
    refine tg_iinc [(2, .int (x2 + 1)), (0, .ref (ad 1)), (1, .int x1)] 2 C0 dX5_clear_17 rfl rfl (by decide) rfl ?_
    refine tg_goto 2 C0 dX5_clear_20 (by decide) ?_
    refine tg_sub [1, 2, 0] rfl ?_
    exact hL x1 (x2 + 1) v4
def f_X5_clear_2 (K0 : tmM → Option (Unit × tmM)) : Nat → Int32 → Int32 → tmM → Option (Unit × tmM)
  | 0 => fun _ _ _ => none
  | n + 1 => f_X5_clear_2b K0 (f_X5_clear_2 K0 n)
theorem w_X5_clear_2 {p : Program} {l : Launch} {e : Env} {s : State} {m : MethodId} {args : Array Value} {below : List Frame} {meth : Method} {c : Code} {D : va_G} {cy : Nat → ClassId} {ad : Nat → Nat} {A : Nat → Prop} {z : (Unit × tmM)} {K0 : tmM → Option (Unit × tmM)} (C0 : tmC p s m args meth c cX5_clear 3 none RX5 TMW tm_NWC D cy tm_shC ad 256 [] A) (hK0 : ∀ (w : tmM), tmG p l e ({ frames := 0, cells := 0, slots := 0, locals := 0 } : Room) s m args below meth c 0 0 (MQ below (va_Qv (fun u => z = ((), u)) (tmAt tm_shC 256 D cy ad A) A) args s 0 0 A) 3 D cy tm_shC ad 256 [] A z 23 [] [] w (K0 w)) (nn : Nat) : ∀ (x1 x2 : Int32) (v : tmM), tmG p l e ({ frames := 0, cells := 0, slots := 0, locals := 0 } : Room) s m args below meth c 0 0 (MQ below (va_Qv (fun u => z = ((), u)) (tmAt tm_shC 256 D cy ad A) A) args s 0 0 A) 3 D cy tm_shC ad 256 [] A z 2 [(0, .ref (ad 1)), (1, .int x1), (2, .int x2)] [] v (f_X5_clear_2 K0 nn x1 x2 v) := by
  induction nn with
  | zero => intro _ _ _; exact tg_none
  | succ n ih => intro x1 x2 v; exact w_X5_clear_2b C0 hK0 ih x1 x2 v
def f_X5_clear (x1 : Int32) (v : tmM) : Option (Unit × tmM) := f_X5_clear_2 (fun v5 => some ((), v5)) 10000 x1 0 v
set_option maxRecDepth 100000 in
set_option maxHeartbeats 4000000 in
theorem w_X5_clear {p : Program} {l : Launch} {e : Env} {s : State} {m : MethodId} {args : Array Value} {below : List Frame} {meth : Method} {c : Code} {D : va_G} {cy : Nat → ClassId} {ad : Nat → Nat} {A : Nat → Prop} {z : (Unit × tmM)} (C0 : tmC p s m args meth c cX5_clear 3 none RX5 TMW tm_NWC D cy tm_shC ad 256 [] A) (x1 : Int32) (v : tmM) : tmG p l e ({ frames := 0, cells := 0, slots := 0, locals := 0 } : Room) s m args below meth c 0 0 (MQ below (va_Qv (fun u => z = ((), u)) (tmAt tm_shC 256 D cy ad A) A) args s 0 0 A) 3 D cy tm_shC ad 256 [] A z 0 [(0, .ref (ad 1)), (1, .int x1)] [] v (f_X5_clear x1 v) := by
  unfold f_X5_clear
  refine tg_iconst (x := 0) C0 dX5_clear_0 (by decide) ?_
  refine tg_istore_n [(2, .int 0), (0, .ref (ad 1)), (1, .int x1)] C0 dX5_clear_1 rfl (by decide) rfl ?_
  refine tg_sub [1, 2, 0] rfl ?_
  refine w_X5_clear_2 C0 (fun v5 => ?_) 10000 x1 0 v
  exact tg_vret C0 dX5_clear_23
theorem c_X5_clear (l : Launch) (x1 : Int32) (v : tmM) : tmMv tm_NWC tm_shC 256 l yX5_clear (Cond.code yX5_clear cX5_clear 3 none :: TMW) ({ frames := 0, cells := 0, slots := 0, locals := 0 } : Room) (fun ad => [.ref (ad 1), .int x1]) v (f_X5_clear x1 v) :=
  tmMv.of (cc := cX5_clear) (nL := 3) (by decide +kernel) rfl tm_NWC_ok (fun _ => Nat.le_of_ble_eq_true rfl) (fun p e s m args below meth c A D cy ad z C0 => w_X5_clear C0 x1 v)
