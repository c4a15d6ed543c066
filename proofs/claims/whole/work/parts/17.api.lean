-- ----- X7_requireIndex
theorem dX7_requireIndex_0 : decode cX7_requireIndex 0 = .ok (.iload_n 0, 1) := by decide +kernel
theorem dX7_requireIndex_1 : decode cX7_requireIndex 1 = .ok (.ifCond .ne 14, 3) := by decide +kernel
theorem dX7_requireIndex_4 : decode cX7_requireIndex 4 = .ok (.new 314, 3) := by decide +kernel
theorem dX7_requireIndex_7 : decode cX7_requireIndex 7 = .ok (.dup, 1) := by decide +kernel
theorem dX7_requireIndex_8 : decode cX7_requireIndex 8 = .ok (.ldc_w 316, 3) := by decide +kernel
theorem dX7_requireIndex_11 : decode cX7_requireIndex 11 = .ok (.invokespecial 318, 3) := by decide +kernel
theorem dX7_requireIndex_14 : decode cX7_requireIndex 14 = .ok (.athrow, 1) := by decide +kernel
theorem dX7_requireIndex_15 : decode cX7_requireIndex 15 = .ok (.return_, 1) := by decide +kernel
theorem tcl_X7_314 : Cond.classLink RX7 314 (tm_ex 0) ∈ TMW := tm_in 946 (by decide +kernel) (by decide +kernel)
theorem tcn_0 : Cond.initialized (tm_ex 0) ∈ TMW := tm_in 131 (by decide +kernel) (by decide +kernel)
theorem xa_X7_requireIndex :  ∀ w ∈ (vx_atS RX7 318 (tm_ex 0) ["java/lang/RuntimeException", "java/lang/Exception"]).filter goodWord, w ∈ TMW := fun w h => List.mem_filter.mpr ⟨List.mem_append_left _ ((by decide +kernel : ∀ w ∈ (vx_atS RX7 318 (tm_ex 0) ["java/lang/RuntimeException", "java/lang/Exception"]).filter goodWord, w ∈ lw_tbl) w h), (List.mem_filter.mp h).2⟩
theorem xb_X7_requireIndex : ∀ w ∈ (vx_atS RX7 318 (tm_ex 0) ["java/lang/RuntimeException", "java/lang/Exception"]).filter (fun w => !goodWord w), w ∈ tm_NWC := by decide +kernel
theorem xc_X7_requireIndex : ∀ w ∈ Cond.classLink RX7 314 (tm_ex 0) :: Cond.initialized (tm_ex 0) :: vx_atS RX7 318 (tm_ex 0) ["java/lang/RuntimeException", "java/lang/Exception"], vx_ot w = true := by decide +kernel
def f_X7_requireIndex (x0 : Int32) (v : tmM) : Option (tmR) := (if x0 = 0 then some ((1, 0), v) else some ((0, 0), v))
set_option maxRecDepth 100000 in
set_option maxHeartbeats 4000000 in
theorem w_X7_requireIndex {p : Program} {l : Launch} {e : Env} {s : State} {m : MethodId} {args : Array Value} {below : List Frame} {meth : Method} {c : Code} {D : va_G} {cy : Nat → ClassId} {ad : Nat → Nat} {A : Nat → Prop} {z : (tmR)} (C0 : tmC p s m args meth c cX7_requireIndex 1 none RX7 TMW tm_NWC D cy tm_shC ad 256 [] A) (hl : l.stackTraces = false) (hE : tmTh A s s.heap) (hout : ∀ x ∈ c.exceptionTable.toList, False) (x0 : Int32) (v : tmM) : tmG p l e ({ frames := 6, cells := 1, slots := 6, locals := 90 } : Room) s m args below meth c 0 0 (vx_MQ below (va_Qv (fun u => z = ((0, 0), u)) (tmAt tm_shC 256 D cy ad A) A) (tmXX tm_shC 256 D cy ad A 0 z) args s 1 6 A) 1 D cy tm_shC ad 256 [] A z 0 [(0, .int x0)] [] v (f_X7_requireIndex x0 v) := by
  unfold f_X7_requireIndex
  refine tg_iload_n 0 C0 dX7_requireIndex_0 rfl rfl ?_
  refine tg_if_ne 15 C0 dX7_requireIndex_1 (by decide) (fun _ => ?_) (fun _ => ?_)
  · exact tg_xvret C0 dX7_requireIndex_15 ⟨by decide, by decide⟩
  · exact tg_throw 0 (names := ["java/lang/RuntimeException", "java/lang/Exception"]) hl C0 hE hout (by decide +kernel) (by decide +kernel) tcl_X7_314 tcn_0 hE.2.2.1 xa_X7_requireIndex xb_X7_requireIndex xc_X7_requireIndex dX7_requireIndex_4 dX7_requireIndex_7 dX7_requireIndex_8 dX7_requireIndex_11 dX7_requireIndex_14 (by decide) (by decide) ⟨by decide, by decide⟩ ⟨by decide, by decide⟩
theorem c_X7_requireIndex (l : Launch) (hl : l.stackTraces = false) (x0 : Int32) (v : tmM) : tmXv tm_NWC tm_shC 256 l yX7_requireIndex (Cond.code yX7_requireIndex cX7_requireIndex 1 none :: TMW) ({ frames := 6, cells := 1, slots := 6, locals := 90 } : Room) (fun ad => [.int x0]) v 1 6 (f_X7_requireIndex x0 v) :=
  tmXv.of (cc := cX7_requireIndex) (nL := 1) (by decide +kernel) rfl tm_NWC_ok (fun _ => Nat.le_of_ble_eq_true rfl) (fun p e s m args below meth c A D cy ad z C0 hE hout => w_X7_requireIndex C0 hl hE hout x0 v)
-- ----- X7_requireArgument
theorem dX7_requireArgument_0 : decode cX7_requireArgument 0 = .ok (.iload_n 0, 1) := by decide +kernel
theorem dX7_requireArgument_1 : decode cX7_requireArgument 1 = .ok (.ifCond .ne 14, 3) := by decide +kernel
theorem dX7_requireArgument_4 : decode cX7_requireArgument 4 = .ok (.new 321, 3) := by decide +kernel
theorem dX7_requireArgument_7 : decode cX7_requireArgument 7 = .ok (.dup, 1) := by decide +kernel
theorem dX7_requireArgument_8 : decode cX7_requireArgument 8 = .ok (.ldc_w 323, 3) := by decide +kernel
theorem dX7_requireArgument_11 : decode cX7_requireArgument 11 = .ok (.invokespecial 325, 3) := by decide +kernel
theorem dX7_requireArgument_14 : decode cX7_requireArgument 14 = .ok (.athrow, 1) := by decide +kernel
theorem dX7_requireArgument_15 : decode cX7_requireArgument 15 = .ok (.return_, 1) := by decide +kernel
theorem tcl_X7_321 : Cond.classLink RX7 321 (tm_ex 1) ∈ TMW := tm_in 906 (by decide +kernel) (by decide +kernel)
theorem tcn_1 : Cond.initialized (tm_ex 1) ∈ TMW := tm_in 126 (by decide +kernel) (by decide +kernel)
theorem xa_X7_requireArgument :  ∀ w ∈ (vx_atS RX7 325 (tm_ex 1) ["java/lang/RuntimeException", "java/lang/Exception"]).filter goodWord, w ∈ TMW := fun w h => List.mem_filter.mpr ⟨List.mem_append_left _ ((by decide +kernel : ∀ w ∈ (vx_atS RX7 325 (tm_ex 1) ["java/lang/RuntimeException", "java/lang/Exception"]).filter goodWord, w ∈ lw_tbl) w h), (List.mem_filter.mp h).2⟩
theorem xb_X7_requireArgument : ∀ w ∈ (vx_atS RX7 325 (tm_ex 1) ["java/lang/RuntimeException", "java/lang/Exception"]).filter (fun w => !goodWord w), w ∈ tm_NWC := by decide +kernel
theorem xc_X7_requireArgument : ∀ w ∈ Cond.classLink RX7 321 (tm_ex 1) :: Cond.initialized (tm_ex 1) :: vx_atS RX7 325 (tm_ex 1) ["java/lang/RuntimeException", "java/lang/Exception"], vx_ot w = true := by decide +kernel
def f_X7_requireArgument (x0 : Int32) (v : tmM) : Option (tmR) := (if x0 = 0 then some ((2, 0), v) else some ((0, 0), v))
set_option maxRecDepth 100000 in
set_option maxHeartbeats 4000000 in
theorem w_X7_requireArgument {p : Program} {l : Launch} {e : Env} {s : State} {m : MethodId} {args : Array Value} {below : List Frame} {meth : Method} {c : Code} {D : va_G} {cy : Nat → ClassId} {ad : Nat → Nat} {A : Nat → Prop} {z : (tmR)} (C0 : tmC p s m args meth c cX7_requireArgument 1 none RX7 TMW tm_NWC D cy tm_shC ad 256 [] A) (hl : l.stackTraces = false) (hE : tmTh A s s.heap) (hout : ∀ x ∈ c.exceptionTable.toList, False) (x0 : Int32) (v : tmM) : tmG p l e ({ frames := 6, cells := 1, slots := 6, locals := 90 } : Room) s m args below meth c 0 0 (vx_MQ below (va_Qv (fun u => z = ((0, 0), u)) (tmAt tm_shC 256 D cy ad A) A) (tmXX tm_shC 256 D cy ad A 0 z) args s 1 6 A) 1 D cy tm_shC ad 256 [] A z 0 [(0, .int x0)] [] v (f_X7_requireArgument x0 v) := by
  unfold f_X7_requireArgument
  refine tg_iload_n 0 C0 dX7_requireArgument_0 rfl rfl ?_
  refine tg_if_ne 15 C0 dX7_requireArgument_1 (by decide) (fun _ => ?_) (fun _ => ?_)
  · exact tg_xvret C0 dX7_requireArgument_15 ⟨by decide, by decide⟩
  · exact tg_throw 1 (names := ["java/lang/RuntimeException", "java/lang/Exception"]) hl C0 hE hout (by decide +kernel) (by decide +kernel) tcl_X7_321 tcn_1 hE.2.2.2.1 xa_X7_requireArgument xb_X7_requireArgument xc_X7_requireArgument dX7_requireArgument_4 dX7_requireArgument_7 dX7_requireArgument_8 dX7_requireArgument_11 dX7_requireArgument_14 (by decide) (by decide) ⟨by decide, by decide⟩ ⟨by decide, by decide⟩
theorem c_X7_requireArgument (l : Launch) (hl : l.stackTraces = false) (x0 : Int32) (v : tmM) : tmXv tm_NWC tm_shC 256 l yX7_requireArgument (Cond.code yX7_requireArgument cX7_requireArgument 1 none :: TMW) ({ frames := 6, cells := 1, slots := 6, locals := 90 } : Room) (fun ad => [.int x0]) v 1 6 (f_X7_requireArgument x0 v) :=
  tmXv.of (cc := cX7_requireArgument) (nL := 1) (by decide +kernel) rfl tm_NWC_ok (fun _ => Nat.le_of_ble_eq_true rfl) (fun p e s m args below meth c A D cy ad z C0 hE hout => w_X7_requireArgument C0 hl hE hout x0 v)
-- ----- X7_requireState
theorem dX7_requireState_0 : decode cX7_requireState 0 = .ok (.iload_n 0, 1) := by decide +kernel
theorem dX7_requireState_1 : decode cX7_requireState 1 = .ok (.ifCond .ne 14, 3) := by decide +kernel
theorem dX7_requireState_4 : decode cX7_requireState 4 = .ok (.new 326, 3) := by decide +kernel
theorem dX7_requireState_7 : decode cX7_requireState 7 = .ok (.dup, 1) := by decide +kernel
theorem dX7_requireState_8 : decode cX7_requireState 8 = .ok (.ldc_w 328, 3) := by decide +kernel
theorem dX7_requireState_11 : decode cX7_requireState 11 = .ok (.invokespecial 330, 3) := by decide +kernel
theorem dX7_requireState_14 : decode cX7_requireState 14 = .ok (.athrow, 1) := by decide +kernel
theorem dX7_requireState_15 : decode cX7_requireState 15 = .ok (.return_, 1) := by decide +kernel
theorem tcl_X7_326 : Cond.classLink RX7 326 (tm_ex 2) ∈ TMW := tm_in 826 (by decide +kernel) (by decide +kernel)
theorem tcn_2 : Cond.initialized (tm_ex 2) ∈ TMW := tm_in 125 (by decide +kernel) (by decide +kernel)
theorem xa_X7_requireState :  ∀ w ∈ (vx_atS RX7 330 (tm_ex 2) ["java/lang/RuntimeException", "java/lang/Exception"]).filter goodWord, w ∈ TMW := fun w h => List.mem_filter.mpr ⟨List.mem_append_left _ ((by decide +kernel : ∀ w ∈ (vx_atS RX7 330 (tm_ex 2) ["java/lang/RuntimeException", "java/lang/Exception"]).filter goodWord, w ∈ lw_tbl) w h), (List.mem_filter.mp h).2⟩
theorem xb_X7_requireState : ∀ w ∈ (vx_atS RX7 330 (tm_ex 2) ["java/lang/RuntimeException", "java/lang/Exception"]).filter (fun w => !goodWord w), w ∈ tm_NWC := by decide +kernel
theorem xc_X7_requireState : ∀ w ∈ Cond.classLink RX7 326 (tm_ex 2) :: Cond.initialized (tm_ex 2) :: vx_atS RX7 330 (tm_ex 2) ["java/lang/RuntimeException", "java/lang/Exception"], vx_ot w = true := by decide +kernel
def f_X7_requireState (x0 : Int32) (v : tmM) : Option (tmR) := (if x0 = 0 then some ((3, 0), v) else some ((0, 0), v))
set_option maxRecDepth 100000 in
set_option maxHeartbeats 4000000 in
theorem w_X7_requireState {p : Program} {l : Launch} {e : Env} {s : State} {m : MethodId} {args : Array Value} {below : List Frame} {meth : Method} {c : Code} {D : va_G} {cy : Nat → ClassId} {ad : Nat → Nat} {A : Nat → Prop} {z : (tmR)} (C0 : tmC p s m args meth c cX7_requireState 1 none RX7 TMW tm_NWC D cy tm_shC ad 256 [] A) (hl : l.stackTraces = false) (hE : tmTh A s s.heap) (hout : ∀ x ∈ c.exceptionTable.toList, False) (x0 : Int32) (v : tmM) : tmG p l e ({ frames := 6, cells := 1, slots := 6, locals := 90 } : Room) s m args below meth c 0 0 (vx_MQ below (va_Qv (fun u => z = ((0, 0), u)) (tmAt tm_shC 256 D cy ad A) A) (tmXX tm_shC 256 D cy ad A 0 z) args s 1 6 A) 1 D cy tm_shC ad 256 [] A z 0 [(0, .int x0)] [] v (f_X7_requireState x0 v) := by
  unfold f_X7_requireState
  refine tg_iload_n 0 C0 dX7_requireState_0 rfl rfl ?_
  refine tg_if_ne 15 C0 dX7_requireState_1 (by decide) (fun _ => ?_) (fun _ => ?_)
  · exact tg_xvret C0 dX7_requireState_15 ⟨by decide, by decide⟩
  · exact tg_throw 2 (names := ["java/lang/RuntimeException", "java/lang/Exception"]) hl C0 hE hout (by decide +kernel) (by decide +kernel) tcl_X7_326 tcn_2 hE.2.2.2.2 xa_X7_requireState xb_X7_requireState xc_X7_requireState dX7_requireState_4 dX7_requireState_7 dX7_requireState_8 dX7_requireState_11 dX7_requireState_14 (by decide) (by decide) ⟨by decide, by decide⟩ ⟨by decide, by decide⟩
theorem c_X7_requireState (l : Launch) (hl : l.stackTraces = false) (x0 : Int32) (v : tmM) : tmXv tm_NWC tm_shC 256 l yX7_requireState (Cond.code yX7_requireState cX7_requireState 1 none :: TMW) ({ frames := 6, cells := 1, slots := 6, locals := 90 } : Room) (fun ad => [.int x0]) v 1 6 (f_X7_requireState x0 v) :=
  tmXv.of (cc := cX7_requireState) (nL := 1) (by decide +kernel) rfl tm_NWC_ok (fun _ => Nat.le_of_ble_eq_true rfl) (fun p e s m args below meth c A D cy ad z C0 hE hout => w_X7_requireState C0 hl hE hout x0 v)
-- ----- X7_appendText
theorem dX7_appendText_0 : decode cX7_appendText 0 = .ok (.aload_n 0, 1) := by decide +kernel
theorem dX7_appendText_1 : decode cX7_appendText 1 = .ok (.getfield 30, 3) := by decide +kernel
theorem dX7_appendText_4 : decode cX7_appendText 4 = .ok (.getfield 41, 3) := by decide +kernel
theorem dX7_appendText_7 : decode cX7_appendText 7 = .ok (.iconst 4, 1) := by decide +kernel
theorem dX7_appendText_8 : decode cX7_appendText 8 = .ok (.iadd, 1) := by decide +kernel
theorem dX7_appendText_9 : decode cX7_appendText 9 = .ok (.sipush 600, 3) := by decide +kernel
theorem dX7_appendText_12 : decode cX7_appendText 12 = .ok (.if_icmp .gt 7, 3) := by decide +kernel
theorem dX7_appendText_15 : decode cX7_appendText 15 = .ok (.iconst 1, 1) := by decide +kernel
theorem dX7_appendText_16 : decode cX7_appendText 16 = .ok (.goto 4, 3) := by decide +kernel
theorem dX7_appendText_19 : decode cX7_appendText 19 = .ok (.iconst 0, 1) := by decide +kernel
theorem dX7_appendText_20 : decode cX7_appendText 20 = .ok (.invokestatic 45, 3) := by decide +kernel
theorem dX7_appendText_23 : decode cX7_appendText 23 = .ok (.bipush 24, 2) := by decide +kernel
theorem dX7_appendText_25 : decode cX7_appendText 25 = .ok (.istore_n 2, 1) := by decide +kernel
theorem dX7_appendText_26 : decode cX7_appendText 26 = .ok (.iload_n 2, 1) := by decide +kernel
theorem dX7_appendText_27 : decode cX7_appendText 27 = .ok (.ifCond .lt 45, 3) := by decide +kernel
theorem dX7_appendText_30 : decode cX7_appendText 30 = .ok (.aload_n 0, 1) := by decide +kernel
theorem dX7_appendText_31 : decode cX7_appendText 31 = .ok (.getfield 30, 3) := by decide +kernel
theorem dX7_appendText_34 : decode cX7_appendText 34 = .ok (.getfield 49, 3) := by decide +kernel
theorem dX7_appendText_37 : decode cX7_appendText 37 = .ok (.aload_n 0, 1) := by decide +kernel
theorem dX7_appendText_38 : decode cX7_appendText 38 = .ok (.getfield 30, 3) := by decide +kernel
theorem dX7_appendText_41 : decode cX7_appendText 41 = .ok (.getfield 41, 3) := by decide +kernel
theorem dX7_appendText_44 : decode cX7_appendText 44 = .ok (.iload_n 1, 1) := by decide +kernel
theorem dX7_appendText_45 : decode cX7_appendText 45 = .ok (.iload_n 2, 1) := by decide +kernel
theorem dX7_appendText_46 : decode cX7_appendText 46 = .ok (.iushr, 1) := by decide +kernel
theorem dX7_appendText_47 : decode cX7_appendText 47 = .ok (.sipush 255, 3) := by decide +kernel
theorem dX7_appendText_50 : decode cX7_appendText 50 = .ok (.iand, 1) := by decide +kernel
theorem dX7_appendText_51 : decode cX7_appendText 51 = .ok (.i2c, 1) := by decide +kernel
theorem dX7_appendText_52 : decode cX7_appendText 52 = .ok (.castore, 1) := by decide +kernel
theorem dX7_appendText_53 : decode cX7_appendText 53 = .ok (.aload_n 0, 1) := by decide +kernel
theorem dX7_appendText_54 : decode cX7_appendText 54 = .ok (.getfield 30, 3) := by decide +kernel
theorem dX7_appendText_57 : decode cX7_appendText 57 = .ok (.dup, 1) := by decide +kernel
theorem dX7_appendText_58 : decode cX7_appendText 58 = .ok (.getfield 41, 3) := by decide +kernel
theorem dX7_appendText_61 : decode cX7_appendText 61 = .ok (.iconst 1, 1) := by decide +kernel
theorem dX7_appendText_62 : decode cX7_appendText 62 = .ok (.iadd, 1) := by decide +kernel
theorem dX7_appendText_63 : decode cX7_appendText 63 = .ok (.putfield 41, 3) := by decide +kernel
theorem dX7_appendText_66 : decode cX7_appendText 66 = .ok (.iinc 2 (-8), 3) := by decide +kernel
theorem dX7_appendText_69 : decode cX7_appendText 69 = .ok (.goto (-43), 3) := by decide +kernel
theorem dX7_appendText_72 : decode cX7_appendText 72 = .ok (.aload_n 0, 1) := by decide +kernel
theorem dX7_appendText_73 : decode cX7_appendText 73 = .ok (.getfield 30, 3) := by decide +kernel
theorem dX7_appendText_76 : decode cX7_appendText 76 = .ok (.getfield 41, 3) := by decide +kernel
theorem dX7_appendText_79 : decode cX7_appendText 79 = .ok (.ireturn, 1) := by decide +kernel
theorem tl_X7_45 : Cond.methodLink RX7 45 yX7_requireState ∈ TMW := tm_in 823 (by decide +kernel) (by decide +kernel)
theorem tst_X7_requireState : Cond.static yX7_requireState ∈ TMW := tm_in 824 (by decide +kernel) (by decide +kernel)
theorem tc_X7_requireState : Cond.code yX7_requireState cX7_requireState 1 none ∈ TMW := tm_in 825 (by decide +kernel) (by decide +kernel)
def f_X7_appendText_26b (K0 : tmM → Option (tmR)) (L : Int32 → Int32 → tmM → Option (tmR)) (x1 x2 : Int32) (v : tmM) : Option (tmR) := (if x2 < 0 then K0 v else tm_g (tm_ix (v 251 1) 600) (tm_lt (tm_up v 252 (v 251 1).toNatClampNeg (vp_nar .char (((((x1.toUInt32 >>> (x2.toUInt32 &&& Int32.toUInt32 31)).toInt32) &&& 255).toUInt32 % 65536).toInt32))) fun v2 => tm_lt (tm_up v2 251 1 ((v2 251 1) + 1)) fun v3 => L x1 (x2 + (-8)) v3))
set_option maxRecDepth 100000 in
set_option maxHeartbeats 4000000 in
theorem w_X7_appendText_26b {p : Program} {l : Launch} {e : Env} {s : State} {m : MethodId} {args : Array Value} {below : List Frame} {meth : Method} {c : Code} {D : va_G} {cy : Nat → ClassId} {ad : Nat → Nat} {A : Nat → Prop} {z : (tmR)} {K0 : tmM → Option (tmR)} {L : Int32 → Int32 → tmM → Option (tmR)} (C0 : tmC p s m args meth c cX7_appendText 3 (some .int) RX7 TMW tm_NWC D cy tm_shC ad 256 [] A) (hl : l.stackTraces = false) (hE : tmTh A s s.heap) (hout : ∀ x ∈ c.exceptionTable.toList, False) (hK0 : ∀ (w : tmM), tmG p l e ({ frames := 7, cells := 1, slots := 6, locals := 110 } : Room) s m args below meth c 1 6 (vx_MQ below (va_Qi (fun r u => z = ((0, r), u)) (tmAt tm_shC 256 D cy ad A) A) (tmXX tm_shC 256 D cy ad A 0 z) args s 1 6 A) 3 D cy tm_shC ad 256 [] A z 72 [(0, .ref (ad 247))] [] w (K0 w)) (hL : ∀ (a1 a2 : Int32) (w : tmM), tmG p l e ({ frames := 7, cells := 1, slots := 6, locals := 110 } : Room) s m args below meth c 1 6 (vx_MQ below (va_Qi (fun r u => z = ((0, r), u)) (tmAt tm_shC 256 D cy ad A) A) (tmXX tm_shC 256 D cy ad A 0 z) args s 1 6 A) 3 D cy tm_shC ad 256 [] A z 26 [(0, .ref (ad 247)), (1, .int a1), (2, .int a2)] [] w (L a1 a2 w)) (x1 x2 : Int32) (v : tmM) : tmG p l e ({ frames := 7, cells := 1, slots := 6, locals := 110 } : Room) s m args below meth c 1 6 (vx_MQ below (va_Qi (fun r u => z = ((0, r), u)) (tmAt tm_shC 256 D cy ad A) A) (tmXX tm_shC 256 D cy ad A 0 z) args s 1 6 A) 3 D cy tm_shC ad 256 [] A z 26 [(0, .ref (ad 247)), (1, .int x1), (2, .int x2)] [] v (f_X7_appendText_26b K0 L x1 x2 v) := by
  unfold f_X7_appendText_26b
  refine tg_iload_n 2 C0 dX7_appendText_26 rfl rfl ?_
  refine tg_if_lt 72 C0 dX7_appendText_27 (by decide) (fun _ => ?_) (fun _ => ?_)
  · refine tg_sub [0] rfl ?_
    exact hK0 v
  · refine tg_aload_n 0 C0 dX7_appendText_30 rfl rfl ?_
    refine tg_get 247 7 C0 dX7_appendText_31 (by decide) rfl rfl tu_X7 (by decide) tf_X7_30 rfl rfl rfl ?_
    refine tg_getN 251 0 C0 dX7_appendText_34 (by decide) rfl rfl tu_X3 (by decide) tm_nwC_X7_49 rfl rfl rfl ?_
    refine tg_aload_n 0 C0 dX7_appendText_37 rfl rfl ?_
    refine tg_get 247 7 C0 dX7_appendText_38 (by decide) rfl rfl tu_X7 (by decide) tf_X7_30 rfl rfl rfl ?_
    refine tg_getN 251 1 C0 dX7_appendText_41 (by decide) rfl rfl tu_X3 (by decide) tm_nwC_X7_41 rfl rfl rfl ?_
    refine tg_iload_n 1 C0 dX7_appendText_44 rfl rfl ?_
    refine tg_iload_n 2 C0 dX7_appendText_45 rfl rfl ?_
    refine tg_iushr C0 dX7_appendText_46 ?_
    refine tg_sipush (x := 255) C0 dX7_appendText_47 (by decide) ?_
    refine tg_iand C0 dX7_appendText_50 ?_
    refine tg_i2c C0 dX7_appendText_51 ?_
    refine tg_cast 252 C0 dX7_appendText_52 (by decide) rfl (fun _ => ?_)
    refine tg_letm (fun v2 _ => ?_)
    refine tg_aload_n 0 C0 dX7_appendText_53 rfl rfl ?_
    refine tg_get 247 7 C0 dX7_appendText_54 (by decide) rfl rfl tu_X7 (by decide) tf_X7_30 rfl rfl rfl ?_
    refine tg_dup C0 dX7_appendText_57 rfl ?_
    refine tg_getN 251 1 C0 dX7_appendText_58 (by decide) rfl rfl tu_X3 (by decide) tm_nwC_X7_41 rfl rfl rfl ?_
    refine tg_iconst (x := 1) C0 dX7_appendText_61 (by decide) ?_
    refine tg_iadd C0 dX7_appendText_62 ?_
    refine tg_putN 251 1 C0 dX7_appendText_63 (by decide) rfl rfl tu_X3 tyX3_ok nmX3 (by decide) tm_nwC_X7_41 rfl rfl rfl rfl rfl rfl ?_
    refine tg_letm (fun v3 _ => ?_)
    refine tg_iinc [(2, .int (x2 + (-8))), (0, .ref (ad 247)), (1, .int x1)] 2 C0 dX7_appendText_66 rfl rfl (by decide) rfl ?_
    refine tg_goto 26 C0 dX7_appendText_69 (by decide) ?_
    refine tg_sub [1, 2, 0] rfl ?_
    exact hL x1 (x2 + (-8)) v3
def f_X7_appendText_26 (K0 : tmM → Option (tmR)) : Nat → Int32 → Int32 → tmM → Option (tmR)
  | 0 => fun _ _ _ => none
  | n + 1 => f_X7_appendText_26b K0 (f_X7_appendText_26 K0 n)
theorem w_X7_appendText_26 {p : Program} {l : Launch} {e : Env} {s : State} {m : MethodId} {args : Array Value} {below : List Frame} {meth : Method} {c : Code} {D : va_G} {cy : Nat → ClassId} {ad : Nat → Nat} {A : Nat → Prop} {z : (tmR)} {K0 : tmM → Option (tmR)} (C0 : tmC p s m args meth c cX7_appendText 3 (some .int) RX7 TMW tm_NWC D cy tm_shC ad 256 [] A) (hl : l.stackTraces = false) (hE : tmTh A s s.heap) (hout : ∀ x ∈ c.exceptionTable.toList, False) (hK0 : ∀ (w : tmM), tmG p l e ({ frames := 7, cells := 1, slots := 6, locals := 110 } : Room) s m args below meth c 1 6 (vx_MQ below (va_Qi (fun r u => z = ((0, r), u)) (tmAt tm_shC 256 D cy ad A) A) (tmXX tm_shC 256 D cy ad A 0 z) args s 1 6 A) 3 D cy tm_shC ad 256 [] A z 72 [(0, .ref (ad 247))] [] w (K0 w)) (nn : Nat) : ∀ (x1 x2 : Int32) (v : tmM), tmG p l e ({ frames := 7, cells := 1, slots := 6, locals := 110 } : Room) s m args below meth c 1 6 (vx_MQ below (va_Qi (fun r u => z = ((0, r), u)) (tmAt tm_shC 256 D cy ad A) A) (tmXX tm_shC 256 D cy ad A 0 z) args s 1 6 A) 3 D cy tm_shC ad 256 [] A z 26 [(0, .ref (ad 247)), (1, .int x1), (2, .int x2)] [] v (f_X7_appendText_26 K0 nn x1 x2 v) := by
  induction nn with
  | zero => intro _ _ _; exact tg_none
  | succ n ih => intro x1 x2 v; exact w_X7_appendText_26b C0 hl hE hout hK0 ih x1 x2 v
def f_X7_appendText_20 (x1 s0 : Int32) (v : tmM) : Option (tmR) := tm_cx (f_X7_requireState s0 v) (fun _ v1 => f_X7_appendText_26 (fun v4 => some ((0, v4 251 1), v4)) 10000 x1 24 v1) 0
set_option maxRecDepth 100000 in
set_option maxHeartbeats 4000000 in
theorem w_X7_appendText_20 {p : Program} {l : Launch} {e : Env} {s : State} {m : MethodId} {args : Array Value} {below : List Frame} {meth : Method} {c : Code} {D : va_G} {cy : Nat → ClassId} {ad : Nat → Nat} {A : Nat → Prop} {z : (tmR)} (C0 : tmC p s m args meth c cX7_appendText 3 (some .int) RX7 TMW tm_NWC D cy tm_shC ad 256 [] A) (hl : l.stackTraces = false) (hE : tmTh A s s.heap) (hout : ∀ x ∈ c.exceptionTable.toList, False) (x1 s0 : Int32) (v : tmM) : tmG p l e ({ frames := 7, cells := 1, slots := 6, locals := 110 } : Room) s m args below meth c 0 0 (vx_MQ below (va_Qi (fun r u => z = ((0, r), u)) (tmAt tm_shC 256 D cy ad A) A) (tmXX tm_shC 256 D cy ad A 0 z) args s 1 6 A) 3 D cy tm_shC ad 256 [] A z 20 [(0, .ref (ad 247)), (1, .int x1)] [.int s0] v (f_X7_appendText_20 x1 s0 v) := by
  unfold f_X7_appendText_20
  refine tg_callSxi (As := [.int s0]) 1 C0 hE hout dX7_appendText_20 (c_X7_requireState l hl s0 v) rfl rfl (tm_gS tl_X7_45 tst_X7_requireState tn_X7 tc_X7_requireState) rfl rfl rfl rfl (by decide +kernel) ⟨by decide, by decide⟩ (Nat.le_of_ble_eq_true rfl) ⟨by decide, by decide⟩ ⟨by decide, by decide⟩ (fun v1 _ => ?_)
  refine tg_bipush (x := 24) C0 dX7_appendText_23 (by decide) ?_
  refine tg_istore_n [(2, .int 24), (0, .ref (ad 247)), (1, .int x1)] C0 dX7_appendText_25 rfl (by decide) rfl ?_
  refine tg_sub [1, 2, 0] rfl ?_
  refine w_X7_appendText_26 C0 hl hE hout (fun v4 => ?_) 10000 x1 24 v1
  refine tg_aload_n 0 C0 dX7_appendText_72 rfl rfl ?_
  refine tg_get 247 7 C0 dX7_appendText_73 (by decide) rfl rfl tu_X7 (by decide) tf_X7_30 rfl rfl rfl ?_
  refine tg_getN 251 1 C0 dX7_appendText_76 (by decide) rfl rfl tu_X3 (by decide) tm_nwC_X7_41 rfl rfl rfl ?_
  exact tg_xiret C0 dX7_appendText_79 ⟨by decide, by decide⟩
def f_X7_appendText (x1 : Int32) (v : tmM) : Option (tmR) := (if 600 < ((v 251 1) + 4) then f_X7_appendText_20 x1 0 v else f_X7_appendText_20 x1 1 v)
set_option maxRecDepth 100000 in
set_option maxHeartbeats 4000000 in
theorem w_X7_appendText {p : Program} {l : Launch} {e : Env} {s : State} {m : MethodId} {args : Array Value} {below : List Frame} {meth : Method} {c : Code} {D : va_G} {cy : Nat → ClassId} {ad : Nat → Nat} {A : Nat → Prop} {z : (tmR)} (C0 : tmC p s m args meth c cX7_appendText 3 (some .int) RX7 TMW tm_NWC D cy tm_shC ad 256 [] A) (hl : l.stackTraces = false) (hE : tmTh A s s.heap) (hout : ∀ x ∈ c.exceptionTable.toList, False) (x1 : Int32) (v : tmM) : tmG p l e ({ frames := 7, cells := 1, slots := 6, locals := 110 } : Room) s m args below meth c 0 0 (vx_MQ below (va_Qi (fun r u => z = ((0, r), u)) (tmAt tm_shC 256 D cy ad A) A) (tmXX tm_shC 256 D cy ad A 0 z) args s 1 6 A) 3 D cy tm_shC ad 256 [] A z 0 [(0, .ref (ad 247)), (1, .int x1)] [] v (f_X7_appendText x1 v) := by
  unfold f_X7_appendText
  refine tg_aload_n 0 C0 dX7_appendText_0 rfl rfl ?_
  refine tg_get 247 7 C0 dX7_appendText_1 (by decide) rfl rfl tu_X7 (by decide) tf_X7_30 rfl rfl rfl ?_
  refine tg_getN 251 1 C0 dX7_appendText_4 (by decide) rfl rfl tu_X3 (by decide) tm_nwC_X7_41 rfl rfl rfl ?_
  refine tg_iconst (x := 4) C0 dX7_appendText_7 (by decide) ?_
  refine tg_iadd C0 dX7_appendText_8 ?_
  refine tg_sipush (x := 600) C0 dX7_appendText_9 (by decide) ?_
  refine tg_icmp_gt 19 C0 dX7_appendText_12 (by decide) (fun _ => ?_) (fun _ => ?_)
  · refine tg_iconst (x := 0) C0 dX7_appendText_19 (by decide) ?_
    exact w_X7_appendText_20 C0 hl hE hout x1 0 v
  · refine tg_iconst (x := 1) C0 dX7_appendText_15 (by decide) ?_
    refine tg_goto 20 C0 dX7_appendText_16 (by decide) ?_
    exact w_X7_appendText_20 C0 hl hE hout x1 1 v
theorem c_X7_appendText (l : Launch) (hl : l.stackTraces = false) (x1 : Int32) (v : tmM) : tmXi tm_NWC tm_shC 256 l yX7_appendText (Cond.code yX7_appendText cX7_appendText 3 (some .int) :: TMW) ({ frames := 7, cells := 1, slots := 6, locals := 110 } : Room) (fun ad => [.ref (ad 247), .int x1]) v 1 6 (f_X7_appendText x1 v) :=
  tmXi.of (cc := cX7_appendText) (nL := 3) (by decide +kernel) rfl tm_NWC_ok (fun _ => Nat.le_of_ble_eq_true rfl) (fun p e s m args below meth c A D cy ad z C0 hE hout => w_X7_appendText C0 hl hE hout x1 v)
-- ----- X7_truncateText
theorem dX7_truncateText_0 : decode cX7_truncateText 0 = .ok (.iload_n 1, 1) := by decide +kernel
theorem dX7_truncateText_1 : decode cX7_truncateText 1 = .ok (.ifCond .lt 18, 3) := by decide +kernel
theorem dX7_truncateText_4 : decode cX7_truncateText 4 = .ok (.iload_n 1, 1) := by decide +kernel
theorem dX7_truncateText_5 : decode cX7_truncateText 5 = .ok (.aload_n 0, 1) := by decide +kernel
theorem dX7_truncateText_6 : decode cX7_truncateText 6 = .ok (.getfield 30, 3) := by decide +kernel
theorem dX7_truncateText_9 : decode cX7_truncateText 9 = .ok (.getfield 41, 3) := by decide +kernel
theorem dX7_truncateText_12 : decode cX7_truncateText 12 = .ok (.if_icmp .gt 7, 3) := by decide +kernel
theorem dX7_truncateText_15 : decode cX7_truncateText 15 = .ok (.iconst 1, 1) := by decide +kernel
theorem dX7_truncateText_16 : decode cX7_truncateText 16 = .ok (.goto 4, 3) := by decide +kernel
theorem dX7_truncateText_19 : decode cX7_truncateText 19 = .ok (.iconst 0, 1) := by decide +kernel
theorem dX7_truncateText_20 : decode cX7_truncateText 20 = .ok (.invokestatic 53, 3) := by decide +kernel
theorem dX7_truncateText_23 : decode cX7_truncateText 23 = .ok (.aload_n 0, 1) := by decide +kernel
theorem dX7_truncateText_24 : decode cX7_truncateText 24 = .ok (.getfield 30, 3) := by decide +kernel
theorem dX7_truncateText_27 : decode cX7_truncateText 27 = .ok (.iload_n 1, 1) := by decide +kernel
theorem dX7_truncateText_28 : decode cX7_truncateText 28 = .ok (.putfield 41, 3) := by decide +kernel
theorem dX7_truncateText_31 : decode cX7_truncateText 31 = .ok (.iload_n 1, 1) := by decide +kernel
theorem dX7_truncateText_32 : decode cX7_truncateText 32 = .ok (.ireturn, 1) := by decide +kernel
theorem tl_X7_53 : Cond.methodLink RX7 53 yX7_requireArgument ∈ TMW := tm_in 903 (by decide +kernel) (by decide +kernel)
theorem tst_X7_requireArgument : Cond.static yX7_requireArgument ∈ TMW := tm_in 904 (by decide +kernel) (by decide +kernel)
theorem tc_X7_requireArgument : Cond.code yX7_requireArgument cX7_requireArgument 1 none ∈ TMW := tm_in 905 (by decide +kernel) (by decide +kernel)
def f_X7_truncateText_20 (x1 s0 : Int32) (v : tmM) : Option (tmR) := tm_cx (f_X7_requireArgument s0 v) (fun _ v1 => tm_lt (tm_up v1 251 1 x1) fun v2 => some ((0, x1), v2)) 0
set_option maxRecDepth 100000 in
set_option maxHeartbeats 4000000 in
theorem w_X7_truncateText_20 {p : Program} {l : Launch} {e : Env} {s : State} {m : MethodId} {args : Array Value} {below : List Frame} {meth : Method} {c : Code} {D : va_G} {cy : Nat → ClassId} {ad : Nat → Nat} {A : Nat → Prop} {z : (tmR)} (C0 : tmC p s m args meth c cX7_truncateText 2 (some .int) RX7 TMW tm_NWC D cy tm_shC ad 256 [] A) (hl : l.stackTraces = false) (hE : tmTh A s s.heap) (hout : ∀ x ∈ c.exceptionTable.toList, False) (x1 s0 : Int32) (v : tmM) : tmG p l e ({ frames := 7, cells := 1, slots := 6, locals := 110 } : Room) s m args below meth c 0 0 (vx_MQ below (va_Qi (fun r u => z = ((0, r), u)) (tmAt tm_shC 256 D cy ad A) A) (tmXX tm_shC 256 D cy ad A 0 z) args s 1 6 A) 2 D cy tm_shC ad 256 [] A z 20 [(0, .ref (ad 247)), (1, .int x1)] [.int s0] v (f_X7_truncateText_20 x1 s0 v) := by
  unfold f_X7_truncateText_20
  refine tg_callSxi (As := [.int s0]) 1 C0 hE hout dX7_truncateText_20 (c_X7_requireArgument l hl s0 v) rfl rfl (tm_gS tl_X7_53 tst_X7_requireArgument tn_X7 tc_X7_requireArgument) rfl rfl rfl rfl (by decide +kernel) ⟨by decide, by decide⟩ (Nat.le_of_ble_eq_true rfl) ⟨by decide, by decide⟩ ⟨by decide, by decide⟩ (fun v1 _ => ?_)
  refine tg_aload_n 0 C0 dX7_truncateText_23 rfl rfl ?_
  refine tg_get 247 7 C0 dX7_truncateText_24 (by decide) rfl rfl tu_X7 (by decide) tf_X7_30 rfl rfl rfl ?_
  refine tg_iload_n 1 C0 dX7_truncateText_27 rfl rfl ?_
  refine tg_putN 251 1 C0 dX7_truncateText_28 (by decide) rfl rfl tu_X3 tyX3_ok nmX3 (by decide) tm_nwC_X7_41 rfl rfl rfl rfl rfl rfl ?_
  refine tg_letm (fun v2 _ => ?_)
  refine tg_iload_n 1 C0 dX7_truncateText_31 rfl rfl ?_
  exact tg_xiret C0 dX7_truncateText_32 ⟨by decide, by decide⟩
def f_X7_truncateText_19 (x1 : Int32) (v : tmM) : Option (tmR) := f_X7_truncateText_20 x1 0 v
set_option maxRecDepth 100000 in
set_option maxHeartbeats 4000000 in
theorem w_X7_truncateText_19 {p : Program} {l : Launch} {e : Env} {s : State} {m : MethodId} {args : Array Value} {below : List Frame} {meth : Method} {c : Code} {D : va_G} {cy : Nat → ClassId} {ad : Nat → Nat} {A : Nat → Prop} {z : (tmR)} (C0 : tmC p s m args meth c cX7_truncateText 2 (some .int) RX7 TMW tm_NWC D cy tm_shC ad 256 [] A) (hl : l.stackTraces = false) (hE : tmTh A s s.heap) (hout : ∀ x ∈ c.exceptionTable.toList, False) (x1 : Int32) (v : tmM) : tmG p l e ({ frames := 7, cells := 1, slots := 6, locals := 110 } : Room) s m args below meth c 0 0 (vx_MQ below (va_Qi (fun r u => z = ((0, r), u)) (tmAt tm_shC 256 D cy ad A) A) (tmXX tm_shC 256 D cy ad A 0 z) args s 1 6 A) 2 D cy tm_shC ad 256 [] A z 19 [(0, .ref (ad 247)), (1, .int x1)] [] v (f_X7_truncateText_19 x1 v) := by
  unfold f_X7_truncateText_19
  refine tg_iconst (x := 0) C0 dX7_truncateText_19 (by decide) ?_
  exact w_X7_truncateText_20 C0 hl hE hout x1 0 v
def f_X7_truncateText (x1 : Int32) (v : tmM) : Option (tmR) := (if x1 < 0 then f_X7_truncateText_19 x1 v else (if (v 251 1) < x1 then f_X7_truncateText_19 x1 v else f_X7_truncateText_20 x1 1 v))
set_option maxRecDepth 100000 in
set_option maxHeartbeats 4000000 in
theorem w_X7_truncateText {p : Program} {l : Launch} {e : Env} {s : State} {m : MethodId} {args : Array Value} {below : List Frame} {meth : Method} {c : Code} {D : va_G} {cy : Nat → ClassId} {ad : Nat → Nat} {A : Nat → Prop} {z : (tmR)} (C0 : tmC p s m args meth c cX7_truncateText 2 (some .int) RX7 TMW tm_NWC D cy tm_shC ad 256 [] A) (hl : l.stackTraces = false) (hE : tmTh A s s.heap) (hout : ∀ x ∈ c.exceptionTable.toList, False) (x1 : Int32) (v : tmM) : tmG p l e ({ frames := 7, cells := 1, slots := 6, locals := 110 } : Room) s m args below meth c 0 0 (vx_MQ below (va_Qi (fun r u => z = ((0, r), u)) (tmAt tm_shC 256 D cy ad A) A) (tmXX tm_shC 256 D cy ad A 0 z) args s 1 6 A) 2 D cy tm_shC ad 256 [] A z 0 [(0, .ref (ad 247)), (1, .int x1)] [] v (f_X7_truncateText x1 v) := by
  unfold f_X7_truncateText
  refine tg_iload_n 1 C0 dX7_truncateText_0 rfl rfl ?_
  refine tg_if_lt 19 C0 dX7_truncateText_1 (by decide) (fun _ => ?_) (fun _ => ?_)
  · exact w_X7_truncateText_19 C0 hl hE hout x1 v
  · refine tg_iload_n 1 C0 dX7_truncateText_4 rfl rfl ?_
    refine tg_aload_n 0 C0 dX7_truncateText_5 rfl rfl ?_
    refine tg_get 247 7 C0 dX7_truncateText_6 (by decide) rfl rfl tu_X7 (by decide) tf_X7_30 rfl rfl rfl ?_
    refine tg_getN 251 1 C0 dX7_truncateText_9 (by decide) rfl rfl tu_X3 (by decide) tm_nwC_X7_41 rfl rfl rfl ?_
    refine tg_icmp_gt 19 C0 dX7_truncateText_12 (by decide) (fun _ => ?_) (fun _ => ?_)
    · exact w_X7_truncateText_19 C0 hl hE hout x1 v
    · refine tg_iconst (x := 1) C0 dX7_truncateText_15 (by decide) ?_
      refine tg_goto 20 C0 dX7_truncateText_16 (by decide) ?_
      exact w_X7_truncateText_20 C0 hl hE hout x1 1 v
theorem c_X7_truncateText (l : Launch) (hl : l.stackTraces = false) (x1 : Int32) (v : tmM) : tmXi tm_NWC tm_shC 256 l yX7_truncateText (Cond.code yX7_truncateText cX7_truncateText 2 (some .int) :: TMW) ({ frames := 7, cells := 1, slots := 6, locals := 110 } : Room) (fun ad => [.ref (ad 247), .int x1]) v 1 6 (f_X7_truncateText x1 v) :=
  tmXi.of (cc := cX7_truncateText) (nL := 2) (by decide +kernel) rfl tm_NWC_ok (fun _ => Nat.le_of_ble_eq_true rfl) (fun p e s m args below meth c A D cy ad z C0 hE hout => w_X7_truncateText C0 hl hE hout x1 v)
-- ----- X7_setForm
theorem dX7_setForm_0 : decode cX7_setForm 0 = .ok (.iload_n 1, 1) := by decide +kernel
theorem dX7_setForm_1 : decode cX7_setForm 1 = .ok (.iload_n 2, 1) := by decide +kernel
theorem dX7_setForm_2 : decode cX7_setForm 2 = .ok (.invokestatic 88, 3) := by decide +kernel
theorem dX7_setForm_5 : decode cX7_setForm 5 = .ok (.invokestatic 53, 3) := by decide +kernel
theorem dX7_setForm_8 : decode cX7_setForm 8 = .ok (.aload_n 0, 1) := by decide +kernel
theorem dX7_setForm_9 : decode cX7_setForm 9 = .ok (.getfield 12, 3) := by decide +kernel
theorem dX7_setForm_12 : decode cX7_setForm 12 = .ok (.getfield 92, 3) := by decide +kernel
theorem dX7_setForm_15 : decode cX7_setForm 15 = .ok (.ifCond .ne 7, 3) := by decide +kernel
theorem dX7_setForm_18 : decode cX7_setForm 18 = .ok (.iconst 1, 1) := by decide +kernel
theorem dX7_setForm_19 : decode cX7_setForm 19 = .ok (.goto 4, 3) := by decide +kernel
theorem dX7_setForm_22 : decode cX7_setForm 22 = .ok (.iconst 0, 1) := by decide +kernel
theorem dX7_setForm_23 : decode cX7_setForm 23 = .ok (.invokestatic 45, 3) := by decide +kernel
theorem dX7_setForm_26 : decode cX7_setForm 26 = .ok (.aload_n 0, 1) := by decide +kernel
theorem dX7_setForm_27 : decode cX7_setForm 27 = .ok (.invokevirtual 95, 3) := by decide +kernel
theorem dX7_setForm_30 : decode cX7_setForm 30 = .ok (.aload_n 0, 1) := by decide +kernel
theorem dX7_setForm_31 : decode cX7_setForm 31 = .ok (.getfield 12, 3) := by decide +kernel
theorem dX7_setForm_34 : decode cX7_setForm 34 = .ok (.getfield 98, 3) := by decide +kernel
theorem dX7_setForm_37 : decode cX7_setForm 37 = .ok (.iload_n 1, 1) := by decide +kernel
theorem dX7_setForm_38 : decode cX7_setForm 38 = .ok (.putfield 102, 3) := by decide +kernel
theorem dX7_setForm_41 : decode cX7_setForm 41 = .ok (.aload_n 0, 1) := by decide +kernel
theorem dX7_setForm_42 : decode cX7_setForm 42 = .ok (.getfield 12, 3) := by decide +kernel
theorem dX7_setForm_45 : decode cX7_setForm 45 = .ok (.getfield 98, 3) := by decide +kernel
theorem dX7_setForm_48 : decode cX7_setForm 48 = .ok (.iload_n 2, 1) := by decide +kernel
theorem dX7_setForm_49 : decode cX7_setForm 49 = .ok (.putfield 107, 3) := by decide +kernel
theorem dX7_setForm_52 : decode cX7_setForm 52 = .ok (.return_, 1) := by decide +kernel
theorem tc_X7_isForm : Cond.code yX7_isForm cX7_isForm 2 (some .boolean) ∈ TMW := tm_in 931 (by decide +kernel) (by decide +kernel)
theorem tl_X7_88 : Cond.methodLink RX7 88 yX7_isForm ∈ TMW := tm_in 929 (by decide +kernel) (by decide +kernel)
theorem tst_X7_isForm : Cond.static yX7_isForm ∈ TMW := tm_in 930 (by decide +kernel) (by decide +kernel)
def f_X7_setForm_23 (x1 x2 s0 : Int32) (v : tmM) : Option (tmR) := tm_cx (f_X7_requireState s0 v) (fun _ v4 => tm_cl (f_X7_remember v4) fun _ v5 => tm_lt (tm_up v5 1 0 x1) fun v7 => tm_lt (tm_up v7 1 1 x2) fun v8 => some ((0, 0), v8)) 0
set_option maxRecDepth 100000 in
set_option maxHeartbeats 4000000 in
theorem w_X7_setForm_23 {p : Program} {l : Launch} {e : Env} {s : State} {m : MethodId} {args : Array Value} {below : List Frame} {meth : Method} {c : Code} {D : va_G} {cy : Nat → ClassId} {ad : Nat → Nat} {A : Nat → Prop} {z : (tmR)} (C0 : tmC p s m args meth c cX7_setForm 3 none RX7 TMW tm_NWC D cy tm_shC ad 256 [] A) (hl : l.stackTraces = false) (hE : tmTh A s s.heap) (hout : ∀ x ∈ c.exceptionTable.toList, False) (x1 x2 s0 : Int32) (v : tmM) : tmG p l e ({ frames := 7, cells := 2, slots := 12, locals := 124 } : Room) s m args below meth c 1 6 (vx_MQ below (va_Qv (fun u => z = ((0, 0), u)) (tmAt tm_shC 256 D cy ad A) A) (tmXX tm_shC 256 D cy ad A 0 z) args s 2 12 A) 3 D cy tm_shC ad 256 [] A z 23 [(0, .ref (ad 247)), (1, .int x1), (2, .int x2)] [.int s0] v (f_X7_setForm_23 x1 x2 s0 v) := by
  unfold f_X7_setForm_23
  refine tg_callSxv (As := [.int s0]) 1 C0 hE hout dX7_setForm_23 (c_X7_requireState l hl s0 v) rfl rfl (tm_gS tl_X7_45 tst_X7_requireState tn_X7 tc_X7_requireState) rfl rfl rfl rfl (by decide +kernel) ⟨by decide, by decide⟩ (Nat.le_of_ble_eq_true rfl) ⟨by decide, by decide⟩ ⟨by decide, by decide⟩ (fun v4 _ => ?_)
  refine tg_aload_n 0 C0 dX7_setForm_26 rfl rfl ?_
  refine tg_callVv (As := []) 247 0 C0 dX7_setForm_27 (c_X7_remember l v4) rfl rfl (by decide) rfl rfl (tm_gV tl_X7_95 ti_X7_remember ts_X7_remember tn_X7 tc_X7_remember)  rfl rfl rfl rfl (by decide +kernel) ⟨by decide, by decide⟩ (Nat.le_of_ble_eq_true rfl) ⟨by decide, by decide⟩ (fun v5 _ => ?_)
  refine tg_aload_n 0 C0 dX7_setForm_30 rfl rfl ?_
  refine tg_get 247 0 C0 dX7_setForm_31 (by decide) rfl rfl tu_X7 (by decide) tf_X7_12 rfl rfl rfl ?_
  refine tg_getN 0 5 C0 dX7_setForm_34 (by decide) rfl rfl tu_X4 (by decide) tm_nwC_X7_98 rfl rfl rfl ?_
  refine tg_iload_n 1 C0 dX7_setForm_37 rfl rfl ?_
  refine tg_putN 1 0 C0 dX7_setForm_38 (by decide) rfl rfl tu_X5 tyX5_ok nmX5 (by decide) tm_nwC_X7_102 rfl rfl rfl rfl rfl rfl ?_
  refine tg_letm (fun v7 _ => ?_)
  refine tg_aload_n 0 C0 dX7_setForm_41 rfl rfl ?_
  refine tg_get 247 0 C0 dX7_setForm_42 (by decide) rfl rfl tu_X7 (by decide) tf_X7_12 rfl rfl rfl ?_
  refine tg_getN 0 5 C0 dX7_setForm_45 (by decide) rfl rfl tu_X4 (by decide) tm_nwC_X7_98 rfl rfl rfl ?_
  refine tg_iload_n 2 C0 dX7_setForm_48 rfl rfl ?_
  refine tg_putN 1 1 C0 dX7_setForm_49 (by decide) rfl rfl tu_X5 tyX5_ok nmX5 (by decide) tm_nwC_X7_107 rfl rfl rfl rfl rfl rfl ?_
  refine tg_letm (fun v8 _ => ?_)
  exact tg_xvret C0 dX7_setForm_52 ⟨by decide, by decide⟩
def f_X7_setForm (x1 x2 : Int32) (v : tmM) : Option (tmR) := tm_cl (f_X7_isForm x1 x2 v) fun r2 v1 => tm_cx (f_X7_requireArgument r2 v1) (fun _ v3 => (if (v3 0 0) = 0 then f_X7_setForm_23 x1 x2 1 v3 else f_X7_setForm_23 x1 x2 0 v3)) 0
set_option maxRecDepth 100000 in
set_option maxHeartbeats 4000000 in
theorem w_X7_setForm {p : Program} {l : Launch} {e : Env} {s : State} {m : MethodId} {args : Array Value} {below : List Frame} {meth : Method} {c : Code} {D : va_G} {cy : Nat → ClassId} {ad : Nat → Nat} {A : Nat → Prop} {z : (tmR)} (C0 : tmC p s m args meth c cX7_setForm 3 none RX7 TMW tm_NWC D cy tm_shC ad 256 [] A) (hl : l.stackTraces = false) (hE : tmTh A s s.heap) (hout : ∀ x ∈ c.exceptionTable.toList, False) (x1 x2 : Int32) (v : tmM) : tmG p l e ({ frames := 7, cells := 2, slots := 12, locals := 124 } : Room) s m args below meth c 0 0 (vx_MQ below (va_Qv (fun u => z = ((0, 0), u)) (tmAt tm_shC 256 D cy ad A) A) (tmXX tm_shC 256 D cy ad A 0 z) args s 2 12 A) 3 D cy tm_shC ad 256 [] A z 0 [(0, .ref (ad 247)), (1, .int x1), (2, .int x2)] [] v (f_X7_setForm x1 x2 v) := by
  unfold f_X7_setForm
  refine tg_iload_n 1 C0 dX7_setForm_0 rfl rfl ?_
  refine tg_iload_n 2 C0 dX7_setForm_1 rfl rfl ?_
  refine tg_callSi (As := [.int x1, .int x2]) 2 C0 dX7_setForm_2 (c_X7_isForm l x1 x2 v) rfl rfl (tm_gc tc_X7_isForm) tl_X7_88 tn_X7 tst_X7_isForm  rfl rfl rfl rfl (by decide +kernel) ⟨by decide, by decide⟩ (Nat.le_of_ble_eq_true rfl) ⟨by decide, by decide⟩ (fun r2 v1 _ => ?_)
  refine tg_callSxv (As := [.int r2]) 1 C0 hE hout dX7_setForm_5 (c_X7_requireArgument l hl r2 v1) rfl rfl (tm_gS tl_X7_53 tst_X7_requireArgument tn_X7 tc_X7_requireArgument) rfl rfl rfl rfl (by decide +kernel) ⟨by decide, by decide⟩ (Nat.le_of_ble_eq_true rfl) ⟨by decide, by decide⟩ ⟨by decide, by decide⟩ (fun v3 _ => ?_)
  refine tg_aload_n 0 C0 dX7_setForm_8 rfl rfl ?_
  refine tg_get 247 0 C0 dX7_setForm_9 (by decide) rfl rfl tu_X7 (by decide) tf_X7_12 rfl rfl rfl ?_
  refine tg_getN 0 0 C0 dX7_setForm_12 (by decide) rfl rfl tu_X4 (by decide) tm_nwC_X7_92 rfl rfl rfl ?_
  refine tg_if_ne 22 C0 dX7_setForm_15 (by decide) (fun _ => ?_) (fun _ => ?_)
  · refine tg_iconst (x := 0) C0 dX7_setForm_22 (by decide) ?_
    exact w_X7_setForm_23 C0 hl hE hout x1 x2 0 v3
  · refine tg_iconst (x := 1) C0 dX7_setForm_18 (by decide) ?_
    refine tg_goto 23 C0 dX7_setForm_19 (by decide) ?_
    exact w_X7_setForm_23 C0 hl hE hout x1 x2 1 v3
theorem c_X7_setForm (l : Launch) (hl : l.stackTraces = false) (x1 x2 : Int32) (v : tmM) : tmXv tm_NWC tm_shC 256 l yX7_setForm (Cond.code yX7_setForm cX7_setForm 3 none :: TMW) ({ frames := 7, cells := 2, slots := 12, locals := 124 } : Room) (fun ad => [.ref (ad 247), .int x1, .int x2]) v 2 12 (f_X7_setForm x1 x2 v) :=
  tmXv.of (cc := cX7_setForm) (nL := 3) (by decide +kernel) rfl tm_NWC_ok (fun _ => Nat.le_of_ble_eq_true rfl) (fun p e s m args below meth c A D cy ad z C0 hE hout => w_X7_setForm C0 hl hE hout x1 x2 v)
-- ----- X7_setUp
theorem dX7_setUp_0 : decode cX7_setUp 0 = .ok (.iload_n 1, 1) := by decide +kernel
theorem dX7_setUp_1 : decode cX7_setUp 1 = .ok (.invokestatic 110, 3) := by decide +kernel
theorem dX7_setUp_4 : decode cX7_setUp 4 = .ok (.invokestatic 114, 3) := by decide +kernel
theorem dX7_setUp_7 : decode cX7_setUp 7 = .ok (.aload_n 0, 1) := by decide +kernel
theorem dX7_setUp_8 : decode cX7_setUp 8 = .ok (.getfield 12, 3) := by decide +kernel
theorem dX7_setUp_11 : decode cX7_setUp 11 = .ok (.getfield 117, 3) := by decide +kernel
theorem dX7_setUp_14 : decode cX7_setUp 14 = .ok (.iload_n 1, 1) := by decide +kernel
theorem dX7_setUp_15 : decode cX7_setUp 15 = .ok (.invokestatic 120, 3) := by decide +kernel
theorem dX7_setUp_18 : decode cX7_setUp 18 = .ok (.istore_n 3, 1) := by decide +kernel
theorem dX7_setUp_19 : decode cX7_setUp 19 = .ok (.aload_n 0, 1) := by decide +kernel
theorem dX7_setUp_20 : decode cX7_setUp 20 = .ok (.invokevirtual 95, 3) := by decide +kernel
theorem dX7_setUp_23 : decode cX7_setUp 23 = .ok (.aload_n 0, 1) := by decide +kernel
theorem dX7_setUp_24 : decode cX7_setUp 24 = .ok (.getfield 12, 3) := by decide +kernel
theorem dX7_setUp_27 : decode cX7_setUp 27 = .ok (.iload_n 2, 1) := by decide +kernel
theorem dX7_setUp_28 : decode cX7_setUp 28 = .ok (.ifCond .eq 17, 3) := by decide +kernel
theorem dX7_setUp_31 : decode cX7_setUp 31 = .ok (.aload_n 0, 1) := by decide +kernel
theorem dX7_setUp_32 : decode cX7_setUp 32 = .ok (.getfield 12, 3) := by decide +kernel
theorem dX7_setUp_35 : decode cX7_setUp 35 = .ok (.getfield 117, 3) := by decide +kernel
theorem dX7_setUp_38 : decode cX7_setUp 38 = .ok (.iconst 1, 1) := by decide +kernel
theorem dX7_setUp_39 : decode cX7_setUp 39 = .ok (.iload_n 1, 1) := by decide +kernel
theorem dX7_setUp_40 : decode cX7_setUp 40 = .ok (.ishl, 1) := by decide +kernel
theorem dX7_setUp_41 : decode cX7_setUp 41 = .ok (.ior, 1) := by decide +kernel
theorem dX7_setUp_42 : decode cX7_setUp 42 = .ok (.goto 16, 3) := by decide +kernel
theorem dX7_setUp_45 : decode cX7_setUp 45 = .ok (.aload_n 0, 1) := by decide +kernel
theorem dX7_setUp_46 : decode cX7_setUp 46 = .ok (.getfield 12, 3) := by decide +kernel
theorem dX7_setUp_49 : decode cX7_setUp 49 = .ok (.getfield 117, 3) := by decide +kernel
theorem dX7_setUp_52 : decode cX7_setUp 52 = .ok (.iconst 1, 1) := by decide +kernel
theorem dX7_setUp_53 : decode cX7_setUp 53 = .ok (.iload_n 1, 1) := by decide +kernel
theorem dX7_setUp_54 : decode cX7_setUp 54 = .ok (.ishl, 1) := by decide +kernel
theorem dX7_setUp_55 : decode cX7_setUp 55 = .ok (.iconst (-1), 1) := by decide +kernel
theorem dX7_setUp_56 : decode cX7_setUp 56 = .ok (.ixor, 1) := by decide +kernel
theorem dX7_setUp_57 : decode cX7_setUp 57 = .ok (.iand, 1) := by decide +kernel
theorem dX7_setUp_58 : decode cX7_setUp 58 = .ok (.putfield 117, 3) := by decide +kernel
theorem dX7_setUp_61 : decode cX7_setUp 61 = .ok (.iload_n 3, 1) := by decide +kernel
theorem dX7_setUp_62 : decode cX7_setUp 62 = .ok (.ireturn, 1) := by decide +kernel
theorem tc_X7_isSide : Cond.code yX7_isSide cX7_isSide 1 (some .boolean) ∈ TMW := tm_in 942 (by decide +kernel) (by decide +kernel)
theorem tl_X7_110 : Cond.methodLink RX7 110 yX7_isSide ∈ TMW := tm_in 940 (by decide +kernel) (by decide +kernel)
theorem tst_X7_isSide : Cond.static yX7_isSide ∈ TMW := tm_in 941 (by decide +kernel) (by decide +kernel)
theorem tl_X7_114 : Cond.methodLink RX7 114 yX7_requireIndex ∈ TMW := tm_in 943 (by decide +kernel) (by decide +kernel)
theorem tst_X7_requireIndex : Cond.static yX7_requireIndex ∈ TMW := tm_in 944 (by decide +kernel) (by decide +kernel)
theorem tc_X7_requireIndex : Cond.code yX7_requireIndex cX7_requireIndex 1 none ∈ TMW := tm_in 945 (by decide +kernel) (by decide +kernel)
def f_X7_setUp (x1 x2 : Int32) (v : tmM) : Option (tmR) := tm_cl (f_X7_isSide x1 v) fun r2 v1 => tm_cx (f_X7_requireIndex r2 v1) (fun _ v3 => tm_cl (f_X7_has (v3 0 1) x1 v3) fun r5 v4 => tm_cl (f_X7_remember v4) fun _ v6 => (if x2 = 0 then tm_lt (tm_up v6 0 1 ((v6 0 1) &&& ((1 <<< (x1 &&& 31)) ^^^ (-1)))) fun v8 => tm_g (tm_bi r5) (some ((0, r5), v8)) else tm_lt (tm_up v6 0 1 ((v6 0 1) ||| (1 <<< (x1 &&& 31)))) fun v9 => tm_g (tm_bi r5) (some ((0, r5), v9)))) 0
set_option maxRecDepth 100000 in
set_option maxHeartbeats 4000000 in
theorem w_X7_setUp {p : Program} {l : Launch} {e : Env} {s : State} {m : MethodId} {args : Array Value} {below : List Frame} {meth : Method} {c : Code} {D : va_G} {cy : Nat → ClassId} {ad : Nat → Nat} {A : Nat → Prop} {z : (tmR)} (C0 : tmC p s m args meth c cX7_setUp 4 (some .boolean) RX7 TMW tm_NWC D cy tm_shC ad 256 [] A) (hl : l.stackTraces = false) (hE : tmTh A s s.heap) (hout : ∀ x ∈ c.exceptionTable.toList, False) (x1 x2 : Int32) (v : tmM) : tmG p l e ({ frames := 7, cells := 1, slots := 6, locals := 124 } : Room) s m args below meth c 0 0 (vx_MQ below (va_Qi (fun r u => z = ((0, r), u)) (tmAt tm_shC 256 D cy ad A) A) (tmXX tm_shC 256 D cy ad A 0 z) args s 1 6 A) 4 D cy tm_shC ad 256 [] A z 0 [(0, .ref (ad 247)), (1, .int x1), (2, .int x2)] [] v (f_X7_setUp x1 x2 v) := by
  unfold f_X7_setUp
  refine tg_iload_n 1 C0 dX7_setUp_0 rfl rfl ?_
  refine tg_callSi (As := [.int x1]) 1 C0 dX7_setUp_1 (c_X7_isSide l x1 v) rfl rfl (tm_gc tc_X7_isSide) tl_X7_110 tn_X7 tst_X7_isSide  rfl rfl rfl rfl (by decide +kernel) ⟨by decide, by decide⟩ (Nat.le_of_ble_eq_true rfl) ⟨by decide, by decide⟩ (fun r2 v1 _ => ?_)
  refine tg_callSxi (As := [.int r2]) 1 C0 hE hout dX7_setUp_4 (c_X7_requireIndex l hl r2 v1) rfl rfl (tm_gS tl_X7_114 tst_X7_requireIndex tn_X7 tc_X7_requireIndex) rfl rfl rfl rfl (by decide +kernel) ⟨by decide, by decide⟩ (Nat.le_of_ble_eq_true rfl) ⟨by decide, by decide⟩ ⟨by decide, by decide⟩ (fun v3 _ => ?_)
  refine tg_aload_n 0 C0 dX7_setUp_7 rfl rfl ?_
  refine tg_get 247 0 C0 dX7_setUp_8 (by decide) rfl rfl tu_X7 (by decide) tf_X7_12 rfl rfl rfl ?_
  refine tg_getN 0 1 C0 dX7_setUp_11 (by decide) rfl rfl tu_X4 (by decide) tm_nwC_X7_117 rfl rfl rfl ?_
  refine tg_iload_n 1 C0 dX7_setUp_14 rfl rfl ?_
  refine tg_callSi (As := [.int (v3 0 1), .int x1]) 2 C0 dX7_setUp_15 (c_X7_has l (v3 0 1) x1 v3) rfl rfl (tm_gc tc_X7_has) tl_X7_120 tn_X7 tst_X7_has  rfl rfl rfl rfl (by decide +kernel) ⟨by decide, by decide⟩ (Nat.le_of_ble_eq_true rfl) ⟨by decide, by decide⟩ (fun r5 v4 _ => ?_)
  refine tg_istore_n [(3, .int r5), (0, .ref (ad 247)), (1, .int x1), (2, .int x2)] C0 dX7_setUp_18 rfl (by decide) rfl ?_
  refine tg_aload_n 1 C0 dX7_setUp_19 rfl rfl ?_
  refine tg_callVv (As := []) 247 0 C0 dX7_setUp_20 (c_X7_remember l v4) rfl rfl (by decide) rfl rfl (tm_gV tl_X7_95 ti_X7_remember ts_X7_remember tn_X7 tc_X7_remember)  rfl rfl rfl rfl (by decide +kernel) ⟨by decide, by decide⟩ (Nat.le_of_ble_eq_true rfl) ⟨by decide, by decide⟩ (fun v6 _ => ?_)
  refine tg_aload_n 1 C0 dX7_setUp_23 rfl rfl ?_
  refine tg_get 247 0 C0 dX7_setUp_24 (by decide) rfl rfl tu_X7 (by decide) tf_X7_12 rfl rfl rfl ?_
  refine tg_iload_n 3 C0 dX7_setUp_27 rfl rfl ?_
  refine tg_if_eq 45 C0 dX7_setUp_28 (by decide) (fun _ => ?_) (fun _ => ?_)
  · refine tg_aload_n 1 C0 dX7_setUp_45 rfl rfl ?_
    refine tg_get 247 0 C0 dX7_setUp_46 (by decide) rfl rfl tu_X7 (by decide) tf_X7_12 rfl rfl rfl ?_
    refine tg_getN 0 1 C0 dX7_setUp_49 (by decide) rfl rfl tu_X4 (by decide) tm_nwC_X7_117 rfl rfl rfl ?_
    refine tg_iconst (x := 1) C0 dX7_setUp_52 (by decide) ?_
    refine tg_iload_n 2 C0 dX7_setUp_53 rfl rfl ?_
    refine tg_ishl C0 dX7_setUp_54 ?_
    refine tg_iconst (x := (-1)) C0 dX7_setUp_55 (by decide) ?_
    refine tg_ixor C0 dX7_setUp_56 ?_
    refine tg_iand C0 dX7_setUp_57 ?_
    refine tg_putN 0 1 C0 dX7_setUp_58 (by decide) rfl rfl tu_X4 tyX4_ok nmX4 (by decide) tm_nwC_X7_117 rfl rfl rfl rfl rfl rfl ?_
    refine tg_letm (fun v8 _ => ?_)
    refine tg_iload_n 0 C0 dX7_setUp_61 rfl rfl ?_
    exact tg_xbret C0 dX7_setUp_62 ⟨by decide, by decide⟩
  · refine tg_aload_n 1 C0 dX7_setUp_31 rfl rfl ?_
    refine tg_get 247 0 C0 dX7_setUp_32 (by decide) rfl rfl tu_X7 (by decide) tf_X7_12 rfl rfl rfl ?_
    refine tg_getN 0 1 C0 dX7_setUp_35 (by decide) rfl rfl tu_X4 (by decide) tm_nwC_X7_117 rfl rfl rfl ?_
    refine tg_iconst (x := 1) C0 dX7_setUp_38 (by decide) ?_
    refine tg_iload_n 2 C0 dX7_setUp_39 rfl rfl ?_
    refine tg_ishl C0 dX7_setUp_40 ?_
    refine tg_ior C0 dX7_setUp_41 ?_
    refine tg_goto 58 C0 dX7_setUp_42 (by decide) ?_
    refine tg_putN 0 1 C0 dX7_setUp_58 (by decide) rfl rfl tu_X4 tyX4_ok nmX4 (by decide) tm_nwC_X7_117 rfl rfl rfl rfl rfl rfl ?_
    refine tg_letm (fun v9 _ => ?_)
    refine tg_iload_n 0 C0 dX7_setUp_61 rfl rfl ?_
    exact tg_xbret C0 dX7_setUp_62 ⟨by decide, by decide⟩
theorem c_X7_setUp (l : Launch) (hl : l.stackTraces = false) (x1 x2 : Int32) (v : tmM) : tmXi tm_NWC tm_shC 256 l yX7_setUp (Cond.code yX7_setUp cX7_setUp 4 (some .boolean) :: TMW) ({ frames := 7, cells := 1, slots := 6, locals := 124 } : Room) (fun ad => [.ref (ad 247), .int x1, .int x2]) v 1 6 (f_X7_setUp x1 x2 v) :=
  tmXi.of (cc := cX7_setUp) (nL := 4) (by decide +kernel) rfl tm_NWC_ok (fun _ => Nat.le_of_ble_eq_true rfl) (fun p e s m args below meth c A D cy ad z C0 hE hout => w_X7_setUp C0 hl hE hout x1 x2 v)
-- ----- X7_damage
theorem dX7_damage_0 : decode cX7_damage 0 = .ok (.iload_n 1, 1) := by decide +kernel
theorem dX7_damage_1 : decode cX7_damage 1 = .ok (.invokestatic 123, 3) := by decide +kernel
theorem dX7_damage_4 : decode cX7_damage 4 = .ok (.invokestatic 114, 3) := by decide +kernel
theorem dX7_damage_7 : decode cX7_damage 7 = .ok (.iload_n 2, 1) := by decide +kernel
theorem dX7_damage_8 : decode cX7_damage 8 = .ok (.iconst (-1), 1) := by decide +kernel
theorem dX7_damage_9 : decode cX7_damage 9 = .ok (.if_icmp .lt 14, 3) := by decide +kernel
theorem dX7_damage_12 : decode cX7_damage 12 = .ok (.iload_n 2, 1) := by decide +kernel
theorem dX7_damage_13 : decode cX7_damage 13 = .ok (.sipush 9999, 3) := by decide +kernel
theorem dX7_damage_16 : decode cX7_damage 16 = .ok (.if_icmp .gt 7, 3) := by decide +kernel
theorem dX7_damage_19 : decode cX7_damage 19 = .ok (.iconst 1, 1) := by decide +kernel
theorem dX7_damage_20 : decode cX7_damage 20 = .ok (.goto 4, 3) := by decide +kernel
theorem dX7_damage_23 : decode cX7_damage 23 = .ok (.iconst 0, 1) := by decide +kernel
theorem dX7_damage_24 : decode cX7_damage 24 = .ok (.invokestatic 53, 3) := by decide +kernel
theorem dX7_damage_27 : decode cX7_damage 27 = .ok (.aload_n 0, 1) := by decide +kernel
theorem dX7_damage_28 : decode cX7_damage 28 = .ok (.getfield 12, 3) := by decide +kernel
theorem dX7_damage_31 : decode cX7_damage 31 = .ok (.getfield 92, 3) := by decide +kernel
theorem dX7_damage_34 : decode cX7_damage 34 = .ok (.ifCond .eq 7, 3) := by decide +kernel
theorem dX7_damage_37 : decode cX7_damage 37 = .ok (.iconst 1, 1) := by decide +kernel
theorem dX7_damage_38 : decode cX7_damage 38 = .ok (.goto 4, 3) := by decide +kernel
theorem dX7_damage_41 : decode cX7_damage 41 = .ok (.iconst 0, 1) := by decide +kernel
theorem dX7_damage_42 : decode cX7_damage 42 = .ok (.invokestatic 45, 3) := by decide +kernel
theorem dX7_damage_45 : decode cX7_damage 45 = .ok (.aload_n 0, 1) := by decide +kernel
theorem dX7_damage_46 : decode cX7_damage 46 = .ok (.getfield 12, 3) := by decide +kernel
theorem dX7_damage_49 : decode cX7_damage 49 = .ok (.getfield 98, 3) := by decide +kernel
theorem dX7_damage_52 : decode cX7_damage 52 = .ok (.getfield 126, 3) := by decide +kernel
theorem dX7_damage_55 : decode cX7_damage 55 = .ok (.iconst 1, 1) := by decide +kernel
theorem dX7_damage_56 : decode cX7_damage 56 = .ok (.aaload, 1) := by decide +kernel
theorem dX7_damage_57 : decode cX7_damage 57 = .ok (.iload_n 1, 1) := by decide +kernel
theorem dX7_damage_58 : decode cX7_damage 58 = .ok (.iaload, 1) := by decide +kernel
theorem dX7_damage_59 : decode cX7_damage 59 = .ok (.istore_n 3, 1) := by decide +kernel
theorem dX7_damage_60 : decode cX7_damage 60 = .ok (.aload_n 0, 1) := by decide +kernel
theorem dX7_damage_61 : decode cX7_damage 61 = .ok (.invokevirtual 95, 3) := by decide +kernel
theorem dX7_damage_64 : decode cX7_damage 64 = .ok (.aload_n 0, 1) := by decide +kernel
theorem dX7_damage_65 : decode cX7_damage 65 = .ok (.getfield 12, 3) := by decide +kernel
theorem dX7_damage_68 : decode cX7_damage 68 = .ok (.getfield 98, 3) := by decide +kernel
theorem dX7_damage_71 : decode cX7_damage 71 = .ok (.getfield 126, 3) := by decide +kernel
theorem dX7_damage_74 : decode cX7_damage 74 = .ok (.iconst 1, 1) := by decide +kernel
theorem dX7_damage_75 : decode cX7_damage 75 = .ok (.aaload, 1) := by decide +kernel
theorem dX7_damage_76 : decode cX7_damage 76 = .ok (.iload_n 1, 1) := by decide +kernel
theorem dX7_damage_77 : decode cX7_damage 77 = .ok (.iload_n 2, 1) := by decide +kernel
theorem dX7_damage_78 : decode cX7_damage 78 = .ok (.iastore, 1) := by decide +kernel
theorem dX7_damage_79 : decode cX7_damage 79 = .ok (.iload_n 3, 1) := by decide +kernel
theorem dX7_damage_80 : decode cX7_damage 80 = .ok (.ireturn, 1) := by decide +kernel
def f_X7_damage_42 (x1 x2 s0 : Int32) (v : tmM) : Option (tmR) := tm_cx (f_X7_requireState s0 v) (fun _ v5 => tm_g (tm_ix 1 2) (tm_lt (([3, 4] : List Nat).getD (1 : Int32).toNatClampNeg 0) fun q7 => tm_g (tm_ix x1 60) (tm_lt (v5 q7 x1.toNatClampNeg) fun y9 => tm_cl (f_X7_remember v5) fun _ v10 => tm_g (tm_ix 1 2) (tm_lt (([3, 4] : List Nat).getD (1 : Int32).toNatClampNeg 0) fun q13 => tm_g (tm_ix x1 60) (tm_lt (tm_up v10 q13 x1.toNatClampNeg x2) fun v15 => some ((0, y9), v15)))))) 0
set_option maxRecDepth 100000 in
set_option maxHeartbeats 4000000 in
theorem w_X7_damage_42 {p : Program} {l : Launch} {e : Env} {s : State} {m : MethodId} {args : Array Value} {below : List Frame} {meth : Method} {c : Code} {D : va_G} {cy : Nat → ClassId} {ad : Nat → Nat} {A : Nat → Prop} {z : (tmR)} (C0 : tmC p s m args meth c cX7_damage 4 (some .int) RX7 TMW tm_NWC D cy tm_shC ad 256 [] A) (hl : l.stackTraces = false) (hE : tmTh A s s.heap) (hout : ∀ x ∈ c.exceptionTable.toList, False) (x1 x2 s0 : Int32) (v : tmM) : tmG p l e ({ frames := 7, cells := 3, slots := 18, locals := 124 } : Room) s m args below meth c 2 12 (vx_MQ below (va_Qi (fun r u => z = ((0, r), u)) (tmAt tm_shC 256 D cy ad A) A) (tmXX tm_shC 256 D cy ad A 0 z) args s 3 18 A) 4 D cy tm_shC ad 256 [] A z 42 [(0, .ref (ad 247)), (1, .int x1), (2, .int x2)] [.int s0] v (f_X7_damage_42 x1 x2 s0 v) := by
  unfold f_X7_damage_42
  refine tg_callSxi (As := [.int s0]) 1 C0 hE hout dX7_damage_42 (c_X7_requireState l hl s0 v) rfl rfl (tm_gS tl_X7_45 tst_X7_requireState tn_X7 tc_X7_requireState) rfl rfl rfl rfl (by decide +kernel) ⟨by decide, by decide⟩ (Nat.le_of_ble_eq_true rfl) ⟨by decide, by decide⟩ ⟨by decide, by decide⟩ (fun v5 _ => ?_)
  refine tg_aload_n 0 C0 dX7_damage_45 rfl rfl ?_
  refine tg_get 247 0 C0 dX7_damage_46 (by decide) rfl rfl tu_X7 (by decide) tf_X7_12 rfl rfl rfl ?_
  refine tg_getN 0 5 C0 dX7_damage_49 (by decide) rfl rfl tu_X4 (by decide) tm_nwC_X7_98 rfl rfl rfl ?_
  refine tg_getN 1 2 C0 dX7_damage_52 (by decide) rfl rfl tu_X5 (by decide) tm_nwC_X7_126 rfl rfl rfl ?_
  refine tg_iconst (x := 1) C0 dX7_damage_55 (by decide) ?_
  refine tg_aald 2 C0 dX7_damage_56 (by decide) rfl (by decide) rfl (fun q7 h6 e8 => ?_)
  have q7f := tm_all (P := fun r => tm_shC r = .inl (0, 60) ∧ r < 256) h6 e8 (by decide +kernel)
  refine tg_iload_n 1 C0 dX7_damage_57 rfl rfl ?_
  refine tg_iald q7 C0 dX7_damage_58 q7f.2 q7f.1 (fun _ => ?_)
  refine tg_leti (fun y9 _ => ?_)
  refine tg_istore_n [(3, .int y9), (0, .ref (ad 247)), (1, .int x1), (2, .int x2)] C0 dX7_damage_59 rfl (by decide) rfl ?_
  refine tg_aload_n 1 C0 dX7_damage_60 rfl rfl ?_
  refine tg_callVv (As := []) 247 0 C0 dX7_damage_61 (c_X7_remember l v5) rfl rfl (by decide) rfl rfl (tm_gV tl_X7_95 ti_X7_remember ts_X7_remember tn_X7 tc_X7_remember)  rfl rfl rfl rfl (by decide +kernel) ⟨by decide, by decide⟩ (Nat.le_of_ble_eq_true rfl) ⟨by decide, by decide⟩ (fun v10 _ => ?_)
  refine tg_aload_n 1 C0 dX7_damage_64 rfl rfl ?_
  refine tg_get 247 0 C0 dX7_damage_65 (by decide) rfl rfl tu_X7 (by decide) tf_X7_12 rfl rfl rfl ?_
  refine tg_getN 0 5 C0 dX7_damage_68 (by decide) rfl rfl tu_X4 (by decide) tm_nwC_X7_98 rfl rfl rfl ?_
  refine tg_getN 1 2 C0 dX7_damage_71 (by decide) rfl rfl tu_X5 (by decide) tm_nwC_X7_126 rfl rfl rfl ?_
  refine tg_iconst (x := 1) C0 dX7_damage_74 (by decide) ?_
  refine tg_aald 2 C0 dX7_damage_75 (by decide) rfl (by decide) rfl (fun q13 h12 e14 => ?_)
  have q13f := tm_all (P := fun r => tm_shC r = .inl (0, 60) ∧ r < 256) h12 e14 (by decide +kernel)
  refine tg_iload_n 2 C0 dX7_damage_76 rfl rfl ?_
  refine tg_iload_n 3 C0 dX7_damage_77 rfl rfl ?_
  refine tg_iast q13 C0 dX7_damage_78 q13f.2 q13f.1 (fun _ => ?_)
  refine tg_letm (fun v15 _ => ?_)
  refine tg_iload_n 0 C0 dX7_damage_79 rfl rfl ?_
  exact tg_xiret C0 dX7_damage_80 ⟨by decide, by decide⟩
def f_X7_damage_24 (x1 x2 s0 : Int32) (v : tmM) : Option (tmR) := tm_cx (f_X7_requireArgument s0 v) (fun _ v4 => (if (v4 0 0) = 0 then f_X7_damage_42 x1 x2 0 v4 else f_X7_damage_42 x1 x2 1 v4)) 0
set_option maxRecDepth 100000 in
set_option maxHeartbeats 4000000 in
theorem w_X7_damage_24 {p : Program} {l : Launch} {e : Env} {s : State} {m : MethodId} {args : Array Value} {below : List Frame} {meth : Method} {c : Code} {D : va_G} {cy : Nat → ClassId} {ad : Nat → Nat} {A : Nat → Prop} {z : (tmR)} (C0 : tmC p s m args meth c cX7_damage 4 (some .int) RX7 TMW tm_NWC D cy tm_shC ad 256 [] A) (hl : l.stackTraces = false) (hE : tmTh A s s.heap) (hout : ∀ x ∈ c.exceptionTable.toList, False) (x1 x2 s0 : Int32) (v : tmM) : tmG p l e ({ frames := 7, cells := 3, slots := 18, locals := 124 } : Room) s m args below meth c 1 6 (vx_MQ below (va_Qi (fun r u => z = ((0, r), u)) (tmAt tm_shC 256 D cy ad A) A) (tmXX tm_shC 256 D cy ad A 0 z) args s 3 18 A) 4 D cy tm_shC ad 256 [] A z 24 [(0, .ref (ad 247)), (1, .int x1), (2, .int x2)] [.int s0] v (f_X7_damage_24 x1 x2 s0 v) := by
  unfold f_X7_damage_24
  refine tg_callSxi (As := [.int s0]) 1 C0 hE hout dX7_damage_24 (c_X7_requireArgument l hl s0 v) rfl rfl (tm_gS tl_X7_53 tst_X7_requireArgument tn_X7 tc_X7_requireArgument) rfl rfl rfl rfl (by decide +kernel) ⟨by decide, by decide⟩ (Nat.le_of_ble_eq_true rfl) ⟨by decide, by decide⟩ ⟨by decide, by decide⟩ (fun v4 _ => ?_)
  refine tg_aload_n 0 C0 dX7_damage_27 rfl rfl ?_
  refine tg_get 247 0 C0 dX7_damage_28 (by decide) rfl rfl tu_X7 (by decide) tf_X7_12 rfl rfl rfl ?_
  refine tg_getN 0 0 C0 dX7_damage_31 (by decide) rfl rfl tu_X4 (by decide) tm_nwC_X7_92 rfl rfl rfl ?_
  refine tg_if_eq 41 C0 dX7_damage_34 (by decide) (fun _ => ?_) (fun _ => ?_)
  · refine tg_iconst (x := 0) C0 dX7_damage_41 (by decide) ?_
    exact w_X7_damage_42 C0 hl hE hout x1 x2 0 v4
  · refine tg_iconst (x := 1) C0 dX7_damage_37 (by decide) ?_
    refine tg_goto 42 C0 dX7_damage_38 (by decide) ?_
    exact w_X7_damage_42 C0 hl hE hout x1 x2 1 v4
def f_X7_damage_23 (x1 x2 : Int32) (v : tmM) : Option (tmR) := f_X7_damage_24 x1 x2 0 v
set_option maxRecDepth 100000 in
set_option maxHeartbeats 4000000 in
theorem w_X7_damage_23 {p : Program} {l : Launch} {e : Env} {s : State} {m : MethodId} {args : Array Value} {below : List Frame} {meth : Method} {c : Code} {D : va_G} {cy : Nat → ClassId} {ad : Nat → Nat} {A : Nat → Prop} {z : (tmR)} (C0 : tmC p s m args meth c cX7_damage 4 (some .int) RX7 TMW tm_NWC D cy tm_shC ad 256 [] A) (hl : l.stackTraces = false) (hE : tmTh A s s.heap) (hout : ∀ x ∈ c.exceptionTable.toList, False) (x1 x2 : Int32) (v : tmM) : tmG p l e ({ frames := 7, cells := 3, slots := 18, locals := 124 } : Room) s m args below meth c 1 6 (vx_MQ below (va_Qi (fun r u => z = ((0, r), u)) (tmAt tm_shC 256 D cy ad A) A) (tmXX tm_shC 256 D cy ad A 0 z) args s 3 18 A) 4 D cy tm_shC ad 256 [] A z 23 [(0, .ref (ad 247)), (1, .int x1), (2, .int x2)] [] v (f_X7_damage_23 x1 x2 v) := by
  unfold f_X7_damage_23
  refine tg_iconst (x := 0) C0 dX7_damage_23 (by decide) ?_
  exact w_X7_damage_24 C0 hl hE hout x1 x2 0 v
def f_X7_damage (x1 x2 : Int32) (v : tmM) : Option (tmR) := tm_cl (f_X7_isKey x1 v) fun r2 v1 => tm_cx (f_X7_requireIndex r2 v1) (fun _ v3 => (if x2 < (-1) then f_X7_damage_23 x1 x2 v3 else (if 9999 < x2 then f_X7_damage_23 x1 x2 v3 else f_X7_damage_24 x1 x2 1 v3))) 0
set_option maxRecDepth 100000 in
set_option maxHeartbeats 4000000 in
theorem w_X7_damage {p : Program} {l : Launch} {e : Env} {s : State} {m : MethodId} {args : Array Value} {below : List Frame} {meth : Method} {c : Code} {D : va_G} {cy : Nat → ClassId} {ad : Nat → Nat} {A : Nat → Prop} {z : (tmR)} (C0 : tmC p s m args meth c cX7_damage 4 (some .int) RX7 TMW tm_NWC D cy tm_shC ad 256 [] A) (hl : l.stackTraces = false) (hE : tmTh A s s.heap) (hout : ∀ x ∈ c.exceptionTable.toList, False) (x1 x2 : Int32) (v : tmM) : tmG p l e ({ frames := 7, cells := 3, slots := 18, locals := 124 } : Room) s m args below meth c 0 0 (vx_MQ below (va_Qi (fun r u => z = ((0, r), u)) (tmAt tm_shC 256 D cy ad A) A) (tmXX tm_shC 256 D cy ad A 0 z) args s 3 18 A) 4 D cy tm_shC ad 256 [] A z 0 [(0, .ref (ad 247)), (1, .int x1), (2, .int x2)] [] v (f_X7_damage x1 x2 v) := by
  unfold f_X7_damage
  refine tg_iload_n 1 C0 dX7_damage_0 rfl rfl ?_
  refine tg_callSi (As := [.int x1]) 1 C0 dX7_damage_1 (c_X7_isKey l x1 v) rfl rfl (tm_gc tc_X7_isKey) tl_X7_123 tn_X7 tst_X7_isKey  rfl rfl rfl rfl (by decide +kernel) ⟨by decide, by decide⟩ (Nat.le_of_ble_eq_true rfl) ⟨by decide, by decide⟩ (fun r2 v1 _ => ?_)
  refine tg_callSxi (As := [.int r2]) 1 C0 hE hout dX7_damage_4 (c_X7_requireIndex l hl r2 v1) rfl rfl (tm_gS tl_X7_114 tst_X7_requireIndex tn_X7 tc_X7_requireIndex) rfl rfl rfl rfl (by decide +kernel) ⟨by decide, by decide⟩ (Nat.le_of_ble_eq_true rfl) ⟨by decide, by decide⟩ ⟨by decide, by decide⟩ (fun v3 _ => ?_)
  refine tg_iload_n 2 C0 dX7_damage_7 rfl rfl ?_
  refine tg_iconst (x := (-1)) C0 dX7_damage_8 (by decide) ?_
  refine tg_icmp_lt 23 C0 dX7_damage_9 (by decide) (fun _ => ?_) (fun _ => ?_)
  · exact w_X7_damage_23 C0 hl hE hout x1 x2 v3
  · refine tg_iload_n 2 C0 dX7_damage_12 rfl rfl ?_
    refine tg_sipush (x := 9999) C0 dX7_damage_13 (by decide) ?_
    refine tg_icmp_gt 23 C0 dX7_damage_16 (by decide) (fun _ => ?_) (fun _ => ?_)
    · exact w_X7_damage_23 C0 hl hE hout x1 x2 v3
    · refine tg_iconst (x := 1) C0 dX7_damage_19 (by decide) ?_
      refine tg_goto 24 C0 dX7_damage_20 (by decide) ?_
      exact w_X7_damage_24 C0 hl hE hout x1 x2 1 v3
theorem c_X7_damage (l : Launch) (hl : l.stackTraces = false) (x1 x2 : Int32) (v : tmM) : tmXi tm_NWC tm_shC 256 l yX7_damage (Cond.code yX7_damage cX7_damage 4 (some .int) :: TMW) ({ frames := 7, cells := 3, slots := 18, locals := 124 } : Room) (fun ad => [.ref (ad 247), .int x1, .int x2]) v 3 18 (f_X7_damage x1 x2 v) :=
  tmXi.of (cc := cX7_damage) (nL := 4) (by decide +kernel) rfl tm_NWC_ok (fun _ => Nat.le_of_ble_eq_true rfl) (fun p e s m args below meth c A D cy ad z C0 hE hout => w_X7_damage C0 hl hE hout x1 x2 v)
-- ----- X7_stored
theorem dX7_stored_0 : decode cX7_stored 0 = .ok (.iload_n 1, 1) := by decide +kernel
theorem dX7_stored_1 : decode cX7_stored 1 = .ok (.invokestatic 110, 3) := by decide +kernel
theorem dX7_stored_4 : decode cX7_stored 4 = .ok (.ifCond .eq 14, 3) := by decide +kernel
theorem dX7_stored_7 : decode cX7_stored 7 = .ok (.iload_n 2, 1) := by decide +kernel
theorem dX7_stored_8 : decode cX7_stored 8 = .ok (.invokestatic 123, 3) := by decide +kernel
theorem dX7_stored_11 : decode cX7_stored 11 = .ok (.ifCond .eq 7, 3) := by decide +kernel
theorem dX7_stored_14 : decode cX7_stored 14 = .ok (.iconst 1, 1) := by decide +kernel
theorem dX7_stored_15 : decode cX7_stored 15 = .ok (.goto 4, 3) := by decide +kernel
theorem dX7_stored_18 : decode cX7_stored 18 = .ok (.iconst 0, 1) := by decide +kernel
theorem dX7_stored_19 : decode cX7_stored 19 = .ok (.invokestatic 114, 3) := by decide +kernel
theorem dX7_stored_22 : decode cX7_stored 22 = .ok (.aload_n 0, 1) := by decide +kernel
theorem dX7_stored_23 : decode cX7_stored 23 = .ok (.getfield 12, 3) := by decide +kernel
theorem dX7_stored_26 : decode cX7_stored 26 = .ok (.getfield 98, 3) := by decide +kernel
theorem dX7_stored_29 : decode cX7_stored 29 = .ok (.getfield 126, 3) := by decide +kernel
theorem dX7_stored_32 : decode cX7_stored 32 = .ok (.iload_n 1, 1) := by decide +kernel
theorem dX7_stored_33 : decode cX7_stored 33 = .ok (.aaload, 1) := by decide +kernel
theorem dX7_stored_34 : decode cX7_stored 34 = .ok (.iload_n 2, 1) := by decide +kernel
theorem dX7_stored_35 : decode cX7_stored 35 = .ok (.iaload, 1) := by decide +kernel
theorem dX7_stored_36 : decode cX7_stored 36 = .ok (.ireturn, 1) := by decide +kernel
def f_X7_stored_19 (x1 x2 s0 : Int32) (v : tmM) : Option (tmR) := tm_cx (f_X7_requireIndex s0 v) (fun _ v3 => tm_g (tm_ix x1 2) (tm_lt (([3, 4] : List Nat).getD x1.toNatClampNeg 0) fun q5 => tm_g (tm_ix x2 60) (some ((0, v3 q5 x2.toNatClampNeg), v3)))) 0
set_option maxRecDepth 100000 in
set_option maxHeartbeats 4000000 in
theorem w_X7_stored_19 {p : Program} {l : Launch} {e : Env} {s : State} {m : MethodId} {args : Array Value} {below : List Frame} {meth : Method} {c : Code} {D : va_G} {cy : Nat → ClassId} {ad : Nat → Nat} {A : Nat → Prop} {z : (tmR)} (C0 : tmC p s m args meth c cX7_stored 3 (some .int) RX7 TMW tm_NWC D cy tm_shC ad 256 [] A) (hl : l.stackTraces = false) (hE : tmTh A s s.heap) (hout : ∀ x ∈ c.exceptionTable.toList, False) (x1 x2 s0 : Int32) (v : tmM) : tmG p l e ({ frames := 7, cells := 1, slots := 6, locals := 110 } : Room) s m args below meth c 0 0 (vx_MQ below (va_Qi (fun r u => z = ((0, r), u)) (tmAt tm_shC 256 D cy ad A) A) (tmXX tm_shC 256 D cy ad A 0 z) args s 1 6 A) 3 D cy tm_shC ad 256 [] A z 19 [(0, .ref (ad 247)), (1, .int x1), (2, .int x2)] [.int s0] v (f_X7_stored_19 x1 x2 s0 v) := by
  unfold f_X7_stored_19
  refine tg_callSxi (As := [.int s0]) 1 C0 hE hout dX7_stored_19 (c_X7_requireIndex l hl s0 v) rfl rfl (tm_gS tl_X7_114 tst_X7_requireIndex tn_X7 tc_X7_requireIndex) rfl rfl rfl rfl (by decide +kernel) ⟨by decide, by decide⟩ (Nat.le_of_ble_eq_true rfl) ⟨by decide, by decide⟩ ⟨by decide, by decide⟩ (fun v3 _ => ?_)
  refine tg_aload_n 0 C0 dX7_stored_22 rfl rfl ?_
  refine tg_get 247 0 C0 dX7_stored_23 (by decide) rfl rfl tu_X7 (by decide) tf_X7_12 rfl rfl rfl ?_
  refine tg_getN 0 5 C0 dX7_stored_26 (by decide) rfl rfl tu_X4 (by decide) tm_nwC_X7_98 rfl rfl rfl ?_
  refine tg_getN 1 2 C0 dX7_stored_29 (by decide) rfl rfl tu_X5 (by decide) tm_nwC_X7_126 rfl rfl rfl ?_
  refine tg_iload_n 1 C0 dX7_stored_32 rfl rfl ?_
  refine tg_aald 2 C0 dX7_stored_33 (by decide) rfl (by decide) rfl (fun q5 h4 e6 => ?_)
  have q5f := tm_all (P := fun r => tm_shC r = .inl (0, 60) ∧ r < 256) h4 e6 (by decide +kernel)
  refine tg_iload_n 2 C0 dX7_stored_34 rfl rfl ?_
  refine tg_iald q5 C0 dX7_stored_35 q5f.2 q5f.1 (fun _ => ?_)
  exact tg_xiret C0 dX7_stored_36 ⟨by decide, by decide⟩
def f_X7_stored_18 (x1 x2 : Int32) (v : tmM) : Option (tmR) := f_X7_stored_19 x1 x2 0 v
set_option maxRecDepth 100000 in
set_option maxHeartbeats 4000000 in
theorem w_X7_stored_18 {p : Program} {l : Launch} {e : Env} {s : State} {m : MethodId} {args : Array Value} {below : List Frame} {meth : Method} {c : Code} {D : va_G} {cy : Nat → ClassId} {ad : Nat → Nat} {A : Nat → Prop} {z : (tmR)} (C0 : tmC p s m args meth c cX7_stored 3 (some .int) RX7 TMW tm_NWC D cy tm_shC ad 256 [] A) (hl : l.stackTraces = false) (hE : tmTh A s s.heap) (hout : ∀ x ∈ c.exceptionTable.toList, False) (x1 x2 : Int32) (v : tmM) : tmG p l e ({ frames := 7, cells := 1, slots := 6, locals := 110 } : Room) s m args below meth c 0 0 (vx_MQ below (va_Qi (fun r u => z = ((0, r), u)) (tmAt tm_shC 256 D cy ad A) A) (tmXX tm_shC 256 D cy ad A 0 z) args s 1 6 A) 3 D cy tm_shC ad 256 [] A z 18 [(0, .ref (ad 247)), (1, .int x1), (2, .int x2)] [] v (f_X7_stored_18 x1 x2 v) := by
  unfold f_X7_stored_18
  refine tg_iconst (x := 0) C0 dX7_stored_18 (by decide) ?_
  exact w_X7_stored_19 C0 hl hE hout x1 x2 0 v
def f_X7_stored (x1 x2 : Int32) (v : tmM) : Option (tmR) := tm_cl (f_X7_isSide x1 v) fun r2 v1 => (if r2 = 0 then f_X7_stored_18 x1 x2 v1 else tm_cl (f_X7_isKey x2 v1) fun r8 v7 => (if r8 = 0 then f_X7_stored_18 x1 x2 v7 else f_X7_stored_19 x1 x2 1 v7))
set_option maxRecDepth 100000 in
set_option maxHeartbeats 4000000 in
theorem w_X7_stored {p : Program} {l : Launch} {e : Env} {s : State} {m : MethodId} {args : Array Value} {below : List Frame} {meth : Method} {c : Code} {D : va_G} {cy : Nat → ClassId} {ad : Nat → Nat} {A : Nat → Prop} {z : (tmR)} (C0 : tmC p s m args meth c cX7_stored 3 (some .int) RX7 TMW tm_NWC D cy tm_shC ad 256 [] A) (hl : l.stackTraces = false) (hE : tmTh A s s.heap) (hout : ∀ x ∈ c.exceptionTable.toList, False) (x1 x2 : Int32) (v : tmM) : tmG p l e ({ frames := 7, cells := 1, slots := 6, locals := 110 } : Room) s m args below meth c 0 0 (vx_MQ below (va_Qi (fun r u => z = ((0, r), u)) (tmAt tm_shC 256 D cy ad A) A) (tmXX tm_shC 256 D cy ad A 0 z) args s 1 6 A) 3 D cy tm_shC ad 256 [] A z 0 [(0, .ref (ad 247)), (1, .int x1), (2, .int x2)] [] v (f_X7_stored x1 x2 v) := by
  unfold f_X7_stored
  refine tg_iload_n 1 C0 dX7_stored_0 rfl rfl ?_
  refine tg_callSi (As := [.int x1]) 1 C0 dX7_stored_1 (c_X7_isSide l x1 v) rfl rfl (tm_gc tc_X7_isSide) tl_X7_110 tn_X7 tst_X7_isSide  rfl rfl rfl rfl (by decide +kernel) ⟨by decide, by decide⟩ (Nat.le_of_ble_eq_true rfl) ⟨by decide, by decide⟩ (fun r2 v1 _ => ?_)
  refine tg_if_eq 18 C0 dX7_stored_4 (by decide) (fun _ => ?_) (fun _ => ?_)
  · exact w_X7_stored_18 C0 hl hE hout x1 x2 v1
  · refine tg_iload_n 2 C0 dX7_stored_7 rfl rfl ?_
    refine tg_callSi (As := [.int x2]) 1 C0 dX7_stored_8 (c_X7_isKey l x2 v1) rfl rfl (tm_gc tc_X7_isKey) tl_X7_123 tn_X7 tst_X7_isKey  rfl rfl rfl rfl (by decide +kernel) ⟨by decide, by decide⟩ (Nat.le_of_ble_eq_true rfl) ⟨by decide, by decide⟩ (fun r8 v7 _ => ?_)
    refine tg_if_eq 18 C0 dX7_stored_11 (by decide) (fun _ => ?_) (fun _ => ?_)
    · exact w_X7_stored_18 C0 hl hE hout x1 x2 v7
    · refine tg_iconst (x := 1) C0 dX7_stored_14 (by decide) ?_
      refine tg_goto 19 C0 dX7_stored_15 (by decide) ?_
      exact w_X7_stored_19 C0 hl hE hout x1 x2 1 v7
theorem c_X7_stored (l : Launch) (hl : l.stackTraces = false) (x1 x2 : Int32) (v : tmM) : tmXi tm_NWC tm_shC 256 l yX7_stored (Cond.code yX7_stored cX7_stored 3 (some .int) :: TMW) ({ frames := 7, cells := 1, slots := 6, locals := 110 } : Room) (fun ad => [.ref (ad 247), .int x1, .int x2]) v 1 6 (f_X7_stored x1 x2 v) :=
  tmXi.of (cc := cX7_stored) (nL := 3) (by decide +kernel) rfl tm_NWC_ok (fun _ => Nat.le_of_ble_eq_true rfl) (fun p e s m args below meth c A D cy ad z C0 hE hout => w_X7_stored C0 hl hE hout x1 x2 v)
-- ----- X7_read
theorem dX7_read_0 : decode cX7_read 0 = .ok (.iload_n 1, 1) := by decide +kernel
theorem dX7_read_1 : decode cX7_read 1 = .ok (.invokestatic 180, 3) := by decide +kernel
theorem dX7_read_4 : decode cX7_read 4 = .ok (.ifCond .eq 14, 3) := by decide +kernel
theorem dX7_read_7 : decode cX7_read 7 = .ok (.iload_n 2, 1) := by decide +kernel
theorem dX7_read_8 : decode cX7_read 8 = .ok (.invokestatic 123, 3) := by decide +kernel
theorem dX7_read_11 : decode cX7_read 11 = .ok (.ifCond .eq 7, 3) := by decide +kernel
theorem dX7_read_14 : decode cX7_read 14 = .ok (.iconst 1, 1) := by decide +kernel
theorem dX7_read_15 : decode cX7_read 15 = .ok (.goto 4, 3) := by decide +kernel
theorem dX7_read_18 : decode cX7_read 18 = .ok (.iconst 0, 1) := by decide +kernel
theorem dX7_read_19 : decode cX7_read 19 = .ok (.invokestatic 114, 3) := by decide +kernel
theorem dX7_read_22 : decode cX7_read 22 = .ok (.aload_n 0, 1) := by decide +kernel
theorem dX7_read_23 : decode cX7_read 23 = .ok (.getfield 12, 3) := by decide +kernel
theorem dX7_read_26 : decode cX7_read 26 = .ok (.iload_n 1, 1) := by decide +kernel
theorem dX7_read_27 : decode cX7_read 27 = .ok (.invokevirtual 183, 3) := by decide +kernel
theorem dX7_read_30 : decode cX7_read 30 = .ok (.istore_n 3, 1) := by decide +kernel
theorem dX7_read_31 : decode cX7_read 31 = .ok (.aload_n 0, 1) := by decide +kernel
theorem dX7_read_32 : decode cX7_read 32 = .ok (.getfield 12, 3) := by decide +kernel
theorem dX7_read_35 : decode cX7_read 35 = .ok (.getfield 117, 3) := by decide +kernel
theorem dX7_read_38 : decode cX7_read 38 = .ok (.iload_n 3, 1) := by decide +kernel
theorem dX7_read_39 : decode cX7_read 39 = .ok (.invokestatic 120, 3) := by decide +kernel
theorem dX7_read_42 : decode cX7_read 42 = .ok (.ifCond .eq 18, 3) := by decide +kernel
theorem dX7_read_45 : decode cX7_read 45 = .ok (.aload_n 0, 1) := by decide +kernel
theorem dX7_read_46 : decode cX7_read 46 = .ok (.getfield 12, 3) := by decide +kernel
theorem dX7_read_49 : decode cX7_read 49 = .ok (.getfield 98, 3) := by decide +kernel
theorem dX7_read_52 : decode cX7_read 52 = .ok (.iload_n 3, 1) := by decide +kernel
theorem dX7_read_53 : decode cX7_read 53 = .ok (.iload_n 2, 1) := by decide +kernel
theorem dX7_read_54 : decode cX7_read 54 = .ok (.invokevirtual 186, 3) := by decide +kernel
theorem dX7_read_57 : decode cX7_read 57 = .ok (.goto 5, 3) := by decide +kernel
theorem dX7_read_60 : decode cX7_read 60 = .ok (.bipush (-2), 2) := by decide +kernel
theorem dX7_read_62 : decode cX7_read 62 = .ok (.ireturn, 1) := by decide +kernel
theorem tc_X7_isReader : Cond.code yX7_isReader cX7_isReader 1 (some .boolean) ∈ TMW := tm_in 1006 (by decide +kernel) (by decide +kernel)
theorem tl_X7_180 : Cond.methodLink RX7 180 yX7_isReader ∈ TMW := tm_in 1004 (by decide +kernel) (by decide +kernel)
theorem tst_X7_isReader : Cond.static yX7_isReader ∈ TMW := tm_in 1005 (by decide +kernel) (by decide +kernel)
theorem tl_X7_186 : Cond.methodLink RX7 186 yX5_valueAt ∈ TMW := tm_in 1007 (by decide +kernel) (by decide +kernel)
def f_X7_read_19 (x1 x2 s0 : Int32) (v : tmM) : Option (tmR) := tm_cx (f_X7_requireIndex s0 v) (fun _ v3 => tm_cl (f_X4_sideOf x1 v3) fun r5 v4 => tm_cl (f_X7_has (v4 0 1) r5 v4) fun r7 v6 => (if r7 = 0 then some ((0, (-2)), v6) else tm_cl (f_X5_valueAt r5 x2 v6) fun r9 v8 => some ((0, r9), v8))) 0
set_option maxRecDepth 100000 in
set_option maxHeartbeats 4000000 in
theorem w_X7_read_19 {p : Program} {l : Launch} {e : Env} {s : State} {m : MethodId} {args : Array Value} {below : List Frame} {meth : Method} {c : Code} {D : va_G} {cy : Nat → ClassId} {ad : Nat → Nat} {A : Nat → Prop} {z : (tmR)} (C0 : tmC p s m args meth c cX7_read 4 (some .int) RX7 TMW tm_NWC D cy tm_shC ad 256 [] A) (hl : l.stackTraces = false) (hE : tmTh A s s.heap) (hout : ∀ x ∈ c.exceptionTable.toList, False) (x1 x2 s0 : Int32) (v : tmM) : tmG p l e ({ frames := 7, cells := 1, slots := 6, locals := 110 } : Room) s m args below meth c 0 0 (vx_MQ below (va_Qi (fun r u => z = ((0, r), u)) (tmAt tm_shC 256 D cy ad A) A) (tmXX tm_shC 256 D cy ad A 0 z) args s 1 6 A) 4 D cy tm_shC ad 256 [] A z 19 [(0, .ref (ad 247)), (1, .int x1), (2, .int x2)] [.int s0] v (f_X7_read_19 x1 x2 s0 v) := by
  unfold f_X7_read_19
  refine tg_callSxi (As := [.int s0]) 1 C0 hE hout dX7_read_19 (c_X7_requireIndex l hl s0 v) rfl rfl (tm_gS tl_X7_114 tst_X7_requireIndex tn_X7 tc_X7_requireIndex) rfl rfl rfl rfl (by decide +kernel) ⟨by decide, by decide⟩ (Nat.le_of_ble_eq_true rfl) ⟨by decide, by decide⟩ ⟨by decide, by decide⟩ (fun v3 _ => ?_)
  refine tg_aload_n 0 C0 dX7_read_22 rfl rfl ?_
  refine tg_get 247 0 C0 dX7_read_23 (by decide) rfl rfl tu_X7 (by decide) tf_X7_12 rfl rfl rfl ?_
  refine tg_iload_n 1 C0 dX7_read_26 rfl rfl ?_
  refine tg_callVi (As := [.int x1]) 0 1 C0 dX7_read_27 (c_X4_sideOf l x1 v3) rfl rfl (by decide) rfl rfl (tm_gV tl_X7_183 ti_X4_sideOf ts_X4_sideOf tn_X4 tc_X4_sideOf)  rfl rfl rfl rfl (by decide +kernel) ⟨by decide, by decide⟩ (Nat.le_of_ble_eq_true rfl) ⟨by decide, by decide⟩ (fun r5 v4 _ => ?_)
  refine tg_istore_n [(3, .int r5), (0, .ref (ad 247)), (1, .int x1), (2, .int x2)] C0 dX7_read_30 rfl (by decide) rfl ?_
  refine tg_aload_n 1 C0 dX7_read_31 rfl rfl ?_
  refine tg_get 247 0 C0 dX7_read_32 (by decide) rfl rfl tu_X7 (by decide) tf_X7_12 rfl rfl rfl ?_
  refine tg_getN 0 1 C0 dX7_read_35 (by decide) rfl rfl tu_X4 (by decide) tm_nwC_X7_117 rfl rfl rfl ?_
  refine tg_iload_n 0 C0 dX7_read_38 rfl rfl ?_
  refine tg_callSi (As := [.int (v4 0 1), .int r5]) 2 C0 dX7_read_39 (c_X7_has l (v4 0 1) r5 v4) rfl rfl (tm_gc tc_X7_has) tl_X7_120 tn_X7 tst_X7_has  rfl rfl rfl rfl (by decide +kernel) ⟨by decide, by decide⟩ (Nat.le_of_ble_eq_true rfl) ⟨by decide, by decide⟩ (fun r7 v6 _ => ?_)
  refine tg_if_eq 60 C0 dX7_read_42 (by decide) (fun _ => ?_) (fun _ => ?_)
  · refine tg_bipush (x := (-2)) C0 dX7_read_60 (by decide) ?_
    exact tg_xiret C0 dX7_read_62 ⟨by decide, by decide⟩
  · refine tg_aload_n 1 C0 dX7_read_45 rfl rfl ?_
    refine tg_get 247 0 C0 dX7_read_46 (by decide) rfl rfl tu_X7 (by decide) tf_X7_12 rfl rfl rfl ?_
    refine tg_getN 0 5 C0 dX7_read_49 (by decide) rfl rfl tu_X4 (by decide) tm_nwC_X7_98 rfl rfl rfl ?_
    refine tg_iload_n 0 C0 dX7_read_52 rfl rfl ?_
    refine tg_iload_n 3 C0 dX7_read_53 rfl rfl ?_
    refine tg_callVi (As := [.int r5, .int x2]) 1 2 C0 dX7_read_54 (c_X5_valueAt l r5 x2 v6) rfl rfl (by decide) rfl rfl (tm_gV tl_X7_186 ti_X5_valueAt ts_X5_valueAt tn_X5 tc_X5_valueAt)  rfl rfl rfl rfl (by decide +kernel) ⟨by decide, by decide⟩ (Nat.le_of_ble_eq_true rfl) ⟨by decide, by decide⟩ (fun r9 v8 _ => ?_)
    refine tg_goto 62 C0 dX7_read_57 (by decide) ?_
    exact tg_xiret C0 dX7_read_62 ⟨by decide, by decide⟩
def f_X7_read_18 (x1 x2 : Int32) (v : tmM) : Option (tmR) := f_X7_read_19 x1 x2 0 v
set_option maxRecDepth 100000 in
set_option maxHeartbeats 4000000 in
theorem w_X7_read_18 {p : Program} {l : Launch} {e : Env} {s : State} {m : MethodId} {args : Array Value} {below : List Frame} {meth : Method} {c : Code} {D : va_G} {cy : Nat → ClassId} {ad : Nat → Nat} {A : Nat → Prop} {z : (tmR)} (C0 : tmC p s m args meth c cX7_read 4 (some .int) RX7 TMW tm_NWC D cy tm_shC ad 256 [] A) (hl : l.stackTraces = false) (hE : tmTh A s s.heap) (hout : ∀ x ∈ c.exceptionTable.toList, False) (x1 x2 : Int32) (v : tmM) : tmG p l e ({ frames := 7, cells := 1, slots := 6, locals := 110 } : Room) s m args below meth c 0 0 (vx_MQ below (va_Qi (fun r u => z = ((0, r), u)) (tmAt tm_shC 256 D cy ad A) A) (tmXX tm_shC 256 D cy ad A 0 z) args s 1 6 A) 4 D cy tm_shC ad 256 [] A z 18 [(0, .ref (ad 247)), (1, .int x1), (2, .int x2)] [] v (f_X7_read_18 x1 x2 v) := by
  unfold f_X7_read_18
  refine tg_iconst (x := 0) C0 dX7_read_18 (by decide) ?_
  exact w_X7_read_19 C0 hl hE hout x1 x2 0 v
def f_X7_read (x1 x2 : Int32) (v : tmM) : Option (tmR) := tm_cl (f_X7_isReader x1 v) fun r2 v1 => (if r2 = 0 then f_X7_read_18 x1 x2 v1 else tm_cl (f_X7_isKey x2 v1) fun r11 v10 => (if r11 = 0 then f_X7_read_18 x1 x2 v10 else f_X7_read_19 x1 x2 1 v10))
set_option maxRecDepth 100000 in
set_option maxHeartbeats 4000000 in
theorem w_X7_read {p : Program} {l : Launch} {e : Env} {s : State} {m : MethodId} {args : Array Value} {below : List Frame} {meth : Method} {c : Code} {D : va_G} {cy : Nat → ClassId} {ad : Nat → Nat} {A : Nat → Prop} {z : (tmR)} (C0 : tmC p s m args meth c cX7_read 4 (some .int) RX7 TMW tm_NWC D cy tm_shC ad 256 [] A) (hl : l.stackTraces = false) (hE : tmTh A s s.heap) (hout : ∀ x ∈ c.exceptionTable.toList, False) (x1 x2 : Int32) (v : tmM) : tmG p l e ({ frames := 7, cells := 1, slots := 6, locals := 110 } : Room) s m args below meth c 0 0 (vx_MQ below (va_Qi (fun r u => z = ((0, r), u)) (tmAt tm_shC 256 D cy ad A) A) (tmXX tm_shC 256 D cy ad A 0 z) args s 1 6 A) 4 D cy tm_shC ad 256 [] A z 0 [(0, .ref (ad 247)), (1, .int x1), (2, .int x2)] [] v (f_X7_read x1 x2 v) := by
  unfold f_X7_read
  refine tg_iload_n 1 C0 dX7_read_0 rfl rfl ?_
  refine tg_callSi (As := [.int x1]) 1 C0 dX7_read_1 (c_X7_isReader l x1 v) rfl rfl (tm_gc tc_X7_isReader) tl_X7_180 tn_X7 tst_X7_isReader  rfl rfl rfl rfl (by decide +kernel) ⟨by decide, by decide⟩ (Nat.le_of_ble_eq_true rfl) ⟨by decide, by decide⟩ (fun r2 v1 _ => ?_)
  refine tg_if_eq 18 C0 dX7_read_4 (by decide) (fun _ => ?_) (fun _ => ?_)
  · exact w_X7_read_18 C0 hl hE hout x1 x2 v1
  · refine tg_iload_n 2 C0 dX7_read_7 rfl rfl ?_
    refine tg_callSi (As := [.int x2]) 1 C0 dX7_read_8 (c_X7_isKey l x2 v1) rfl rfl (tm_gc tc_X7_isKey) tl_X7_123 tn_X7 tst_X7_isKey  rfl rfl rfl rfl (by decide +kernel) ⟨by decide, by decide⟩ (Nat.le_of_ble_eq_true rfl) ⟨by decide, by decide⟩ (fun r11 v10 _ => ?_)
    refine tg_if_eq 18 C0 dX7_read_11 (by decide) (fun _ => ?_) (fun _ => ?_)
    · exact w_X7_read_18 C0 hl hE hout x1 x2 v10
    · refine tg_iconst (x := 1) C0 dX7_read_14 (by decide) ?_
      refine tg_goto 19 C0 dX7_read_15 (by decide) ?_
      exact w_X7_read_19 C0 hl hE hout x1 x2 1 v10
theorem c_X7_read (l : Launch) (hl : l.stackTraces = false) (x1 x2 : Int32) (v : tmM) : tmXi tm_NWC tm_shC 256 l yX7_read (Cond.code yX7_read cX7_read 4 (some .int) :: TMW) ({ frames := 7, cells := 1, slots := 6, locals := 110 } : Room) (fun ad => [.ref (ad 247), .int x1, .int x2]) v 1 6 (f_X7_read x1 x2 v) :=
  tmXi.of (cc := cX7_read) (nL := 4) (by decide +kernel) rfl tm_NWC_ok (fun _ => Nat.le_of_ble_eq_true rfl) (fun p e s m args below meth c A D cy ad z C0 hE hout => w_X7_read C0 hl hE hout x1 x2 v)
-- ----- X7_isSwitched
theorem dX7_isSwitched_0 : decode cX7_isSwitched 0 = .ok (.iload_n 1, 1) := by decide +kernel
theorem dX7_isSwitched_1 : decode cX7_isSwitched 1 = .ok (.invokestatic 180, 3) := by decide +kernel
theorem dX7_isSwitched_4 : decode cX7_isSwitched 4 = .ok (.invokestatic 114, 3) := by decide +kernel
theorem dX7_isSwitched_7 : decode cX7_isSwitched 7 = .ok (.aload_n 0, 1) := by decide +kernel
theorem dX7_isSwitched_8 : decode cX7_isSwitched 8 = .ok (.getfield 12, 3) := by decide +kernel
theorem dX7_isSwitched_11 : decode cX7_isSwitched 11 = .ok (.getfield 152, 3) := by decide +kernel
theorem dX7_isSwitched_14 : decode cX7_isSwitched 14 = .ok (.iload_n 1, 1) := by decide +kernel
theorem dX7_isSwitched_15 : decode cX7_isSwitched 15 = .ok (.invokestatic 120, 3) := by decide +kernel
theorem dX7_isSwitched_18 : decode cX7_isSwitched 18 = .ok (.ireturn, 1) := by decide +kernel
def f_X7_isSwitched (x1 : Int32) (v : tmM) : Option (tmR) := tm_cl (f_X7_isReader x1 v) fun r2 v1 => tm_cx (f_X7_requireIndex r2 v1) (fun _ v3 => tm_cl (f_X7_has (v3 0 4) x1 v3) fun r5 v4 => tm_g (tm_bi r5) (some ((0, r5), v4))) 0
set_option maxRecDepth 100000 in
set_option maxHeartbeats 4000000 in
theorem w_X7_isSwitched {p : Program} {l : Launch} {e : Env} {s : State} {m : MethodId} {args : Array Value} {below : List Frame} {meth : Method} {c : Code} {D : va_G} {cy : Nat → ClassId} {ad : Nat → Nat} {A : Nat → Prop} {z : (tmR)} (C0 : tmC p s m args meth c cX7_isSwitched 2 (some .boolean) RX7 TMW tm_NWC D cy tm_shC ad 256 [] A) (hl : l.stackTraces = false) (hE : tmTh A s s.heap) (hout : ∀ x ∈ c.exceptionTable.toList, False) (x1 : Int32) (v : tmM) : tmG p l e ({ frames := 7, cells := 1, slots := 6, locals := 110 } : Room) s m args below meth c 0 0 (vx_MQ below (va_Qi (fun r u => z = ((0, r), u)) (tmAt tm_shC 256 D cy ad A) A) (tmXX tm_shC 256 D cy ad A 0 z) args s 1 6 A) 2 D cy tm_shC ad 256 [] A z 0 [(0, .ref (ad 247)), (1, .int x1)] [] v (f_X7_isSwitched x1 v) := by
  unfold f_X7_isSwitched
  refine tg_iload_n 1 C0 dX7_isSwitched_0 rfl rfl ?_
  refine tg_callSi (As := [.int x1]) 1 C0 dX7_isSwitched_1 (c_X7_isReader l x1 v) rfl rfl (tm_gc tc_X7_isReader) tl_X7_180 tn_X7 tst_X7_isReader  rfl rfl rfl rfl (by decide +kernel) ⟨by decide, by decide⟩ (Nat.le_of_ble_eq_true rfl) ⟨by decide, by decide⟩ (fun r2 v1 _ => ?_)
  refine tg_callSxi (As := [.int r2]) 1 C0 hE hout dX7_isSwitched_4 (c_X7_requireIndex l hl r2 v1) rfl rfl (tm_gS tl_X7_114 tst_X7_requireIndex tn_X7 tc_X7_requireIndex) rfl rfl rfl rfl (by decide +kernel) ⟨by decide, by decide⟩ (Nat.le_of_ble_eq_true rfl) ⟨by decide, by decide⟩ ⟨by decide, by decide⟩ (fun v3 _ => ?_)
  refine tg_aload_n 0 C0 dX7_isSwitched_7 rfl rfl ?_
  refine tg_get 247 0 C0 dX7_isSwitched_8 (by decide) rfl rfl tu_X7 (by decide) tf_X7_12 rfl rfl rfl ?_
  refine tg_getN 0 4 C0 dX7_isSwitched_11 (by decide) rfl rfl tu_X4 (by decide) tm_nwC_X7_152 rfl rfl rfl ?_
  refine tg_iload_n 1 C0 dX7_isSwitched_14 rfl rfl ?_
  refine tg_callSi (As := [.int (v3 0 4), .int x1]) 2 C0 dX7_isSwitched_15 (c_X7_has l (v3 0 4) x1 v3) rfl rfl (tm_gc tc_X7_has) tl_X7_120 tn_X7 tst_X7_has  rfl rfl rfl rfl (by decide +kernel) ⟨by decide, by decide⟩ (Nat.le_of_ble_eq_true rfl) ⟨by decide, by decide⟩ (fun r5 v4 _ => ?_)
  exact tg_xbret C0 dX7_isSwitched_18 ⟨by decide, by decide⟩
theorem c_X7_isSwitched (l : Launch) (hl : l.stackTraces = false) (x1 : Int32) (v : tmM) : tmXi tm_NWC tm_shC 256 l yX7_isSwitched (Cond.code yX7_isSwitched cX7_isSwitched 2 (some .boolean) :: TMW) ({ frames := 7, cells := 1, slots := 6, locals := 110 } : Room) (fun ad => [.ref (ad 247), .int x1]) v 1 6 (f_X7_isSwitched x1 v) :=
  tmXi.of (cc := cX7_isSwitched) (nL := 2) (by decide +kernel) rfl tm_NWC_ok (fun _ => Nat.le_of_ble_eq_true rfl) (fun p e s m args below meth c A D cy ad z C0 hE hout => w_X7_isSwitched C0 hl hE hout x1 v)
-- ----- X7_chunk
theorem dX7_chunk_0 : decode cX7_chunk 0 = .ok (.iload_n 1, 1) := by decide +kernel
theorem dX7_chunk_1 : decode cX7_chunk 1 = .ok (.invokestatic 189, 3) := by decide +kernel
theorem dX7_chunk_4 : decode cX7_chunk 4 = .ok (.invokestatic 114, 3) := by decide +kernel
theorem dX7_chunk_7 : decode cX7_chunk 7 = .ok (.iload_n 2, 1) := by decide +kernel
theorem dX7_chunk_8 : decode cX7_chunk 8 = .ok (.ifCond .lt 13, 3) := by decide +kernel
theorem dX7_chunk_11 : decode cX7_chunk 11 = .ok (.iload_n 2, 1) := by decide +kernel
theorem dX7_chunk_12 : decode cX7_chunk 12 = .ok (.bipush 6, 2) := by decide +kernel
theorem dX7_chunk_14 : decode cX7_chunk 14 = .ok (.if_icmp .ge 7, 3) := by decide +kernel
theorem dX7_chunk_17 : decode cX7_chunk 17 = .ok (.iconst 1, 1) := by decide +kernel
theorem dX7_chunk_18 : decode cX7_chunk 18 = .ok (.goto 4, 3) := by decide +kernel
theorem dX7_chunk_21 : decode cX7_chunk 21 = .ok (.iconst 0, 1) := by decide +kernel
theorem dX7_chunk_22 : decode cX7_chunk 22 = .ok (.invokestatic 53, 3) := by decide +kernel
theorem dX7_chunk_25 : decode cX7_chunk 25 = .ok (.iload_n 2, 1) := by decide +kernel
theorem dX7_chunk_26 : decode cX7_chunk 26 = .ok (.tableswitch 112 0 4 #[34, 54, 74, 87, 100], 34) := by decide +kernel
theorem dX7_chunk_60 : decode cX7_chunk 60 = .ok (.aload_n 0, 1) := by decide +kernel
theorem dX7_chunk_61 : decode cX7_chunk 61 = .ok (.getfield 12, 3) := by decide +kernel
theorem dX7_chunk_64 : decode cX7_chunk 64 = .ok (.getfield 134, 3) := by decide +kernel
theorem dX7_chunk_67 : decode cX7_chunk 67 = .ok (.iload_n 1, 1) := by decide +kernel
theorem dX7_chunk_68 : decode cX7_chunk 68 = .ok (.invokestatic 120, 3) := by decide +kernel
theorem dX7_chunk_71 : decode cX7_chunk 71 = .ok (.ifCond .eq 7, 3) := by decide +kernel
theorem dX7_chunk_74 : decode cX7_chunk 74 = .ok (.iconst 1, 1) := by decide +kernel
theorem dX7_chunk_75 : decode cX7_chunk 75 = .ok (.goto 4, 3) := by decide +kernel
theorem dX7_chunk_78 : decode cX7_chunk 78 = .ok (.iconst 0, 1) := by decide +kernel
theorem dX7_chunk_79 : decode cX7_chunk 79 = .ok (.ireturn, 1) := by decide +kernel
theorem dX7_chunk_80 : decode cX7_chunk 80 = .ok (.aload_n 0, 1) := by decide +kernel
theorem dX7_chunk_81 : decode cX7_chunk 81 = .ok (.getfield 12, 3) := by decide +kernel
theorem dX7_chunk_84 : decode cX7_chunk 84 = .ok (.getfield 142, 3) := by decide +kernel
theorem dX7_chunk_87 : decode cX7_chunk 87 = .ok (.iload_n 1, 1) := by decide +kernel
theorem dX7_chunk_88 : decode cX7_chunk 88 = .ok (.invokestatic 120, 3) := by decide +kernel
theorem dX7_chunk_91 : decode cX7_chunk 91 = .ok (.ifCond .eq 7, 3) := by decide +kernel
theorem dX7_chunk_94 : decode cX7_chunk 94 = .ok (.iconst 1, 1) := by decide +kernel
theorem dX7_chunk_95 : decode cX7_chunk 95 = .ok (.goto 4, 3) := by decide +kernel
theorem dX7_chunk_98 : decode cX7_chunk 98 = .ok (.iconst 0, 1) := by decide +kernel
theorem dX7_chunk_99 : decode cX7_chunk 99 = .ok (.ireturn, 1) := by decide +kernel
theorem dX7_chunk_100 : decode cX7_chunk 100 = .ok (.aload_n 0, 1) := by decide +kernel
theorem dX7_chunk_101 : decode cX7_chunk 101 = .ok (.getfield 12, 3) := by decide +kernel
theorem dX7_chunk_104 : decode cX7_chunk 104 = .ok (.getfield 98, 3) := by decide +kernel
theorem dX7_chunk_107 : decode cX7_chunk 107 = .ok (.iconst 0, 1) := by decide +kernel
theorem dX7_chunk_108 : decode cX7_chunk 108 = .ok (.iload_n 1, 1) := by decide +kernel
theorem dX7_chunk_109 : decode cX7_chunk 109 = .ok (.invokevirtual 192, 3) := by decide +kernel
theorem dX7_chunk_112 : decode cX7_chunk 112 = .ok (.ireturn, 1) := by decide +kernel
theorem dX7_chunk_113 : decode cX7_chunk 113 = .ok (.aload_n 0, 1) := by decide +kernel
theorem dX7_chunk_114 : decode cX7_chunk 114 = .ok (.getfield 12, 3) := by decide +kernel
theorem dX7_chunk_117 : decode cX7_chunk 117 = .ok (.getfield 98, 3) := by decide +kernel
theorem dX7_chunk_120 : decode cX7_chunk 120 = .ok (.iconst 1, 1) := by decide +kernel
theorem dX7_chunk_121 : decode cX7_chunk 121 = .ok (.iload_n 1, 1) := by decide +kernel
theorem dX7_chunk_122 : decode cX7_chunk 122 = .ok (.invokevirtual 192, 3) := by decide +kernel
theorem dX7_chunk_125 : decode cX7_chunk 125 = .ok (.ireturn, 1) := by decide +kernel
theorem dX7_chunk_126 : decode cX7_chunk 126 = .ok (.aload_n 0, 1) := by decide +kernel
theorem dX7_chunk_127 : decode cX7_chunk 127 = .ok (.getfield 12, 3) := by decide +kernel
theorem dX7_chunk_130 : decode cX7_chunk 130 = .ok (.getfield 145, 3) := by decide +kernel
theorem dX7_chunk_133 : decode cX7_chunk 133 = .ok (.iload_n 1, 1) := by decide +kernel
theorem dX7_chunk_134 : decode cX7_chunk 134 = .ok (.invokevirtual 195, 3) := by decide +kernel
theorem dX7_chunk_137 : decode cX7_chunk 137 = .ok (.ireturn, 1) := by decide +kernel
theorem dX7_chunk_138 : decode cX7_chunk 138 = .ok (.aload_n 0, 1) := by decide +kernel
theorem dX7_chunk_139 : decode cX7_chunk 139 = .ok (.getfield 12, 3) := by decide +kernel
theorem dX7_chunk_142 : decode cX7_chunk 142 = .ok (.invokevirtual 198, 3) := by decide +kernel
theorem dX7_chunk_145 : decode cX7_chunk 145 = .ok (.ifCond .eq 17, 3) := by decide +kernel
theorem dX7_chunk_148 : decode cX7_chunk 148 = .ok (.aload_n 0, 1) := by decide +kernel
theorem dX7_chunk_149 : decode cX7_chunk 149 = .ok (.getfield 12, 3) := by decide +kernel
theorem dX7_chunk_152 : decode cX7_chunk 152 = .ok (.getfield 98, 3) := by decide +kernel
theorem dX7_chunk_155 : decode cX7_chunk 155 = .ok (.iload_n 1, 1) := by decide +kernel
theorem dX7_chunk_156 : decode cX7_chunk 156 = .ok (.invokevirtual 202, 3) := by decide +kernel
theorem dX7_chunk_159 : decode cX7_chunk 159 = .ok (.goto 4, 3) := by decide +kernel
theorem dX7_chunk_162 : decode cX7_chunk 162 = .ok (.iconst (-1), 1) := by decide +kernel
theorem dX7_chunk_163 : decode cX7_chunk 163 = .ok (.ireturn, 1) := by decide +kernel
theorem tc_X7_isChunk : Cond.code yX7_isChunk cX7_isChunk 1 (some .boolean) ∈ TMW := tm_in 1024 (by decide +kernel) (by decide +kernel)
theorem tl_X7_189 : Cond.methodLink RX7 189 yX7_isChunk ∈ TMW := tm_in 1022 (by decide +kernel) (by decide +kernel)
theorem tst_X7_isChunk : Cond.static yX7_isChunk ∈ TMW := tm_in 1023 (by decide +kernel) (by decide +kernel)
theorem tl_X7_192 : Cond.methodLink RX7 192 yX5_sumOf ∈ TMW := tm_in 1025 (by decide +kernel) (by decide +kernel)
theorem tl_X7_195 : Cond.methodLink RX7 195 yX2_heldOf ∈ TMW := tm_in 1026 (by decide +kernel) (by decide +kernel)
theorem tl_X7_202 : Cond.methodLink RX7 202 yX5_firstDifference ∈ TMW := tm_in 1027 (by decide +kernel) (by decide +kernel)
def f_X7_chunk_22 (x1 x2 s0 : Int32) (v : tmM) : Option (tmR) := tm_cx (f_X7_requireArgument s0 v) (fun _ v4 => (if x2 = 0 then tm_cl (f_X7_has (v4 0 2) x1 v4) fun r6 v5 => (if r6 = 0 then some ((0, 0), v5) else some ((0, 1), v5)) else if x2 = 1 then tm_cl (f_X7_has (v4 0 3) x1 v4) fun r9 v8 => (if r9 = 0 then some ((0, 0), v8) else some ((0, 1), v8)) else if x2 = 2 then tm_cl (f_X5_sumOf 0 x1 v4) fun r12 v11 => some ((0, r12), v11) else if x2 = 3 then tm_cl (f_X5_sumOf 1 x1 v4) fun r15 v14 => some ((0, r15), v14) else if x2 = 4 then tm_cl (f_X2_heldOf x1 v4) fun r18 v17 => some ((0, r18), v17) else tm_cl (f_X4_isDouble v4) fun r21 v20 => (if r21 = 0 then some ((0, (-1)), v20) else tm_cl (f_X5_firstDifference x1 v20) fun r23 v22 => some ((0, r23), v22)))) 0
set_option maxRecDepth 100000 in
set_option maxHeartbeats 4000000 in
theorem w_X7_chunk_22 {p : Program} {l : Launch} {e : Env} {s : State} {m : MethodId} {args : Array Value} {below : List Frame} {meth : Method} {c : Code} {D : va_G} {cy : Nat → ClassId} {ad : Nat → Nat} {A : Nat → Prop} {z : (tmR)} (C0 : tmC p s m args meth c cX7_chunk 3 (some .int) RX7 TMW tm_NWC D cy tm_shC ad 256 [] A) (hl : l.stackTraces = false) (hE : tmTh A s s.heap) (hout : ∀ x ∈ c.exceptionTable.toList, False) (x1 x2 s0 : Int32) (v : tmM) : tmG p l e ({ frames := 7, cells := 2, slots := 12, locals := 110 } : Room) s m args below meth c 1 6 (vx_MQ below (va_Qi (fun r u => z = ((0, r), u)) (tmAt tm_shC 256 D cy ad A) A) (tmXX tm_shC 256 D cy ad A 0 z) args s 2 12 A) 3 D cy tm_shC ad 256 [] A z 22 [(0, .ref (ad 247)), (1, .int x1), (2, .int x2)] [.int s0] v (f_X7_chunk_22 x1 x2 s0 v) := by
  unfold f_X7_chunk_22
  refine tg_callSxi (As := [.int s0]) 1 C0 hE hout dX7_chunk_22 (c_X7_requireArgument l hl s0 v) rfl rfl (tm_gS tl_X7_53 tst_X7_requireArgument tn_X7 tc_X7_requireArgument) rfl rfl rfl rfl (by decide +kernel) ⟨by decide, by decide⟩ (Nat.le_of_ble_eq_true rfl) ⟨by decide, by decide⟩ ⟨by decide, by decide⟩ (fun v4 _ => ?_)
  refine tg_iload_n 2 C0 dX7_chunk_25 rfl rfl ?_
  refine tg_tab 0 (cst := 0) 60 tg_tab0 C0 dX7_chunk_26 (by decide) rfl (by decide) (by decide) (fun _ => ?_) (fun h7 => ?_)
  · refine tg_aload_n 0 C0 dX7_chunk_60 rfl rfl ?_
    refine tg_get 247 0 C0 dX7_chunk_61 (by decide) rfl rfl tu_X7 (by decide) tf_X7_12 rfl rfl rfl ?_
    refine tg_getN 0 2 C0 dX7_chunk_64 (by decide) rfl rfl tu_X4 (by decide) tm_nwC_X7_134 rfl rfl rfl ?_
    refine tg_iload_n 1 C0 dX7_chunk_67 rfl rfl ?_
    refine tg_callSi (As := [.int (v4 0 2), .int x1]) 2 C0 dX7_chunk_68 (c_X7_has l (v4 0 2) x1 v4) rfl rfl (tm_gc tc_X7_has) tl_X7_120 tn_X7 tst_X7_has  rfl rfl rfl rfl (by decide +kernel) ⟨by decide, by decide⟩ (Nat.le_of_ble_eq_true rfl) ⟨by decide, by decide⟩ (fun r6 v5 _ => ?_)
    refine tg_if_eq 78 C0 dX7_chunk_71 (by decide) (fun _ => ?_) (fun _ => ?_)
    · refine tg_iconst (x := 0) C0 dX7_chunk_78 (by decide) ?_
      exact tg_xiret C0 dX7_chunk_79 ⟨by decide, by decide⟩
    · refine tg_iconst (x := 1) C0 dX7_chunk_74 (by decide) ?_
      refine tg_goto 79 C0 dX7_chunk_75 (by decide) ?_
      exact tg_xiret C0 dX7_chunk_79 ⟨by decide, by decide⟩
  refine tg_tab 1 (cst := 1) 80 h7 C0 dX7_chunk_26 (by decide) rfl (by decide) (by decide) (fun _ => ?_) (fun h10 => ?_)
  · refine tg_aload_n 0 C0 dX7_chunk_80 rfl rfl ?_
    refine tg_get 247 0 C0 dX7_chunk_81 (by decide) rfl rfl tu_X7 (by decide) tf_X7_12 rfl rfl rfl ?_
    refine tg_getN 0 3 C0 dX7_chunk_84 (by decide) rfl rfl tu_X4 (by decide) tm_nwC_X7_142 rfl rfl rfl ?_
    refine tg_iload_n 1 C0 dX7_chunk_87 rfl rfl ?_
    refine tg_callSi (As := [.int (v4 0 3), .int x1]) 2 C0 dX7_chunk_88 (c_X7_has l (v4 0 3) x1 v4) rfl rfl (tm_gc tc_X7_has) tl_X7_120 tn_X7 tst_X7_has  rfl rfl rfl rfl (by decide +kernel) ⟨by decide, by decide⟩ (Nat.le_of_ble_eq_true rfl) ⟨by decide, by decide⟩ (fun r9 v8 _ => ?_)
    refine tg_if_eq 98 C0 dX7_chunk_91 (by decide) (fun _ => ?_) (fun _ => ?_)
    · refine tg_iconst (x := 0) C0 dX7_chunk_98 (by decide) ?_
      exact tg_xiret C0 dX7_chunk_99 ⟨by decide, by decide⟩
    · refine tg_iconst (x := 1) C0 dX7_chunk_94 (by decide) ?_
      refine tg_goto 99 C0 dX7_chunk_95 (by decide) ?_
      exact tg_xiret C0 dX7_chunk_99 ⟨by decide, by decide⟩
  refine tg_tab 2 (cst := 2) 100 h10 C0 dX7_chunk_26 (by decide) rfl (by decide) (by decide) (fun _ => ?_) (fun h13 => ?_)
  · refine tg_aload_n 0 C0 dX7_chunk_100 rfl rfl ?_
    refine tg_get 247 0 C0 dX7_chunk_101 (by decide) rfl rfl tu_X7 (by decide) tf_X7_12 rfl rfl rfl ?_
    refine tg_getN 0 5 C0 dX7_chunk_104 (by decide) rfl rfl tu_X4 (by decide) tm_nwC_X7_98 rfl rfl rfl ?_
    refine tg_iconst (x := 0) C0 dX7_chunk_107 (by decide) ?_
    refine tg_iload_n 1 C0 dX7_chunk_108 rfl rfl ?_
    refine tg_callVi (As := [.int 0, .int x1]) 1 2 C0 dX7_chunk_109 (c_X5_sumOf l 0 x1 v4) rfl rfl (by decide) rfl rfl (tm_gV tl_X7_192 ti_X5_sumOf ts_X5_sumOf tn_X5 tc_X5_sumOf)  rfl rfl rfl rfl (by decide +kernel) ⟨by decide, by decide⟩ (Nat.le_of_ble_eq_true rfl) ⟨by decide, by decide⟩ (fun r12 v11 _ => ?_)
    exact tg_xiret C0 dX7_chunk_112 ⟨by decide, by decide⟩
  refine tg_tab 3 (cst := 3) 113 h13 C0 dX7_chunk_26 (by decide) rfl (by decide) (by decide) (fun _ => ?_) (fun h16 => ?_)
  · refine tg_aload_n 0 C0 dX7_chunk_113 rfl rfl ?_
    refine tg_get 247 0 C0 dX7_chunk_114 (by decide) rfl rfl tu_X7 (by decide) tf_X7_12 rfl rfl rfl ?_
    refine tg_getN 0 5 C0 dX7_chunk_117 (by decide) rfl rfl tu_X4 (by decide) tm_nwC_X7_98 rfl rfl rfl ?_
    refine tg_iconst (x := 1) C0 dX7_chunk_120 (by decide) ?_
    refine tg_iload_n 1 C0 dX7_chunk_121 rfl rfl ?_
    refine tg_callVi (As := [.int 1, .int x1]) 1 2 C0 dX7_chunk_122 (c_X5_sumOf l 1 x1 v4) rfl rfl (by decide) rfl rfl (tm_gV tl_X7_192 ti_X5_sumOf ts_X5_sumOf tn_X5 tc_X5_sumOf)  rfl rfl rfl rfl (by decide +kernel) ⟨by decide, by decide⟩ (Nat.le_of_ble_eq_true rfl) ⟨by decide, by decide⟩ (fun r15 v14 _ => ?_)
    exact tg_xiret C0 dX7_chunk_125 ⟨by decide, by decide⟩
  refine tg_tab 4 (cst := 4) 126 h16 C0 dX7_chunk_26 (by decide) rfl (by decide) (by decide) (fun _ => ?_) (fun h19 => ?_)
  · refine tg_aload_n 0 C0 dX7_chunk_126 rfl rfl ?_
    refine tg_get 247 0 C0 dX7_chunk_127 (by decide) rfl rfl tu_X7 (by decide) tf_X7_12 rfl rfl rfl ?_
    refine tg_getN 0 6 C0 dX7_chunk_130 (by decide) rfl rfl tu_X4 (by decide) tm_nwC_X7_145 rfl rfl rfl ?_
    refine tg_iload_n 1 C0 dX7_chunk_133 rfl rfl ?_
    refine tg_callVi (As := [.int x1]) 8 1 C0 dX7_chunk_134 (c_X2_heldOf l x1 v4) rfl rfl (by decide) rfl rfl (tm_gV tl_X7_195 ti_X2_heldOf ts_X2_heldOf tn_X2 tc_X2_heldOf)  rfl rfl rfl rfl (by decide +kernel) ⟨by decide, by decide⟩ (Nat.le_of_ble_eq_true rfl) ⟨by decide, by decide⟩ (fun r18 v17 _ => ?_)
    exact tg_xiret C0 dX7_chunk_137 ⟨by decide, by decide⟩
  refine tg_tabO 5 138 h19 C0 dX7_chunk_26 (by decide) (by decide) ?_
  refine tg_aload_n 0 C0 dX7_chunk_138 rfl rfl ?_
  refine tg_get 247 0 C0 dX7_chunk_139 (by decide) rfl rfl tu_X7 (by decide) tf_X7_12 rfl rfl rfl ?_
  refine tg_callVi (As := []) 0 0 C0 dX7_chunk_142 (c_X4_isDouble l v4) rfl rfl (by decide) rfl rfl (tm_gV tl_X7_198 ti_X4_isDouble ts_X4_isDouble tn_X4 tc_X4_isDouble)  rfl rfl rfl rfl (by decide +kernel) ⟨by decide, by decide⟩ (Nat.le_of_ble_eq_true rfl) ⟨by decide, by decide⟩ (fun r21 v20 _ => ?_)
  refine tg_if_eq 162 C0 dX7_chunk_145 (by decide) (fun _ => ?_) (fun _ => ?_)
  · refine tg_iconst (x := (-1)) C0 dX7_chunk_162 (by decide) ?_
    exact tg_xiret C0 dX7_chunk_163 ⟨by decide, by decide⟩
  · refine tg_aload_n 0 C0 dX7_chunk_148 rfl rfl ?_
    refine tg_get 247 0 C0 dX7_chunk_149 (by decide) rfl rfl tu_X7 (by decide) tf_X7_12 rfl rfl rfl ?_
    refine tg_getN 0 5 C0 dX7_chunk_152 (by decide) rfl rfl tu_X4 (by decide) tm_nwC_X7_98 rfl rfl rfl ?_
    refine tg_iload_n 1 C0 dX7_chunk_155 rfl rfl ?_
    refine tg_callVi (As := [.int x1]) 1 1 C0 dX7_chunk_156 (c_X5_firstDifference l x1 v20) rfl rfl (by decide) rfl rfl (tm_gV tl_X7_202 ti_X5_firstDifference ts_X5_firstDifference tn_X5 tc_X5_firstDifference)  rfl rfl rfl rfl (by decide +kernel) ⟨by decide, by decide⟩ (Nat.le_of_ble_eq_true rfl) ⟨by decide, by decide⟩ (fun r23 v22 _ => ?_)
    refine tg_goto 163 C0 dX7_chunk_159 (by decide) ?_
    exact tg_xiret C0 dX7_chunk_163 ⟨by decide, by decide⟩
def f_X7_chunk_21 (x1 x2 : Int32) (v : tmM) : Option (tmR) := f_X7_chunk_22 x1 x2 0 v
set_option maxRecDepth 100000 in
set_option maxHeartbeats 4000000 in
theorem w_X7_chunk_21 {p : Program} {l : Launch} {e : Env} {s : State} {m : MethodId} {args : Array Value} {below : List Frame} {meth : Method} {c : Code} {D : va_G} {cy : Nat → ClassId} {ad : Nat → Nat} {A : Nat → Prop} {z : (tmR)} (C0 : tmC p s m args meth c cX7_chunk 3 (some .int) RX7 TMW tm_NWC D cy tm_shC ad 256 [] A) (hl : l.stackTraces = false) (hE : tmTh A s s.heap) (hout : ∀ x ∈ c.exceptionTable.toList, False) (x1 x2 : Int32) (v : tmM) : tmG p l e ({ frames := 7, cells := 2, slots := 12, locals := 110 } : Room) s m args below meth c 1 6 (vx_MQ below (va_Qi (fun r u => z = ((0, r), u)) (tmAt tm_shC 256 D cy ad A) A) (tmXX tm_shC 256 D cy ad A 0 z) args s 2 12 A) 3 D cy tm_shC ad 256 [] A z 21 [(0, .ref (ad 247)), (1, .int x1), (2, .int x2)] [] v (f_X7_chunk_21 x1 x2 v) := by
  unfold f_X7_chunk_21
  refine tg_iconst (x := 0) C0 dX7_chunk_21 (by decide) ?_
  exact w_X7_chunk_22 C0 hl hE hout x1 x2 0 v
def f_X7_chunk (x1 x2 : Int32) (v : tmM) : Option (tmR) := tm_cl (f_X7_isChunk x1 v) fun r2 v1 => tm_cx (f_X7_requireIndex r2 v1) (fun _ v3 => (if x2 < 0 then f_X7_chunk_21 x1 x2 v3 else (if 6 ≤ x2 then f_X7_chunk_21 x1 x2 v3 else f_X7_chunk_22 x1 x2 1 v3))) 0
set_option maxRecDepth 100000 in
set_option maxHeartbeats 4000000 in
theorem w_X7_chunk {p : Program} {l : Launch} {e : Env} {s : State} {m : MethodId} {args : Array Value} {below : List Frame} {meth : Method} {c : Code} {D : va_G} {cy : Nat → ClassId} {ad : Nat → Nat} {A : Nat → Prop} {z : (tmR)} (C0 : tmC p s m args meth c cX7_chunk 3 (some .int) RX7 TMW tm_NWC D cy tm_shC ad 256 [] A) (hl : l.stackTraces = false) (hE : tmTh A s s.heap) (hout : ∀ x ∈ c.exceptionTable.toList, False) (x1 x2 : Int32) (v : tmM) : tmG p l e ({ frames := 7, cells := 2, slots := 12, locals := 110 } : Room) s m args below meth c 0 0 (vx_MQ below (va_Qi (fun r u => z = ((0, r), u)) (tmAt tm_shC 256 D cy ad A) A) (tmXX tm_shC 256 D cy ad A 0 z) args s 2 12 A) 3 D cy tm_shC ad 256 [] A z 0 [(0, .ref (ad 247)), (1, .int x1), (2, .int x2)] [] v (f_X7_chunk x1 x2 v) := by
  unfold f_X7_chunk
  refine tg_iload_n 1 C0 dX7_chunk_0 rfl rfl ?_
  refine tg_callSi (As := [.int x1]) 1 C0 dX7_chunk_1 (c_X7_isChunk l x1 v) rfl rfl (tm_gc tc_X7_isChunk) tl_X7_189 tn_X7 tst_X7_isChunk  rfl rfl rfl rfl (by decide +kernel) ⟨by decide, by decide⟩ (Nat.le_of_ble_eq_true rfl) ⟨by decide, by decide⟩ (fun r2 v1 _ => ?_)
  refine tg_callSxi (As := [.int r2]) 1 C0 hE hout dX7_chunk_4 (c_X7_requireIndex l hl r2 v1) rfl rfl (tm_gS tl_X7_114 tst_X7_requireIndex tn_X7 tc_X7_requireIndex) rfl rfl rfl rfl (by decide +kernel) ⟨by decide, by decide⟩ (Nat.le_of_ble_eq_true rfl) ⟨by decide, by decide⟩ ⟨by decide, by decide⟩ (fun v3 _ => ?_)
  refine tg_iload_n 2 C0 dX7_chunk_7 rfl rfl ?_
  refine tg_if_lt 21 C0 dX7_chunk_8 (by decide) (fun _ => ?_) (fun _ => ?_)
  · exact w_X7_chunk_21 C0 hl hE hout x1 x2 v3
  · refine tg_iload_n 2 C0 dX7_chunk_11 rfl rfl ?_
    refine tg_bipush (x := 6) C0 dX7_chunk_12 (by decide) ?_
    refine tg_icmp_ge 21 C0 dX7_chunk_14 (by decide) (fun _ => ?_) (fun _ => ?_)
    · exact w_X7_chunk_21 C0 hl hE hout x1 x2 v3
    · refine tg_iconst (x := 1) C0 dX7_chunk_17 (by decide) ?_
      refine tg_goto 22 C0 dX7_chunk_18 (by decide) ?_
      exact w_X7_chunk_22 C0 hl hE hout x1 x2 1 v3
theorem c_X7_chunk (l : Launch) (hl : l.stackTraces = false) (x1 x2 : Int32) (v : tmM) : tmXi tm_NWC tm_shC 256 l yX7_chunk (Cond.code yX7_chunk cX7_chunk 3 (some .int) :: TMW) ({ frames := 7, cells := 2, slots := 12, locals := 110 } : Room) (fun ad => [.ref (ad 247), .int x1, .int x2]) v 2 12 (f_X7_chunk x1 x2 v) :=
  tmXi.of (cc := cX7_chunk) (nL := 3) (by decide +kernel) rfl tm_NWC_ok (fun _ => Nat.le_of_ble_eq_true rfl) (fun p e s m args below meth c A D cy ad z C0 hE hout => w_X7_chunk C0 hl hE hout x1 x2 v)
-- ----- X7_stale
theorem dX7_stale_0 : decode cX7_stale 0 = .ok (.iload_n 1, 1) := by decide +kernel
theorem dX7_stale_1 : decode cX7_stale 1 = .ok (.ifCond .lt 7, 3) := by decide +kernel
theorem dX7_stale_4 : decode cX7_stale 4 = .ok (.iconst 1, 1) := by decide +kernel
theorem dX7_stale_5 : decode cX7_stale 5 = .ok (.goto 4, 3) := by decide +kernel
theorem dX7_stale_8 : decode cX7_stale 8 = .ok (.iconst 0, 1) := by decide +kernel
theorem dX7_stale_9 : decode cX7_stale 9 = .ok (.invokestatic 114, 3) := by decide +kernel
theorem dX7_stale_12 : decode cX7_stale 12 = .ok (.iload_n 1, 1) := by decide +kernel
theorem dX7_stale_13 : decode cX7_stale 13 = .ok (.aload_n 0, 1) := by decide +kernel
theorem dX7_stale_14 : decode cX7_stale 14 = .ok (.getfield 12, 3) := by decide +kernel
theorem dX7_stale_17 : decode cX7_stale 17 = .ok (.getfield 145, 3) := by decide +kernel
theorem dX7_stale_20 : decode cX7_stale 20 = .ok (.getfield 149, 3) := by decide +kernel
theorem dX7_stale_23 : decode cX7_stale 23 = .ok (.if_icmp .ge 18, 3) := by decide +kernel
theorem dX7_stale_26 : decode cX7_stale 26 = .ok (.aload_n 0, 1) := by decide +kernel
theorem dX7_stale_27 : decode cX7_stale 27 = .ok (.getfield 12, 3) := by decide +kernel
theorem dX7_stale_30 : decode cX7_stale 30 = .ok (.getfield 145, 3) := by decide +kernel
theorem dX7_stale_33 : decode cX7_stale 33 = .ok (.getfield 205, 3) := by decide +kernel
theorem dX7_stale_36 : decode cX7_stale 36 = .ok (.iload_n 1, 1) := by decide +kernel
theorem dX7_stale_37 : decode cX7_stale 37 = .ok (.iaload, 1) := by decide +kernel
theorem dX7_stale_38 : decode cX7_stale 38 = .ok (.goto 4, 3) := by decide +kernel
theorem dX7_stale_41 : decode cX7_stale 41 = .ok (.iconst (-1), 1) := by decide +kernel
theorem dX7_stale_42 : decode cX7_stale 42 = .ok (.ireturn, 1) := by decide +kernel
def f_X7_stale_9 (x1 s0 : Int32) (v : tmM) : Option (tmR) := tm_cx (f_X7_requireIndex s0 v) (fun _ v1 => (if (v1 8 1) ≤ x1 then some ((0, (-1)), v1) else tm_g (tm_ix x1 60) (some ((0, v1 9 x1.toNatClampNeg), v1)))) 0
set_option maxRecDepth 100000 in
set_option maxHeartbeats 4000000 in
theorem w_X7_stale_9 {p : Program} {l : Launch} {e : Env} {s : State} {m : MethodId} {args : Array Value} {below : List Frame} {meth : Method} {c : Code} {D : va_G} {cy : Nat → ClassId} {ad : Nat → Nat} {A : Nat → Prop} {z : (tmR)} (C0 : tmC p s m args meth c cX7_stale 2 (some .int) RX7 TMW tm_NWC D cy tm_shC ad 256 [] A) (hl : l.stackTraces = false) (hE : tmTh A s s.heap) (hout : ∀ x ∈ c.exceptionTable.toList, False) (x1 s0 : Int32) (v : tmM) : tmG p l e ({ frames := 7, cells := 1, slots := 6, locals := 110 } : Room) s m args below meth c 0 0 (vx_MQ below (va_Qi (fun r u => z = ((0, r), u)) (tmAt tm_shC 256 D cy ad A) A) (tmXX tm_shC 256 D cy ad A 0 z) args s 1 6 A) 2 D cy tm_shC ad 256 [] A z 9 [(0, .ref (ad 247)), (1, .int x1)] [.int s0] v (f_X7_stale_9 x1 s0 v) := by
  unfold f_X7_stale_9
  refine tg_callSxi (As := [.int s0]) 1 C0 hE hout dX7_stale_9 (c_X7_requireIndex l hl s0 v) rfl rfl (tm_gS tl_X7_114 tst_X7_requireIndex tn_X7 tc_X7_requireIndex) rfl rfl rfl rfl (by decide +kernel) ⟨by decide, by decide⟩ (Nat.le_of_ble_eq_true rfl) ⟨by decide, by decide⟩ ⟨by decide, by decide⟩ (fun v1 _ => ?_)
  refine tg_iload_n 1 C0 dX7_stale_12 rfl rfl ?_
  refine tg_aload_n 0 C0 dX7_stale_13 rfl rfl ?_
  refine tg_get 247 0 C0 dX7_stale_14 (by decide) rfl rfl tu_X7 (by decide) tf_X7_12 rfl rfl rfl ?_
  refine tg_getN 0 6 C0 dX7_stale_17 (by decide) rfl rfl tu_X4 (by decide) tm_nwC_X7_145 rfl rfl rfl ?_
  refine tg_getN 8 1 C0 dX7_stale_20 (by decide) rfl rfl tu_X2 (by decide) tm_nwC_X7_149 rfl rfl rfl ?_
  refine tg_icmp_ge 41 C0 dX7_stale_23 (by decide) (fun _ => ?_) (fun _ => ?_)
  · refine tg_iconst (x := (-1)) C0 dX7_stale_41 (by decide) ?_
    exact tg_xiret C0 dX7_stale_42 ⟨by decide, by decide⟩
  · refine tg_aload_n 0 C0 dX7_stale_26 rfl rfl ?_
    refine tg_get 247 0 C0 dX7_stale_27 (by decide) rfl rfl tu_X7 (by decide) tf_X7_12 rfl rfl rfl ?_
    refine tg_getN 0 6 C0 dX7_stale_30 (by decide) rfl rfl tu_X4 (by decide) tm_nwC_X7_145 rfl rfl rfl ?_
    refine tg_getN 8 0 C0 dX7_stale_33 (by decide) rfl rfl tu_X2 (by decide) tm_nwC_X7_205 rfl rfl rfl ?_
    refine tg_iload_n 1 C0 dX7_stale_36 rfl rfl ?_
    refine tg_iald 9 C0 dX7_stale_37 (by decide) rfl (fun _ => ?_)
    refine tg_goto 42 C0 dX7_stale_38 (by decide) ?_
    exact tg_xiret C0 dX7_stale_42 ⟨by decide, by decide⟩
def f_X7_stale (x1 : Int32) (v : tmM) : Option (tmR) := (if x1 < 0 then f_X7_stale_9 x1 0 v else f_X7_stale_9 x1 1 v)
set_option maxRecDepth 100000 in
set_option maxHeartbeats 4000000 in
theorem w_X7_stale {p : Program} {l : Launch} {e : Env} {s : State} {m : MethodId} {args : Array Value} {below : List Frame} {meth : Method} {c : Code} {D : va_G} {cy : Nat → ClassId} {ad : Nat → Nat} {A : Nat → Prop} {z : (tmR)} (C0 : tmC p s m args meth c cX7_stale 2 (some .int) RX7 TMW tm_NWC D cy tm_shC ad 256 [] A) (hl : l.stackTraces = false) (hE : tmTh A s s.heap) (hout : ∀ x ∈ c.exceptionTable.toList, False) (x1 : Int32) (v : tmM) : tmG p l e ({ frames := 7, cells := 1, slots := 6, locals := 110 } : Room) s m args below meth c 0 0 (vx_MQ below (va_Qi (fun r u => z = ((0, r), u)) (tmAt tm_shC 256 D cy ad A) A) (tmXX tm_shC 256 D cy ad A 0 z) args s 1 6 A) 2 D cy tm_shC ad 256 [] A z 0 [(0, .ref (ad 247)), (1, .int x1)] [] v (f_X7_stale x1 v) := by
  unfold f_X7_stale
  refine tg_iload_n 1 C0 dX7_stale_0 rfl rfl ?_
  refine tg_if_lt 8 C0 dX7_stale_1 (by decide) (fun _ => ?_) (fun _ => ?_)
  · refine tg_iconst (x := 0) C0 dX7_stale_8 (by decide) ?_
    exact w_X7_stale_9 C0 hl hE hout x1 0 v
  · refine tg_iconst (x := 1) C0 dX7_stale_4 (by decide) ?_
    refine tg_goto 9 C0 dX7_stale_5 (by decide) ?_
    exact w_X7_stale_9 C0 hl hE hout x1 1 v
theorem c_X7_stale (l : Launch) (hl : l.stackTraces = false) (x1 : Int32) (v : tmM) : tmXi tm_NWC tm_shC 256 l yX7_stale (Cond.code yX7_stale cX7_stale 2 (some .int) :: TMW) ({ frames := 7, cells := 1, slots := 6, locals := 110 } : Room) (fun ad => [.ref (ad 247), .int x1]) v 1 6 (f_X7_stale x1 v) :=
  tmXi.of (cc := cX7_stale) (nL := 2) (by decide +kernel) rfl tm_NWC_ok (fun _ => Nat.le_of_ble_eq_true rfl) (fun p e s m args below meth c A D cy ad z C0 hE hout => w_X7_stale C0 hl hE hout x1 v)
-- ----- X7_event
theorem dX7_event_0 : decode cX7_event 0 = .ok (.iload_n 1, 1) := by decide +kernel
theorem dX7_event_1 : decode cX7_event 1 = .ok (.ifCond .lt 21, 3) := by decide +kernel
theorem dX7_event_4 : decode cX7_event 4 = .ok (.iload_n 1, 1) := by decide +kernel
theorem dX7_event_5 : decode cX7_event 5 = .ok (.aload_n 0, 1) := by decide +kernel
theorem dX7_event_6 : decode cX7_event 6 = .ok (.getfield 12, 3) := by decide +kernel
theorem dX7_event_9 : decode cX7_event 9 = .ok (.getfield 164, 3) := by decide +kernel
theorem dX7_event_12 : decode cX7_event 12 = .ok (.getfield 168, 3) := by decide +kernel
theorem dX7_event_15 : decode cX7_event 15 = .ok (.if_icmp .ge 7, 3) := by decide +kernel
theorem dX7_event_18 : decode cX7_event 18 = .ok (.iconst 1, 1) := by decide +kernel
theorem dX7_event_19 : decode cX7_event 19 = .ok (.goto 4, 3) := by decide +kernel
theorem dX7_event_22 : decode cX7_event 22 = .ok (.iconst 0, 1) := by decide +kernel
theorem dX7_event_23 : decode cX7_event 23 = .ok (.invokestatic 114, 3) := by decide +kernel
theorem dX7_event_26 : decode cX7_event 26 = .ok (.iload_n 2, 1) := by decide +kernel
theorem dX7_event_27 : decode cX7_event 27 = .ok (.ifCond .eq 8, 3) := by decide +kernel
theorem dX7_event_30 : decode cX7_event 30 = .ok (.iload_n 2, 1) := by decide +kernel
theorem dX7_event_31 : decode cX7_event 31 = .ok (.iconst 1, 1) := by decide +kernel
theorem dX7_event_32 : decode cX7_event 32 = .ok (.if_icmp .ne 7, 3) := by decide +kernel
theorem dX7_event_35 : decode cX7_event 35 = .ok (.iconst 1, 1) := by decide +kernel
theorem dX7_event_36 : decode cX7_event 36 = .ok (.goto 4, 3) := by decide +kernel
theorem dX7_event_39 : decode cX7_event 39 = .ok (.iconst 0, 1) := by decide +kernel
theorem dX7_event_40 : decode cX7_event 40 = .ok (.invokestatic 53, 3) := by decide +kernel
theorem dX7_event_43 : decode cX7_event 43 = .ok (.iload_n 2, 1) := by decide +kernel
theorem dX7_event_44 : decode cX7_event 44 = .ok (.ifCond .ne 18, 3) := by decide +kernel
theorem dX7_event_47 : decode cX7_event 47 = .ok (.aload_n 0, 1) := by decide +kernel
theorem dX7_event_48 : decode cX7_event 48 = .ok (.getfield 12, 3) := by decide +kernel
theorem dX7_event_51 : decode cX7_event 51 = .ok (.getfield 164, 3) := by decide +kernel
theorem dX7_event_54 : decode cX7_event 54 = .ok (.getfield 217, 3) := by decide +kernel
theorem dX7_event_57 : decode cX7_event 57 = .ok (.iload_n 1, 1) := by decide +kernel
theorem dX7_event_58 : decode cX7_event 58 = .ok (.iaload, 1) := by decide +kernel
theorem dX7_event_59 : decode cX7_event 59 = .ok (.goto 15, 3) := by decide +kernel
theorem dX7_event_62 : decode cX7_event 62 = .ok (.aload_n 0, 1) := by decide +kernel
theorem dX7_event_63 : decode cX7_event 63 = .ok (.getfield 12, 3) := by decide +kernel
theorem dX7_event_66 : decode cX7_event 66 = .ok (.getfield 164, 3) := by decide +kernel
theorem dX7_event_69 : decode cX7_event 69 = .ok (.getfield 220, 3) := by decide +kernel
theorem dX7_event_72 : decode cX7_event 72 = .ok (.iload_n 1, 1) := by decide +kernel
theorem dX7_event_73 : decode cX7_event 73 = .ok (.iaload, 1) := by decide +kernel
theorem dX7_event_74 : decode cX7_event 74 = .ok (.ireturn, 1) := by decide +kernel
def f_X7_event_40 (x1 x2 s0 : Int32) (v : tmM) : Option (tmR) := tm_cx (f_X7_requireArgument s0 v) (fun _ v2 => (if x2 = 0 then tm_g (tm_ix x1 30) (some ((0, v2 11 x1.toNatClampNeg), v2)) else tm_g (tm_ix x1 30) (some ((0, v2 12 x1.toNatClampNeg), v2)))) 0
set_option maxRecDepth 100000 in
set_option maxHeartbeats 4000000 in
theorem w_X7_event_40 {p : Program} {l : Launch} {e : Env} {s : State} {m : MethodId} {args : Array Value} {below : List Frame} {meth : Method} {c : Code} {D : va_G} {cy : Nat → ClassId} {ad : Nat → Nat} {A : Nat → Prop} {z : (tmR)} (C0 : tmC p s m args meth c cX7_event 3 (some .int) RX7 TMW tm_NWC D cy tm_shC ad 256 [] A) (hl : l.stackTraces = false) (hE : tmTh A s s.heap) (hout : ∀ x ∈ c.exceptionTable.toList, False) (x1 x2 s0 : Int32) (v : tmM) : tmG p l e ({ frames := 7, cells := 2, slots := 12, locals := 110 } : Room) s m args below meth c 1 6 (vx_MQ below (va_Qi (fun r u => z = ((0, r), u)) (tmAt tm_shC 256 D cy ad A) A) (tmXX tm_shC 256 D cy ad A 0 z) args s 2 12 A) 3 D cy tm_shC ad 256 [] A z 40 [(0, .ref (ad 247)), (1, .int x1), (2, .int x2)] [.int s0] v (f_X7_event_40 x1 x2 s0 v) := by
  unfold f_X7_event_40
  refine tg_callSxi (As := [.int s0]) 1 C0 hE hout dX7_event_40 (c_X7_requireArgument l hl s0 v) rfl rfl (tm_gS tl_X7_53 tst_X7_requireArgument tn_X7 tc_X7_requireArgument) rfl rfl rfl rfl (by decide +kernel) ⟨by decide, by decide⟩ (Nat.le_of_ble_eq_true rfl) ⟨by decide, by decide⟩ ⟨by decide, by decide⟩ (fun v2 _ => ?_)
  refine tg_iload_n 2 C0 dX7_event_43 rfl rfl ?_
  refine tg_if_ne 62 C0 dX7_event_44 (by decide) (fun _ => ?_) (fun _ => ?_)
  · refine tg_aload_n 0 C0 dX7_event_62 rfl rfl ?_
    refine tg_get 247 0 C0 dX7_event_63 (by decide) rfl rfl tu_X7 (by decide) tf_X7_12 rfl rfl rfl ?_
    refine tg_getN 0 7 C0 dX7_event_66 (by decide) rfl rfl tu_X4 (by decide) tm_nwC_X7_164 rfl rfl rfl ?_
    refine tg_getN 10 1 C0 dX7_event_69 (by decide) rfl rfl tu_X1 (by decide) tm_nwC_X7_220 rfl rfl rfl ?_
    refine tg_iload_n 1 C0 dX7_event_72 rfl rfl ?_
    refine tg_iald 12 C0 dX7_event_73 (by decide) rfl (fun _ => ?_)
    exact tg_xiret C0 dX7_event_74 ⟨by decide, by decide⟩
  · refine tg_aload_n 0 C0 dX7_event_47 rfl rfl ?_
    refine tg_get 247 0 C0 dX7_event_48 (by decide) rfl rfl tu_X7 (by decide) tf_X7_12 rfl rfl rfl ?_
    refine tg_getN 0 7 C0 dX7_event_51 (by decide) rfl rfl tu_X4 (by decide) tm_nwC_X7_164 rfl rfl rfl ?_
    refine tg_getN 10 0 C0 dX7_event_54 (by decide) rfl rfl tu_X1 (by decide) tm_nwC_X7_217 rfl rfl rfl ?_
    refine tg_iload_n 1 C0 dX7_event_57 rfl rfl ?_
    refine tg_iald 11 C0 dX7_event_58 (by decide) rfl (fun _ => ?_)
    refine tg_goto 74 C0 dX7_event_59 (by decide) ?_
    exact tg_xiret C0 dX7_event_74 ⟨by decide, by decide⟩
def f_X7_event_35 (x1 x2 : Int32) (v : tmM) : Option (tmR) := f_X7_event_40 x1 x2 1 v
set_option maxRecDepth 100000 in
set_option maxHeartbeats 4000000 in
theorem w_X7_event_35 {p : Program} {l : Launch} {e : Env} {s : State} {m : MethodId} {args : Array Value} {below : List Frame} {meth : Method} {c : Code} {D : va_G} {cy : Nat → ClassId} {ad : Nat → Nat} {A : Nat → Prop} {z : (tmR)} (C0 : tmC p s m args meth c cX7_event 3 (some .int) RX7 TMW tm_NWC D cy tm_shC ad 256 [] A) (hl : l.stackTraces = false) (hE : tmTh A s s.heap) (hout : ∀ x ∈ c.exceptionTable.toList, False) (x1 x2 : Int32) (v : tmM) : tmG p l e ({ frames := 7, cells := 2, slots := 12, locals := 110 } : Room) s m args below meth c 1 6 (vx_MQ below (va_Qi (fun r u => z = ((0, r), u)) (tmAt tm_shC 256 D cy ad A) A) (tmXX tm_shC 256 D cy ad A 0 z) args s 2 12 A) 3 D cy tm_shC ad 256 [] A z 35 [(0, .ref (ad 247)), (1, .int x1), (2, .int x2)] [] v (f_X7_event_35 x1 x2 v) := by
  unfold f_X7_event_35
  refine tg_iconst (x := 1) C0 dX7_event_35 (by decide) ?_
  refine tg_goto 40 C0 dX7_event_36 (by decide) ?_
  exact w_X7_event_40 C0 hl hE hout x1 x2 1 v
def f_X7_event_23 (x1 x2 s0 : Int32) (v : tmM) : Option (tmR) := tm_cx (f_X7_requireIndex s0 v) (fun _ v1 => (if x2 = 0 then f_X7_event_35 x1 x2 v1 else (if x2 = 1 then f_X7_event_35 x1 x2 v1 else f_X7_event_40 x1 x2 0 v1))) 0
set_option maxRecDepth 100000 in
set_option maxHeartbeats 4000000 in
theorem w_X7_event_23 {p : Program} {l : Launch} {e : Env} {s : State} {m : MethodId} {args : Array Value} {below : List Frame} {meth : Method} {c : Code} {D : va_G} {cy : Nat → ClassId} {ad : Nat → Nat} {A : Nat → Prop} {z : (tmR)} (C0 : tmC p s m args meth c cX7_event 3 (some .int) RX7 TMW tm_NWC D cy tm_shC ad 256 [] A) (hl : l.stackTraces = false) (hE : tmTh A s s.heap) (hout : ∀ x ∈ c.exceptionTable.toList, False) (x1 x2 s0 : Int32) (v : tmM) : tmG p l e ({ frames := 7, cells := 2, slots := 12, locals := 110 } : Room) s m args below meth c 0 0 (vx_MQ below (va_Qi (fun r u => z = ((0, r), u)) (tmAt tm_shC 256 D cy ad A) A) (tmXX tm_shC 256 D cy ad A 0 z) args s 2 12 A) 3 D cy tm_shC ad 256 [] A z 23 [(0, .ref (ad 247)), (1, .int x1), (2, .int x2)] [.int s0] v (f_X7_event_23 x1 x2 s0 v) := by
  unfold f_X7_event_23
  refine tg_callSxi (As := [.int s0]) 1 C0 hE hout dX7_event_23 (c_X7_requireIndex l hl s0 v) rfl rfl (tm_gS tl_X7_114 tst_X7_requireIndex tn_X7 tc_X7_requireIndex) rfl rfl rfl rfl (by decide +kernel) ⟨by decide, by decide⟩ (Nat.le_of_ble_eq_true rfl) ⟨by decide, by decide⟩ ⟨by decide, by decide⟩ (fun v1 _ => ?_)
  refine tg_iload_n 2 C0 dX7_event_26 rfl rfl ?_
  refine tg_if_eq 35 C0 dX7_event_27 (by decide) (fun _ => ?_) (fun _ => ?_)
  · exact w_X7_event_35 C0 hl hE hout x1 x2 v1
  · refine tg_iload_n 2 C0 dX7_event_30 rfl rfl ?_
    refine tg_iconst (x := 1) C0 dX7_event_31 (by decide) ?_
    refine tg_icmp_ne 39 C0 dX7_event_32 (by decide) (fun _ => ?_) (fun _ => ?_)
    · refine tg_iconst (x := 0) C0 dX7_event_39 (by decide) ?_
      exact w_X7_event_40 C0 hl hE hout x1 x2 0 v1
    · exact w_X7_event_35 C0 hl hE hout x1 x2 v1
def f_X7_event_22 (x1 x2 : Int32) (v : tmM) : Option (tmR) := f_X7_event_23 x1 x2 0 v
set_option maxRecDepth 100000 in
set_option maxHeartbeats 4000000 in
theorem w_X7_event_22 {p : Program} {l : Launch} {e : Env} {s : State} {m : MethodId} {args : Array Value} {below : List Frame} {meth : Method} {c : Code} {D : va_G} {cy : Nat → ClassId} {ad : Nat → Nat} {A : Nat → Prop} {z : (tmR)} (C0 : tmC p s m args meth c cX7_event 3 (some .int) RX7 TMW tm_NWC D cy tm_shC ad 256 [] A) (hl : l.stackTraces = false) (hE : tmTh A s s.heap) (hout : ∀ x ∈ c.exceptionTable.toList, False) (x1 x2 : Int32) (v : tmM) : tmG p l e ({ frames := 7, cells := 2, slots := 12, locals := 110 } : Room) s m args below meth c 0 0 (vx_MQ below (va_Qi (fun r u => z = ((0, r), u)) (tmAt tm_shC 256 D cy ad A) A) (tmXX tm_shC 256 D cy ad A 0 z) args s 2 12 A) 3 D cy tm_shC ad 256 [] A z 22 [(0, .ref (ad 247)), (1, .int x1), (2, .int x2)] [] v (f_X7_event_22 x1 x2 v) := by
  unfold f_X7_event_22
  refine tg_iconst (x := 0) C0 dX7_event_22 (by decide) ?_
  exact w_X7_event_23 C0 hl hE hout x1 x2 0 v
def f_X7_event (x1 x2 : Int32) (v : tmM) : Option (tmR) := (if x1 < 0 then f_X7_event_22 x1 x2 v else (if (v 10 2) ≤ x1 then f_X7_event_22 x1 x2 v else f_X7_event_23 x1 x2 1 v))
set_option maxRecDepth 100000 in
set_option maxHeartbeats 4000000 in
theorem w_X7_event {p : Program} {l : Launch} {e : Env} {s : State} {m : MethodId} {args : Array Value} {below : List Frame} {meth : Method} {c : Code} {D : va_G} {cy : Nat → ClassId} {ad : Nat → Nat} {A : Nat → Prop} {z : (tmR)} (C0 : tmC p s m args meth c cX7_event 3 (some .int) RX7 TMW tm_NWC D cy tm_shC ad 256 [] A) (hl : l.stackTraces = false) (hE : tmTh A s s.heap) (hout : ∀ x ∈ c.exceptionTable.toList, False) (x1 x2 : Int32) (v : tmM) : tmG p l e ({ frames := 7, cells := 2, slots := 12, locals := 110 } : Room) s m args below meth c 0 0 (vx_MQ below (va_Qi (fun r u => z = ((0, r), u)) (tmAt tm_shC 256 D cy ad A) A) (tmXX tm_shC 256 D cy ad A 0 z) args s 2 12 A) 3 D cy tm_shC ad 256 [] A z 0 [(0, .ref (ad 247)), (1, .int x1), (2, .int x2)] [] v (f_X7_event x1 x2 v) := by
  unfold f_X7_event
  refine tg_iload_n 1 C0 dX7_event_0 rfl rfl ?_
  refine tg_if_lt 22 C0 dX7_event_1 (by decide) (fun _ => ?_) (fun _ => ?_)
  · exact w_X7_event_22 C0 hl hE hout x1 x2 v
  · refine tg_iload_n 1 C0 dX7_event_4 rfl rfl ?_
    refine tg_aload_n 0 C0 dX7_event_5 rfl rfl ?_
    refine tg_get 247 0 C0 dX7_event_6 (by decide) rfl rfl tu_X7 (by decide) tf_X7_12 rfl rfl rfl ?_
    refine tg_getN 0 7 C0 dX7_event_9 (by decide) rfl rfl tu_X4 (by decide) tm_nwC_X7_164 rfl rfl rfl ?_
    refine tg_getN 10 2 C0 dX7_event_12 (by decide) rfl rfl tu_X1 (by decide) tm_nwC_X7_168 rfl rfl rfl ?_
    refine tg_icmp_ge 22 C0 dX7_event_15 (by decide) (fun _ => ?_) (fun _ => ?_)
    · exact w_X7_event_22 C0 hl hE hout x1 x2 v
    · refine tg_iconst (x := 1) C0 dX7_event_18 (by decide) ?_
      refine tg_goto 23 C0 dX7_event_19 (by decide) ?_
      exact w_X7_event_23 C0 hl hE hout x1 x2 1 v
theorem c_X7_event (l : Launch) (hl : l.stackTraces = false) (x1 x2 : Int32) (v : tmM) : tmXi tm_NWC tm_shC 256 l yX7_event (Cond.code yX7_event cX7_event 3 (some .int) :: TMW) ({ frames := 7, cells := 2, slots := 12, locals := 110 } : Room) (fun ad => [.ref (ad 247), .int x1, .int x2]) v 2 12 (f_X7_event x1 x2 v) :=
  tmXi.of (cc := cX7_event) (nL := 3) (by decide +kernel) rfl tm_NWC_ok (fun _ => Nat.le_of_ble_eq_true rfl) (fun p e s m args below meth c A D cy ad z C0 hE hout => w_X7_event C0 hl hE hout x1 x2 v)
-- ----- X7_since
theorem dX7_since_0 : decode cX7_since 0 = .ok (.iload_n 1, 1) := by decide +kernel
theorem dX7_since_1 : decode cX7_since 1 = .ok (.ifCond .lt 7, 3) := by decide +kernel
theorem dX7_since_4 : decode cX7_since 4 = .ok (.iconst 1, 1) := by decide +kernel
theorem dX7_since_5 : decode cX7_since 5 = .ok (.goto 4, 3) := by decide +kernel
theorem dX7_since_8 : decode cX7_since 8 = .ok (.iconst 0, 1) := by decide +kernel
theorem dX7_since_9 : decode cX7_since 9 = .ok (.invokestatic 114, 3) := by decide +kernel
theorem dX7_since_12 : decode cX7_since 12 = .ok (.iload_n 2, 1) := by decide +kernel
theorem dX7_since_13 : decode cX7_since 13 = .ok (.ifCond .lt 12, 3) := by decide +kernel
theorem dX7_since_16 : decode cX7_since 16 = .ok (.iload_n 2, 1) := by decide +kernel
theorem dX7_since_17 : decode cX7_since 17 = .ok (.iconst 3, 1) := by decide +kernel
theorem dX7_since_18 : decode cX7_since 18 = .ok (.if_icmp .ge 7, 3) := by decide +kernel
theorem dX7_since_21 : decode cX7_since 21 = .ok (.iconst 1, 1) := by decide +kernel
theorem dX7_since_22 : decode cX7_since 22 = .ok (.goto 4, 3) := by decide +kernel
theorem dX7_since_25 : decode cX7_since 25 = .ok (.iconst 0, 1) := by decide +kernel
theorem dX7_since_26 : decode cX7_since 26 = .ok (.invokestatic 53, 3) := by decide +kernel
theorem dX7_since_29 : decode cX7_since 29 = .ok (.aload_n 0, 1) := by decide +kernel
theorem dX7_since_30 : decode cX7_since 30 = .ok (.getfield 12, 3) := by decide +kernel
theorem dX7_since_33 : decode cX7_since 33 = .ok (.getfield 92, 3) := by decide +kernel
theorem dX7_since_36 : decode cX7_since 36 = .ok (.iconst 2, 1) := by decide +kernel
theorem dX7_since_37 : decode cX7_since 37 = .ok (.if_icmp .ne 17, 3) := by decide +kernel
theorem dX7_since_40 : decode cX7_since 40 = .ok (.iload_n 1, 1) := by decide +kernel
theorem dX7_since_41 : decode cX7_since 41 = .ok (.aload_n 0, 1) := by decide +kernel
theorem dX7_since_42 : decode cX7_since 42 = .ok (.getfield 12, 3) := by decide +kernel
theorem dX7_since_45 : decode cX7_since 45 = .ok (.getfield 155, 3) := by decide +kernel
theorem dX7_since_48 : decode cX7_since 48 = .ok (.invokevirtual 223, 3) := by decide +kernel
theorem dX7_since_51 : decode cX7_since 51 = .ok (.if_icmp .lt 5, 3) := by decide +kernel
theorem dX7_since_54 : decode cX7_since 54 = .ok (.iconst (-1), 1) := by decide +kernel
theorem dX7_since_55 : decode cX7_since 55 = .ok (.ireturn, 1) := by decide +kernel
theorem dX7_since_56 : decode cX7_since 56 = .ok (.aload_n 0, 1) := by decide +kernel
theorem dX7_since_57 : decode cX7_since 57 = .ok (.getfield 12, 3) := by decide +kernel
theorem dX7_since_60 : decode cX7_since 60 = .ok (.getfield 155, 3) := by decide +kernel
theorem dX7_since_63 : decode cX7_since 63 = .ok (.getfield 225, 3) := by decide +kernel
theorem dX7_since_66 : decode cX7_since 66 = .ok (.iload_n 2, 1) := by decide +kernel
theorem dX7_since_67 : decode cX7_since 67 = .ok (.aaload, 1) := by decide +kernel
theorem dX7_since_68 : decode cX7_since 68 = .ok (.iload_n 1, 1) := by decide +kernel
theorem dX7_since_69 : decode cX7_since 69 = .ok (.iaload, 1) := by decide +kernel
theorem dX7_since_70 : decode cX7_since 70 = .ok (.ireturn, 1) := by decide +kernel
theorem tl_X7_223 : Cond.methodLink RX7 223 yX6_kept ∈ TMW := tm_in 1049 (by decide +kernel) (by decide +kernel)
theorem ti_X6_kept : Cond.instanceMethod yX6_kept ∈ TMW := tm_in 1050 (by decide +kernel) (by decide +kernel)
theorem ts_X6_kept : Cond.selects RX6 yX6_kept yX6_kept ∈ TMW := tm_in 1051 (by decide +kernel) (by decide +kernel)
theorem tc_X6_kept : Cond.code yX6_kept cX6_kept 1 (some .int) ∈ TMW := tm_in 1052 (by decide +kernel) (by decide +kernel)
def f_X7_since_26 (x1 x2 s0 : Int32) (v : tmM) : Option (tmR) := tm_cx (f_X7_requireArgument s0 v) (fun _ v2 => (if (v2 0 0) = 2 then tm_cl (f_X6_kept v2) fun r4 v3 => (if x1 < r4 then tm_g (tm_ix x2 3) (tm_lt (([15, 16, 17] : List Nat).getD x2.toNatClampNeg 0) fun q6 => tm_g (tm_ix x1 20) (some ((0, v3 q6 x1.toNatClampNeg), v3))) else some ((0, (-1)), v3)) else some ((0, (-1)), v2))) 0
set_option maxRecDepth 100000 in
set_option maxHeartbeats 4000000 in
theorem w_X7_since_26 {p : Program} {l : Launch} {e : Env} {s : State} {m : MethodId} {args : Array Value} {below : List Frame} {meth : Method} {c : Code} {D : va_G} {cy : Nat → ClassId} {ad : Nat → Nat} {A : Nat → Prop} {z : (tmR)} (C0 : tmC p s m args meth c cX7_since 3 (some .int) RX7 TMW tm_NWC D cy tm_shC ad 256 [] A) (hl : l.stackTraces = false) (hE : tmTh A s s.heap) (hout : ∀ x ∈ c.exceptionTable.toList, False) (x1 x2 s0 : Int32) (v : tmM) : tmG p l e ({ frames := 7, cells := 2, slots := 12, locals := 110 } : Room) s m args below meth c 1 6 (vx_MQ below (va_Qi (fun r u => z = ((0, r), u)) (tmAt tm_shC 256 D cy ad A) A) (tmXX tm_shC 256 D cy ad A 0 z) args s 2 12 A) 3 D cy tm_shC ad 256 [] A z 26 [(0, .ref (ad 247)), (1, .int x1), (2, .int x2)] [.int s0] v (f_X7_since_26 x1 x2 s0 v) := by
  unfold f_X7_since_26
  refine tg_callSxi (As := [.int s0]) 1 C0 hE hout dX7_since_26 (c_X7_requireArgument l hl s0 v) rfl rfl (tm_gS tl_X7_53 tst_X7_requireArgument tn_X7 tc_X7_requireArgument) rfl rfl rfl rfl (by decide +kernel) ⟨by decide, by decide⟩ (Nat.le_of_ble_eq_true rfl) ⟨by decide, by decide⟩ ⟨by decide, by decide⟩ (fun v2 _ => ?_)
  refine tg_aload_n 0 C0 dX7_since_29 rfl rfl ?_
  refine tg_get 247 0 C0 dX7_since_30 (by decide) rfl rfl tu_X7 (by decide) tf_X7_12 rfl rfl rfl ?_
  refine tg_getN 0 0 C0 dX7_since_33 (by decide) rfl rfl tu_X4 (by decide) tm_nwC_X7_92 rfl rfl rfl ?_
  refine tg_iconst (x := 2) C0 dX7_since_36 (by decide) ?_
  refine tg_icmp_ne 54 C0 dX7_since_37 (by decide) (fun _ => ?_) (fun _ => ?_)
  · refine tg_iconst (x := (-1)) C0 dX7_since_54 (by decide) ?_
    exact tg_xiret C0 dX7_since_55 ⟨by decide, by decide⟩
  · refine tg_iload_n 1 C0 dX7_since_40 rfl rfl ?_
    refine tg_aload_n 0 C0 dX7_since_41 rfl rfl ?_
    refine tg_get 247 0 C0 dX7_since_42 (by decide) rfl rfl tu_X7 (by decide) tf_X7_12 rfl rfl rfl ?_
    refine tg_getN 0 8 C0 dX7_since_45 (by decide) rfl rfl tu_X4 (by decide) tm_nwC_X7_155 rfl rfl rfl ?_
    refine tg_callVi (As := []) 13 0 C0 dX7_since_48 (c_X6_kept l v2) rfl rfl (by decide) rfl rfl (tm_gV tl_X7_223 ti_X6_kept ts_X6_kept tn_X6 tc_X6_kept)  rfl rfl rfl rfl (by decide +kernel) ⟨by decide, by decide⟩ (Nat.le_of_ble_eq_true rfl) ⟨by decide, by decide⟩ (fun r4 v3 _ => ?_)
    refine tg_icmp_lt 56 C0 dX7_since_51 (by decide) (fun _ => ?_) (fun _ => ?_)
    · refine tg_aload_n 0 C0 dX7_since_56 rfl rfl ?_
      refine tg_get 247 0 C0 dX7_since_57 (by decide) rfl rfl tu_X7 (by decide) tf_X7_12 rfl rfl rfl ?_
      refine tg_getN 0 8 C0 dX7_since_60 (by decide) rfl rfl tu_X4 (by decide) tm_nwC_X7_155 rfl rfl rfl ?_
      refine tg_getN 13 0 C0 dX7_since_63 (by decide) rfl rfl tu_X6 (by decide) tm_nwC_X7_225 rfl rfl rfl ?_
      refine tg_iload_n 2 C0 dX7_since_66 rfl rfl ?_
      refine tg_aald 14 C0 dX7_since_67 (by decide) rfl (by decide) rfl (fun q6 h5 e7 => ?_)
      have q6f := tm_all (P := fun r => tm_shC r = .inl (0, 20) ∧ r < 256) h5 e7 (by decide +kernel)
      refine tg_iload_n 1 C0 dX7_since_68 rfl rfl ?_
      refine tg_iald q6 C0 dX7_since_69 q6f.2 q6f.1 (fun _ => ?_)
      exact tg_xiret C0 dX7_since_70 ⟨by decide, by decide⟩
    · refine tg_iconst (x := (-1)) C0 dX7_since_54 (by decide) ?_
      exact tg_xiret C0 dX7_since_55 ⟨by decide, by decide⟩
def f_X7_since_25 (x1 x2 : Int32) (v : tmM) : Option (tmR) := f_X7_since_26 x1 x2 0 v
set_option maxRecDepth 100000 in
set_option maxHeartbeats 4000000 in
theorem w_X7_since_25 {p : Program} {l : Launch} {e : Env} {s : State} {m : MethodId} {args : Array Value} {below : List Frame} {meth : Method} {c : Code} {D : va_G} {cy : Nat → ClassId} {ad : Nat → Nat} {A : Nat → Prop} {z : (tmR)} (C0 : tmC p s m args meth c cX7_since 3 (some .int) RX7 TMW tm_NWC D cy tm_shC ad 256 [] A) (hl : l.stackTraces = false) (hE : tmTh A s s.heap) (hout : ∀ x ∈ c.exceptionTable.toList, False) (x1 x2 : Int32) (v : tmM) : tmG p l e ({ frames := 7, cells := 2, slots := 12, locals := 110 } : Room) s m args below meth c 1 6 (vx_MQ below (va_Qi (fun r u => z = ((0, r), u)) (tmAt tm_shC 256 D cy ad A) A) (tmXX tm_shC 256 D cy ad A 0 z) args s 2 12 A) 3 D cy tm_shC ad 256 [] A z 25 [(0, .ref (ad 247)), (1, .int x1), (2, .int x2)] [] v (f_X7_since_25 x1 x2 v) := by
  unfold f_X7_since_25
  refine tg_iconst (x := 0) C0 dX7_since_25 (by decide) ?_
  exact w_X7_since_26 C0 hl hE hout x1 x2 0 v
def f_X7_since_9 (x1 x2 s0 : Int32) (v : tmM) : Option (tmR) := tm_cx (f_X7_requireIndex s0 v) (fun _ v1 => (if x2 < 0 then f_X7_since_25 x1 x2 v1 else (if 3 ≤ x2 then f_X7_since_25 x1 x2 v1 else f_X7_since_26 x1 x2 1 v1))) 0
set_option maxRecDepth 100000 in
set_option maxHeartbeats 4000000 in
theorem w_X7_since_9 {p : Program} {l : Launch} {e : Env} {s : State} {m : MethodId} {args : Array Value} {below : List Frame} {meth : Method} {c : Code} {D : va_G} {cy : Nat → ClassId} {ad : Nat → Nat} {A : Nat → Prop} {z : (tmR)} (C0 : tmC p s m args meth c cX7_since 3 (some .int) RX7 TMW tm_NWC D cy tm_shC ad 256 [] A) (hl : l.stackTraces = false) (hE : tmTh A s s.heap) (hout : ∀ x ∈ c.exceptionTable.toList, False) (x1 x2 s0 : Int32) (v : tmM) : tmG p l e ({ frames := 7, cells := 2, slots := 12, locals := 110 } : Room) s m args below meth c 0 0 (vx_MQ below (va_Qi (fun r u => z = ((0, r), u)) (tmAt tm_shC 256 D cy ad A) A) (tmXX tm_shC 256 D cy ad A 0 z) args s 2 12 A) 3 D cy tm_shC ad 256 [] A z 9 [(0, .ref (ad 247)), (1, .int x1), (2, .int x2)] [.int s0] v (f_X7_since_9 x1 x2 s0 v) := by
  unfold f_X7_since_9
  refine tg_callSxi (As := [.int s0]) 1 C0 hE hout dX7_since_9 (c_X7_requireIndex l hl s0 v) rfl rfl (tm_gS tl_X7_114 tst_X7_requireIndex tn_X7 tc_X7_requireIndex) rfl rfl rfl rfl (by decide +kernel) ⟨by decide, by decide⟩ (Nat.le_of_ble_eq_true rfl) ⟨by decide, by decide⟩ ⟨by decide, by decide⟩ (fun v1 _ => ?_)
  refine tg_iload_n 2 C0 dX7_since_12 rfl rfl ?_
  refine tg_if_lt 25 C0 dX7_since_13 (by decide) (fun _ => ?_) (fun _ => ?_)
  · exact w_X7_since_25 C0 hl hE hout x1 x2 v1
  · refine tg_iload_n 2 C0 dX7_since_16 rfl rfl ?_
    refine tg_iconst (x := 3) C0 dX7_since_17 (by decide) ?_
    refine tg_icmp_ge 25 C0 dX7_since_18 (by decide) (fun _ => ?_) (fun _ => ?_)
    · exact w_X7_since_25 C0 hl hE hout x1 x2 v1
    · refine tg_iconst (x := 1) C0 dX7_since_21 (by decide) ?_
      refine tg_goto 26 C0 dX7_since_22 (by decide) ?_
      exact w_X7_since_26 C0 hl hE hout x1 x2 1 v1
def f_X7_since (x1 x2 : Int32) (v : tmM) : Option (tmR) := (if x1 < 0 then f_X7_since_9 x1 x2 0 v else f_X7_since_9 x1 x2 1 v)
set_option maxRecDepth 100000 in
set_option maxHeartbeats 4000000 in
theorem w_X7_since {p : Program} {l : Launch} {e : Env} {s : State} {m : MethodId} {args : Array Value} {below : List Frame} {meth : Method} {c : Code} {D : va_G} {cy : Nat → ClassId} {ad : Nat → Nat} {A : Nat → Prop} {z : (tmR)} (C0 : tmC p s m args meth c cX7_since 3 (some .int) RX7 TMW tm_NWC D cy tm_shC ad 256 [] A) (hl : l.stackTraces = false) (hE : tmTh A s s.heap) (hout : ∀ x ∈ c.exceptionTable.toList, False) (x1 x2 : Int32) (v : tmM) : tmG p l e ({ frames := 7, cells := 2, slots := 12, locals := 110 } : Room) s m args below meth c 0 0 (vx_MQ below (va_Qi (fun r u => z = ((0, r), u)) (tmAt tm_shC 256 D cy ad A) A) (tmXX tm_shC 256 D cy ad A 0 z) args s 2 12 A) 3 D cy tm_shC ad 256 [] A z 0 [(0, .ref (ad 247)), (1, .int x1), (2, .int x2)] [] v (f_X7_since x1 x2 v) := by
  unfold f_X7_since
  refine tg_iload_n 1 C0 dX7_since_0 rfl rfl ?_
  refine tg_if_lt 8 C0 dX7_since_1 (by decide) (fun _ => ?_) (fun _ => ?_)
  · refine tg_iconst (x := 0) C0 dX7_since_8 (by decide) ?_
    exact w_X7_since_9 C0 hl hE hout x1 x2 0 v
  · refine tg_iconst (x := 1) C0 dX7_since_4 (by decide) ?_
    refine tg_goto 9 C0 dX7_since_5 (by decide) ?_
    exact w_X7_since_9 C0 hl hE hout x1 x2 1 v
theorem c_X7_since (l : Launch) (hl : l.stackTraces = false) (x1 x2 : Int32) (v : tmM) : tmXi tm_NWC tm_shC 256 l yX7_since (Cond.code yX7_since cX7_since 3 (some .int) :: TMW) ({ frames := 7, cells := 2, slots := 12, locals := 110 } : Room) (fun ad => [.ref (ad 247), .int x1, .int x2]) v 2 12 (f_X7_since x1 x2 v) :=
  tmXi.of (cc := cX7_since) (nL := 3) (by decide +kernel) rfl tm_NWC_ok (fun _ => Nat.le_of_ble_eq_true rfl) (fun p e s m args below meth c A D cy ad z C0 hE hout => w_X7_since C0 hl hE hout x1 x2 v)
-- ----- X7_account
theorem dX7_account_0 : decode cX7_account 0 = .ok (.iload_n 1, 1) := by decide +kernel
theorem dX7_account_1 : decode cX7_account 1 = .ok (.ifCond .lt 13, 3) := by decide +kernel
theorem dX7_account_4 : decode cX7_account 4 = .ok (.iload_n 1, 1) := by decide +kernel
theorem dX7_account_5 : decode cX7_account 5 = .ok (.bipush 10, 2) := by decide +kernel
theorem dX7_account_7 : decode cX7_account 7 = .ok (.if_icmp .ge 7, 3) := by decide +kernel
theorem dX7_account_10 : decode cX7_account 10 = .ok (.iconst 1, 1) := by decide +kernel
theorem dX7_account_11 : decode cX7_account 11 = .ok (.goto 4, 3) := by decide +kernel
theorem dX7_account_14 : decode cX7_account 14 = .ok (.iconst 0, 1) := by decide +kernel
theorem dX7_account_15 : decode cX7_account 15 = .ok (.invokestatic 53, 3) := by decide +kernel
theorem dX7_account_18 : decode cX7_account 18 = .ok (.aload_n 0, 1) := by decide +kernel
theorem dX7_account_19 : decode cX7_account 19 = .ok (.getfield 23, 3) := by decide +kernel
theorem dX7_account_22 : decode cX7_account 22 = .ok (.iload_n 1, 1) := by decide +kernel
theorem dX7_account_23 : decode cX7_account 23 = .ok (.iaload, 1) := by decide +kernel
theorem dX7_account_24 : decode cX7_account 24 = .ok (.ireturn, 1) := by decide +kernel
def f_X7_account_15 (x1 s0 : Int32) (v : tmM) : Option (tmR) := tm_cx (f_X7_requireArgument s0 v) (fun _ v1 => tm_g (tm_ix x1 10) (some ((0, v1 250 x1.toNatClampNeg), v1))) 0
set_option maxRecDepth 100000 in
set_option maxHeartbeats 4000000 in
theorem w_X7_account_15 {p : Program} {l : Launch} {e : Env} {s : State} {m : MethodId} {args : Array Value} {below : List Frame} {meth : Method} {c : Code} {D : va_G} {cy : Nat → ClassId} {ad : Nat → Nat} {A : Nat → Prop} {z : (tmR)} (C0 : tmC p s m args meth c cX7_account 2 (some .int) RX7 TMW tm_NWC D cy tm_shC ad 256 [] A) (hl : l.stackTraces = false) (hE : tmTh A s s.heap) (hout : ∀ x ∈ c.exceptionTable.toList, False) (x1 s0 : Int32) (v : tmM) : tmG p l e ({ frames := 7, cells := 1, slots := 6, locals := 110 } : Room) s m args below meth c 0 0 (vx_MQ below (va_Qi (fun r u => z = ((0, r), u)) (tmAt tm_shC 256 D cy ad A) A) (tmXX tm_shC 256 D cy ad A 0 z) args s 1 6 A) 2 D cy tm_shC ad 256 [] A z 15 [(0, .ref (ad 247)), (1, .int x1)] [.int s0] v (f_X7_account_15 x1 s0 v) := by
  unfold f_X7_account_15
  refine tg_callSxi (As := [.int s0]) 1 C0 hE hout dX7_account_15 (c_X7_requireArgument l hl s0 v) rfl rfl (tm_gS tl_X7_53 tst_X7_requireArgument tn_X7 tc_X7_requireArgument) rfl rfl rfl rfl (by decide +kernel) ⟨by decide, by decide⟩ (Nat.le_of_ble_eq_true rfl) ⟨by decide, by decide⟩ ⟨by decide, by decide⟩ (fun v1 _ => ?_)
  refine tg_aload_n 0 C0 dX7_account_18 rfl rfl ?_
  refine tg_get 247 6 C0 dX7_account_19 (by decide) rfl rfl tu_X7 (by decide) tf_X7_23 rfl rfl rfl ?_
  refine tg_iload_n 1 C0 dX7_account_22 rfl rfl ?_
  refine tg_iald 250 C0 dX7_account_23 (by decide) rfl (fun _ => ?_)
  exact tg_xiret C0 dX7_account_24 ⟨by decide, by decide⟩
def f_X7_account_14 (x1 : Int32) (v : tmM) : Option (tmR) := f_X7_account_15 x1 0 v
set_option maxRecDepth 100000 in
set_option maxHeartbeats 4000000 in
theorem w_X7_account_14 {p : Program} {l : Launch} {e : Env} {s : State} {m : MethodId} {args : Array Value} {below : List Frame} {meth : Method} {c : Code} {D : va_G} {cy : Nat → ClassId} {ad : Nat → Nat} {A : Nat → Prop} {z : (tmR)} (C0 : tmC p s m args meth c cX7_account 2 (some .int) RX7 TMW tm_NWC D cy tm_shC ad 256 [] A) (hl : l.stackTraces = false) (hE : tmTh A s s.heap) (hout : ∀ x ∈ c.exceptionTable.toList, False) (x1 : Int32) (v : tmM) : tmG p l e ({ frames := 7, cells := 1, slots := 6, locals := 110 } : Room) s m args below meth c 0 0 (vx_MQ below (va_Qi (fun r u => z = ((0, r), u)) (tmAt tm_shC 256 D cy ad A) A) (tmXX tm_shC 256 D cy ad A 0 z) args s 1 6 A) 2 D cy tm_shC ad 256 [] A z 14 [(0, .ref (ad 247)), (1, .int x1)] [] v (f_X7_account_14 x1 v) := by
  unfold f_X7_account_14
  refine tg_iconst (x := 0) C0 dX7_account_14 (by decide) ?_
  exact w_X7_account_15 C0 hl hE hout x1 0 v
def f_X7_account (x1 : Int32) (v : tmM) : Option (tmR) := (if x1 < 0 then f_X7_account_14 x1 v else (if 10 ≤ x1 then f_X7_account_14 x1 v else f_X7_account_15 x1 1 v))
set_option maxRecDepth 100000 in
set_option maxHeartbeats 4000000 in
theorem w_X7_account {p : Program} {l : Launch} {e : Env} {s : State} {m : MethodId} {args : Array Value} {below : List Frame} {meth : Method} {c : Code} {D : va_G} {cy : Nat → ClassId} {ad : Nat → Nat} {A : Nat → Prop} {z : (tmR)} (C0 : tmC p s m args meth c cX7_account 2 (some .int) RX7 TMW tm_NWC D cy tm_shC ad 256 [] A) (hl : l.stackTraces = false) (hE : tmTh A s s.heap) (hout : ∀ x ∈ c.exceptionTable.toList, False) (x1 : Int32) (v : tmM) : tmG p l e ({ frames := 7, cells := 1, slots := 6, locals := 110 } : Room) s m args below meth c 0 0 (vx_MQ below (va_Qi (fun r u => z = ((0, r), u)) (tmAt tm_shC 256 D cy ad A) A) (tmXX tm_shC 256 D cy ad A 0 z) args s 1 6 A) 2 D cy tm_shC ad 256 [] A z 0 [(0, .ref (ad 247)), (1, .int x1)] [] v (f_X7_account x1 v) := by
  unfold f_X7_account
  refine tg_iload_n 1 C0 dX7_account_0 rfl rfl ?_
  refine tg_if_lt 14 C0 dX7_account_1 (by decide) (fun _ => ?_) (fun _ => ?_)
  · exact w_X7_account_14 C0 hl hE hout x1 v
  · refine tg_iload_n 1 C0 dX7_account_4 rfl rfl ?_
    refine tg_bipush (x := 10) C0 dX7_account_5 (by decide) ?_
    refine tg_icmp_ge 14 C0 dX7_account_7 (by decide) (fun _ => ?_) (fun _ => ?_)
    · exact w_X7_account_14 C0 hl hE hout x1 v
    · refine tg_iconst (x := 1) C0 dX7_account_10 (by decide) ?_
      refine tg_goto 15 C0 dX7_account_11 (by decide) ?_
      exact w_X7_account_15 C0 hl hE hout x1 1 v
theorem c_X7_account (l : Launch) (hl : l.stackTraces = false) (x1 : Int32) (v : tmM) : tmXi tm_NWC tm_shC 256 l yX7_account (Cond.code yX7_account cX7_account 2 (some .int) :: TMW) ({ frames := 7, cells := 1, slots := 6, locals := 110 } : Room) (fun ad => [.ref (ad 247), .int x1]) v 1 6 (f_X7_account x1 v) :=
  tmXi.of (cc := cX7_account) (nL := 2) (by decide +kernel) rfl tm_NWC_ok (fun _ => Nat.le_of_ble_eq_true rfl) (fun p e s m args below meth c A D cy ad z C0 hE hout => w_X7_account C0 hl hE hout x1 v)
-- ----- X7_put
theorem dX7_put_0 : decode cX7_put 0 = .ok (.iload_n 1, 1) := by decide +kernel
theorem dX7_put_1 : decode cX7_put 1 = .ok (.invokestatic 123, 3) := by decide +kernel
theorem dX7_put_4 : decode cX7_put 4 = .ok (.invokestatic 114, 3) := by decide +kernel
theorem dX7_put_7 : decode cX7_put 7 = .ok (.iload_n 2, 1) := by decide +kernel
theorem dX7_put_8 : decode cX7_put 8 = .ok (.invokestatic 228, 3) := by decide +kernel
theorem dX7_put_11 : decode cX7_put 11 = .ok (.invokestatic 53, 3) := by decide +kernel
theorem dX7_put_14 : decode cX7_put 14 = .ok (.aload_n 0, 1) := by decide +kernel
theorem dX7_put_15 : decode cX7_put 15 = .ok (.iload_n 1, 1) := by decide +kernel
theorem dX7_put_16 : decode cX7_put 16 = .ok (.iload_n 1, 1) := by decide +kernel
theorem dX7_put_17 : decode cX7_put 17 = .ok (.iload_n 2, 1) := by decide +kernel
theorem dX7_put_18 : decode cX7_put 18 = .ok (.iconst 0, 1) := by decide +kernel
theorem dX7_put_19 : decode cX7_put 19 = .ok (.invokevirtual 74, 3) := by decide +kernel
theorem dX7_put_22 : decode cX7_put 22 = .ok (.ireturn, 1) := by decide +kernel
theorem tc_X7_isValue : Cond.code yX7_isValue cX7_isValue 1 (some .boolean) ∈ TMW := tm_in 1070 (by decide +kernel) (by decide +kernel)
theorem tl_X7_228 : Cond.methodLink RX7 228 yX7_isValue ∈ TMW := tm_in 1068 (by decide +kernel) (by decide +kernel)
theorem tst_X7_isValue : Cond.static yX7_isValue ∈ TMW := tm_in 1069 (by decide +kernel) (by decide +kernel)
theorem tl_X7_74 : Cond.methodLink RX7 74 yX7_writeRows ∈ TMW := tm_in 478 (by decide +kernel) (by decide +kernel)
theorem ti_X7_writeRows : Cond.instanceMethod yX7_writeRows ∈ TMW := tm_in 480 (by decide +kernel) (by decide +kernel)
theorem ts_X7_writeRows : Cond.selects RX7 yX7_writeRows yX7_writeRows ∈ TMW := tm_in 8 (by decide +kernel) (by decide +kernel)
theorem tc_X7_writeRows : Cond.code yX7_writeRows cX7_writeRows 7 (some .int) ∈ TMW := tm_in 481 (by decide +kernel) (by decide +kernel)
def f_X7_put (x1 x2 : Int32) (v : tmM) : Option (tmR) := tm_cl (f_X7_isKey x1 v) fun r2 v1 => tm_cx (f_X7_requireIndex r2 v1) (fun _ v3 => tm_cl (f_X7_isValue x2 v3) fun r5 v4 => tm_cx (f_X7_requireArgument r5 v4) (fun _ v6 => tm_cl (f_X7_writeRows x1 x1 x2 0 v6) fun r8 v7 => some ((0, r8), v7)) 0) 0
set_option maxRecDepth 100000 in
set_option maxHeartbeats 4000000 in
theorem w_X7_put {p : Program} {l : Launch} {e : Env} {s : State} {m : MethodId} {args : Array Value} {below : List Frame} {meth : Method} {c : Code} {D : va_G} {cy : Nat → ClassId} {ad : Nat → Nat} {A : Nat → Prop} {z : (tmR)} (C0 : tmC p s m args meth c cX7_put 3 (some .int) RX7 TMW tm_NWC D cy tm_shC ad 256 [] A) (hl : l.stackTraces = false) (hE : tmTh A s s.heap) (hout : ∀ x ∈ c.exceptionTable.toList, False) (x1 x2 : Int32) (v : tmM) : tmG p l e ({ frames := 7, cells := 2, slots := 12, locals := 150 } : Room) s m args below meth c 0 0 (vx_MQ below (va_Qi (fun r u => z = ((0, r), u)) (tmAt tm_shC 256 D cy ad A) A) (tmXX tm_shC 256 D cy ad A 0 z) args s 2 12 A) 3 D cy tm_shC ad 256 [] A z 0 [(0, .ref (ad 247)), (1, .int x1), (2, .int x2)] [] v (f_X7_put x1 x2 v) := by
  unfold f_X7_put
  refine tg_iload_n 1 C0 dX7_put_0 rfl rfl ?_
  refine tg_callSi (As := [.int x1]) 1 C0 dX7_put_1 (c_X7_isKey l x1 v) rfl rfl (tm_gc tc_X7_isKey) tl_X7_123 tn_X7 tst_X7_isKey  rfl rfl rfl rfl (by decide +kernel) ⟨by decide, by decide⟩ (Nat.le_of_ble_eq_true rfl) ⟨by decide, by decide⟩ (fun r2 v1 _ => ?_)
  refine tg_callSxi (As := [.int r2]) 1 C0 hE hout dX7_put_4 (c_X7_requireIndex l hl r2 v1) rfl rfl (tm_gS tl_X7_114 tst_X7_requireIndex tn_X7 tc_X7_requireIndex) rfl rfl rfl rfl (by decide +kernel) ⟨by decide, by decide⟩ (Nat.le_of_ble_eq_true rfl) ⟨by decide, by decide⟩ ⟨by decide, by decide⟩ (fun v3 _ => ?_)
  refine tg_iload_n 2 C0 dX7_put_7 rfl rfl ?_
  refine tg_callSi (As := [.int x2]) 1 C0 dX7_put_8 (c_X7_isValue l x2 v3) rfl rfl (tm_gc tc_X7_isValue) tl_X7_228 tn_X7 tst_X7_isValue  rfl rfl rfl rfl (by decide +kernel) ⟨by decide, by decide⟩ (Nat.le_of_ble_eq_true rfl) ⟨by decide, by decide⟩ (fun r5 v4 _ => ?_)
  refine tg_callSxi (As := [.int r5]) 1 C0 hE hout dX7_put_11 (c_X7_requireArgument l hl r5 v4) rfl rfl (tm_gS tl_X7_53 tst_X7_requireArgument tn_X7 tc_X7_requireArgument) rfl rfl rfl rfl (by decide +kernel) ⟨by decide, by decide⟩ (Nat.le_of_ble_eq_true rfl) ⟨by decide, by decide⟩ ⟨by decide, by decide⟩ (fun v6 _ => ?_)
  refine tg_aload_n 0 C0 dX7_put_14 rfl rfl ?_
  refine tg_iload_n 1 C0 dX7_put_15 rfl rfl ?_
  refine tg_iload_n 1 C0 dX7_put_16 rfl rfl ?_
  refine tg_iload_n 2 C0 dX7_put_17 rfl rfl ?_
  refine tg_iconst (x := 0) C0 dX7_put_18 (by decide) ?_
  refine tg_callVi (As := [.int x1, .int x1, .int x2, .int 0]) 247 4 C0 dX7_put_19 (c_X7_writeRows l x1 x1 x2 0 v6) rfl rfl (by decide) rfl rfl (tm_gV tl_X7_74 ti_X7_writeRows ts_X7_writeRows tn_X7 tc_X7_writeRows)  rfl rfl rfl rfl (by decide +kernel) ⟨by decide, by decide⟩ (Nat.le_of_ble_eq_true rfl) ⟨by decide, by decide⟩ (fun r8 v7 _ => ?_)
  exact tg_xiret C0 dX7_put_22 ⟨by decide, by decide⟩
theorem c_X7_put (l : Launch) (hl : l.stackTraces = false) (x1 x2 : Int32) (v : tmM) : tmXi tm_NWC tm_shC 256 l yX7_put (Cond.code yX7_put cX7_put 3 (some .int) :: TMW) ({ frames := 7, cells := 2, slots := 12, locals := 150 } : Room) (fun ad => [.ref (ad 247), .int x1, .int x2]) v 2 12 (f_X7_put x1 x2 v) :=
  tmXi.of (cc := cX7_put) (nL := 3) (by decide +kernel) rfl tm_NWC_ok (fun _ => Nat.le_of_ble_eq_true rfl) (fun p e s m args below meth c A D cy ad z C0 hE hout => w_X7_put C0 hl hE hout x1 x2 v)
-- ----- X7_remove
theorem dX7_remove_0 : decode cX7_remove 0 = .ok (.iload_n 1, 1) := by decide +kernel
theorem dX7_remove_1 : decode cX7_remove 1 = .ok (.invokestatic 123, 3) := by decide +kernel
theorem dX7_remove_4 : decode cX7_remove 4 = .ok (.invokestatic 114, 3) := by decide +kernel
theorem dX7_remove_7 : decode cX7_remove 7 = .ok (.aload_n 0, 1) := by decide +kernel
theorem dX7_remove_8 : decode cX7_remove 8 = .ok (.iload_n 1, 1) := by decide +kernel
theorem dX7_remove_9 : decode cX7_remove 9 = .ok (.iload_n 1, 1) := by decide +kernel
theorem dX7_remove_10 : decode cX7_remove 10 = .ok (.invokevirtual 78, 3) := by decide +kernel
theorem dX7_remove_13 : decode cX7_remove 13 = .ok (.ireturn, 1) := by decide +kernel
theorem tl_X7_78 : Cond.methodLink RX7 78 yX7_removeRows ∈ TMW := tm_in 579 (by decide +kernel) (by decide +kernel)
theorem ti_X7_removeRows : Cond.instanceMethod yX7_removeRows ∈ TMW := tm_in 581 (by decide +kernel) (by decide +kernel)
theorem ts_X7_removeRows : Cond.selects RX7 yX7_removeRows yX7_removeRows ∈ TMW := tm_in 14 (by decide +kernel) (by decide +kernel)
theorem tc_X7_removeRows : Cond.code yX7_removeRows cX7_removeRows 5 (some .int) ∈ TMW := tm_in 582 (by decide +kernel) (by decide +kernel)
def f_X7_remove (x1 : Int32) (v : tmM) : Option (tmR) := tm_cl (f_X7_isKey x1 v) fun r2 v1 => tm_cx (f_X7_requireIndex r2 v1) (fun _ v3 => tm_cl (f_X7_removeRows x1 x1 v3) fun r5 v4 => some ((0, r5), v4)) 0
set_option maxRecDepth 100000 in
set_option maxHeartbeats 4000000 in
theorem w_X7_remove {p : Program} {l : Launch} {e : Env} {s : State} {m : MethodId} {args : Array Value} {below : List Frame} {meth : Method} {c : Code} {D : va_G} {cy : Nat → ClassId} {ad : Nat → Nat} {A : Nat → Prop} {z : (tmR)} (C0 : tmC p s m args meth c cX7_remove 2 (some .int) RX7 TMW tm_NWC D cy tm_shC ad 256 [] A) (hl : l.stackTraces = false) (hE : tmTh A s s.heap) (hout : ∀ x ∈ c.exceptionTable.toList, False) (x1 : Int32) (v : tmM) : tmG p l e ({ frames := 7, cells := 1, slots := 6, locals := 148 } : Room) s m args below meth c 0 0 (vx_MQ below (va_Qi (fun r u => z = ((0, r), u)) (tmAt tm_shC 256 D cy ad A) A) (tmXX tm_shC 256 D cy ad A 0 z) args s 1 6 A) 2 D cy tm_shC ad 256 [] A z 0 [(0, .ref (ad 247)), (1, .int x1)] [] v (f_X7_remove x1 v) := by
  unfold f_X7_remove
  refine tg_iload_n 1 C0 dX7_remove_0 rfl rfl ?_
  refine tg_callSi (As := [.int x1]) 1 C0 dX7_remove_1 (c_X7_isKey l x1 v) rfl rfl (tm_gc tc_X7_isKey) tl_X7_123 tn_X7 tst_X7_isKey  rfl rfl rfl rfl (by decide +kernel) ⟨by decide, by decide⟩ (Nat.le_of_ble_eq_true rfl) ⟨by decide, by decide⟩ (fun r2 v1 _ => ?_)
  refine tg_callSxi (As := [.int r2]) 1 C0 hE hout dX7_remove_4 (c_X7_requireIndex l hl r2 v1) rfl rfl (tm_gS tl_X7_114 tst_X7_requireIndex tn_X7 tc_X7_requireIndex) rfl rfl rfl rfl (by decide +kernel) ⟨by decide, by decide⟩ (Nat.le_of_ble_eq_true rfl) ⟨by decide, by decide⟩ ⟨by decide, by decide⟩ (fun v3 _ => ?_)
  refine tg_aload_n 0 C0 dX7_remove_7 rfl rfl ?_
  refine tg_iload_n 1 C0 dX7_remove_8 rfl rfl ?_
  refine tg_iload_n 1 C0 dX7_remove_9 rfl rfl ?_
  refine tg_callVi (As := [.int x1, .int x1]) 247 2 C0 dX7_remove_10 (c_X7_removeRows l x1 x1 v3) rfl rfl (by decide) rfl rfl (tm_gV tl_X7_78 ti_X7_removeRows ts_X7_removeRows tn_X7 tc_X7_removeRows)  rfl rfl rfl rfl (by decide +kernel) ⟨by decide, by decide⟩ (Nat.le_of_ble_eq_true rfl) ⟨by decide, by decide⟩ (fun r5 v4 _ => ?_)
  exact tg_xiret C0 dX7_remove_13 ⟨by decide, by decide⟩
theorem c_X7_remove (l : Launch) (hl : l.stackTraces = false) (x1 : Int32) (v : tmM) : tmXi tm_NWC tm_shC 256 l yX7_remove (Cond.code yX7_remove cX7_remove 2 (some .int) :: TMW) ({ frames := 7, cells := 1, slots := 6, locals := 148 } : Room) (fun ad => [.ref (ad 247), .int x1]) v 1 6 (f_X7_remove x1 v) :=
  tmXi.of (cc := cX7_remove) (nL := 2) (by decide +kernel) rfl tm_NWC_ok (fun _ => Nat.le_of_ble_eq_true rfl) (fun p e s m args below meth c A D cy ad z C0 hE hout => w_X7_remove C0 hl hE hout x1 v)
-- ----- X7_copy
theorem dX7_copy_0 : decode cX7_copy 0 = .ok (.iload_n 1, 1) := by decide +kernel
theorem dX7_copy_1 : decode cX7_copy 1 = .ok (.iconst 1, 1) := by decide +kernel
theorem dX7_copy_2 : decode cX7_copy 2 = .ok (.if_icmp .lt 13, 3) := by decide +kernel
theorem dX7_copy_5 : decode cX7_copy 5 = .ok (.iload_n 1, 1) := by decide +kernel
theorem dX7_copy_6 : decode cX7_copy 6 = .ok (.bipush 15, 2) := by decide +kernel
theorem dX7_copy_8 : decode cX7_copy 8 = .ok (.if_icmp .gt 7, 3) := by decide +kernel
theorem dX7_copy_11 : decode cX7_copy 11 = .ok (.iconst 1, 1) := by decide +kernel
theorem dX7_copy_12 : decode cX7_copy 12 = .ok (.goto 4, 3) := by decide +kernel
theorem dX7_copy_15 : decode cX7_copy 15 = .ok (.iconst 0, 1) := by decide +kernel
theorem dX7_copy_16 : decode cX7_copy 16 = .ok (.invokestatic 53, 3) := by decide +kernel
theorem dX7_copy_19 : decode cX7_copy 19 = .ok (.aload_n 0, 1) := by decide +kernel
theorem dX7_copy_20 : decode cX7_copy 20 = .ok (.iconst 1, 1) := by decide +kernel
theorem dX7_copy_21 : decode cX7_copy 21 = .ok (.iload_n 1, 1) := by decide +kernel
theorem dX7_copy_22 : decode cX7_copy 22 = .ok (.invokevirtual 82, 3) := by decide +kernel
theorem dX7_copy_25 : decode cX7_copy 25 = .ok (.ireturn, 1) := by decide +kernel
def f_X7_copy_16 (x1 s0 : Int32) (v : tmM) : Option (tmR) := tm_cx (f_X7_requireArgument s0 v) (fun _ v1 => tm_cl (f_X7_attempt 1 x1 v1) fun r3 v2 => some ((0, r3), v2)) 0
set_option maxRecDepth 100000 in
set_option maxHeartbeats 4000000 in
theorem w_X7_copy_16 {p : Program} {l : Launch} {e : Env} {s : State} {m : MethodId} {args : Array Value} {below : List Frame} {meth : Method} {c : Code} {D : va_G} {cy : Nat → ClassId} {ad : Nat → Nat} {A : Nat → Prop} {z : (tmR)} (C0 : tmC p s m args meth c cX7_copy 2 (some .int) RX7 TMW tm_NWC D cy tm_shC ad 256 [] A) (hl : l.stackTraces = false) (hE : tmTh A s s.heap) (hout : ∀ x ∈ c.exceptionTable.toList, False) (x1 s0 : Int32) (v : tmM) : tmG p l e ({ frames := 7, cells := 1, slots := 6, locals := 154 } : Room) s m args below meth c 0 0 (vx_MQ below (va_Qi (fun r u => z = ((0, r), u)) (tmAt tm_shC 256 D cy ad A) A) (tmXX tm_shC 256 D cy ad A 0 z) args s 1 6 A) 2 D cy tm_shC ad 256 [] A z 16 [(0, .ref (ad 247)), (1, .int x1)] [.int s0] v (f_X7_copy_16 x1 s0 v) := by
  unfold f_X7_copy_16
  refine tg_callSxi (As := [.int s0]) 1 C0 hE hout dX7_copy_16 (c_X7_requireArgument l hl s0 v) rfl rfl (tm_gS tl_X7_53 tst_X7_requireArgument tn_X7 tc_X7_requireArgument) rfl rfl rfl rfl (by decide +kernel) ⟨by decide, by decide⟩ (Nat.le_of_ble_eq_true rfl) ⟨by decide, by decide⟩ ⟨by decide, by decide⟩ (fun v1 _ => ?_)
  refine tg_aload_n 0 C0 dX7_copy_19 rfl rfl ?_
  refine tg_iconst (x := 1) C0 dX7_copy_20 (by decide) ?_
  refine tg_iload_n 1 C0 dX7_copy_21 rfl rfl ?_
  refine tg_callVi (As := [.int 1, .int x1]) 247 2 C0 dX7_copy_22 (c_X7_attempt l 1 x1 v1) rfl rfl (by decide) rfl rfl (tm_gV tl_X7_82 ti_X7_attempt ts_X7_attempt tn_X7 tc_X7_attempt)  rfl rfl rfl rfl (by decide +kernel) ⟨by decide, by decide⟩ (Nat.le_of_ble_eq_true rfl) ⟨by decide, by decide⟩ (fun r3 v2 _ => ?_)
  exact tg_xiret C0 dX7_copy_25 ⟨by decide, by decide⟩
def f_X7_copy_15 (x1 : Int32) (v : tmM) : Option (tmR) := f_X7_copy_16 x1 0 v
set_option maxRecDepth 100000 in
set_option maxHeartbeats 4000000 in
theorem w_X7_copy_15 {p : Program} {l : Launch} {e : Env} {s : State} {m : MethodId} {args : Array Value} {below : List Frame} {meth : Method} {c : Code} {D : va_G} {cy : Nat → ClassId} {ad : Nat → Nat} {A : Nat → Prop} {z : (tmR)} (C0 : tmC p s m args meth c cX7_copy 2 (some .int) RX7 TMW tm_NWC D cy tm_shC ad 256 [] A) (hl : l.stackTraces = false) (hE : tmTh A s s.heap) (hout : ∀ x ∈ c.exceptionTable.toList, False) (x1 : Int32) (v : tmM) : tmG p l e ({ frames := 7, cells := 1, slots := 6, locals := 154 } : Room) s m args below meth c 0 0 (vx_MQ below (va_Qi (fun r u => z = ((0, r), u)) (tmAt tm_shC 256 D cy ad A) A) (tmXX tm_shC 256 D cy ad A 0 z) args s 1 6 A) 2 D cy tm_shC ad 256 [] A z 15 [(0, .ref (ad 247)), (1, .int x1)] [] v (f_X7_copy_15 x1 v) := by
  unfold f_X7_copy_15
  refine tg_iconst (x := 0) C0 dX7_copy_15 (by decide) ?_
  exact w_X7_copy_16 C0 hl hE hout x1 0 v
def f_X7_copy (x1 : Int32) (v : tmM) : Option (tmR) := (if x1 < 1 then f_X7_copy_15 x1 v else (if 15 < x1 then f_X7_copy_15 x1 v else f_X7_copy_16 x1 1 v))
set_option maxRecDepth 100000 in
set_option maxHeartbeats 4000000 in
theorem w_X7_copy {p : Program} {l : Launch} {e : Env} {s : State} {m : MethodId} {args : Array Value} {below : List Frame} {meth : Method} {c : Code} {D : va_G} {cy : Nat → ClassId} {ad : Nat → Nat} {A : Nat → Prop} {z : (tmR)} (C0 : tmC p s m args meth c cX7_copy 2 (some .int) RX7 TMW tm_NWC D cy tm_shC ad 256 [] A) (hl : l.stackTraces = false) (hE : tmTh A s s.heap) (hout : ∀ x ∈ c.exceptionTable.toList, False) (x1 : Int32) (v : tmM) : tmG p l e ({ frames := 7, cells := 1, slots := 6, locals := 154 } : Room) s m args below meth c 0 0 (vx_MQ below (va_Qi (fun r u => z = ((0, r), u)) (tmAt tm_shC 256 D cy ad A) A) (tmXX tm_shC 256 D cy ad A 0 z) args s 1 6 A) 2 D cy tm_shC ad 256 [] A z 0 [(0, .ref (ad 247)), (1, .int x1)] [] v (f_X7_copy x1 v) := by
  unfold f_X7_copy
  refine tg_iload_n 1 C0 dX7_copy_0 rfl rfl ?_
  refine tg_iconst (x := 1) C0 dX7_copy_1 (by decide) ?_
  refine tg_icmp_lt 15 C0 dX7_copy_2 (by decide) (fun _ => ?_) (fun _ => ?_)
  · exact w_X7_copy_15 C0 hl hE hout x1 v
  · refine tg_iload_n 1 C0 dX7_copy_5 rfl rfl ?_
    refine tg_bipush (x := 15) C0 dX7_copy_6 (by decide) ?_
    refine tg_icmp_gt 15 C0 dX7_copy_8 (by decide) (fun _ => ?_) (fun _ => ?_)
    · exact w_X7_copy_15 C0 hl hE hout x1 v
    · refine tg_iconst (x := 1) C0 dX7_copy_11 (by decide) ?_
      refine tg_goto 16 C0 dX7_copy_12 (by decide) ?_
      exact w_X7_copy_16 C0 hl hE hout x1 1 v
theorem c_X7_copy (l : Launch) (hl : l.stackTraces = false) (x1 : Int32) (v : tmM) : tmXi tm_NWC tm_shC 256 l yX7_copy (Cond.code yX7_copy cX7_copy 2 (some .int) :: TMW) ({ frames := 7, cells := 1, slots := 6, locals := 154 } : Room) (fun ad => [.ref (ad 247), .int x1]) v 1 6 (f_X7_copy x1 v) :=
  tmXi.of (cc := cX7_copy) (nL := 2) (by decide +kernel) rfl tm_NWC_ok (fun _ => Nat.le_of_ble_eq_true rfl) (fun p e s m args below meth c A D cy ad z C0 hE hout => w_X7_copy C0 hl hE hout x1 v)
-- ----- X7_repair
theorem dX7_repair_0 : decode cX7_repair 0 = .ok (.iload_n 1, 1) := by decide +kernel
theorem dX7_repair_1 : decode cX7_repair 1 = .ok (.iconst 1, 1) := by decide +kernel
theorem dX7_repair_2 : decode cX7_repair 2 = .ok (.if_icmp .lt 13, 3) := by decide +kernel
theorem dX7_repair_5 : decode cX7_repair 5 = .ok (.iload_n 1, 1) := by decide +kernel
theorem dX7_repair_6 : decode cX7_repair 6 = .ok (.bipush 15, 2) := by decide +kernel
theorem dX7_repair_8 : decode cX7_repair 8 = .ok (.if_icmp .gt 7, 3) := by decide +kernel
theorem dX7_repair_11 : decode cX7_repair 11 = .ok (.iconst 1, 1) := by decide +kernel
theorem dX7_repair_12 : decode cX7_repair 12 = .ok (.goto 4, 3) := by decide +kernel
theorem dX7_repair_15 : decode cX7_repair 15 = .ok (.iconst 0, 1) := by decide +kernel
theorem dX7_repair_16 : decode cX7_repair 16 = .ok (.invokestatic 53, 3) := by decide +kernel
theorem dX7_repair_19 : decode cX7_repair 19 = .ok (.aload_n 0, 1) := by decide +kernel
theorem dX7_repair_20 : decode cX7_repair 20 = .ok (.iconst 2, 1) := by decide +kernel
theorem dX7_repair_21 : decode cX7_repair 21 = .ok (.iload_n 1, 1) := by decide +kernel
theorem dX7_repair_22 : decode cX7_repair 22 = .ok (.invokevirtual 82, 3) := by decide +kernel
theorem dX7_repair_25 : decode cX7_repair 25 = .ok (.ireturn, 1) := by decide +kernel
def f_X7_repair_16 (x1 s0 : Int32) (v : tmM) : Option (tmR) := tm_cx (f_X7_requireArgument s0 v) (fun _ v1 => tm_cl (f_X7_attempt 2 x1 v1) fun r3 v2 => some ((0, r3), v2)) 0
set_option maxRecDepth 100000 in
set_option maxHeartbeats 4000000 in
theorem w_X7_repair_16 {p : Program} {l : Launch} {e : Env} {s : State} {m : MethodId} {args : Array Value} {below : List Frame} {meth : Method} {c : Code} {D : va_G} {cy : Nat → ClassId} {ad : Nat → Nat} {A : Nat → Prop} {z : (tmR)} (C0 : tmC p s m args meth c cX7_repair 2 (some .int) RX7 TMW tm_NWC D cy tm_shC ad 256 [] A) (hl : l.stackTraces = false) (hE : tmTh A s s.heap) (hout : ∀ x ∈ c.exceptionTable.toList, False) (x1 s0 : Int32) (v : tmM) : tmG p l e ({ frames := 7, cells := 1, slots := 6, locals := 154 } : Room) s m args below meth c 0 0 (vx_MQ below (va_Qi (fun r u => z = ((0, r), u)) (tmAt tm_shC 256 D cy ad A) A) (tmXX tm_shC 256 D cy ad A 0 z) args s 1 6 A) 2 D cy tm_shC ad 256 [] A z 16 [(0, .ref (ad 247)), (1, .int x1)] [.int s0] v (f_X7_repair_16 x1 s0 v) := by
  unfold f_X7_repair_16
  refine tg_callSxi (As := [.int s0]) 1 C0 hE hout dX7_repair_16 (c_X7_requireArgument l hl s0 v) rfl rfl (tm_gS tl_X7_53 tst_X7_requireArgument tn_X7 tc_X7_requireArgument) rfl rfl rfl rfl (by decide +kernel) ⟨by decide, by decide⟩ (Nat.le_of_ble_eq_true rfl) ⟨by decide, by decide⟩ ⟨by decide, by decide⟩ (fun v1 _ => ?_)
  refine tg_aload_n 0 C0 dX7_repair_19 rfl rfl ?_
  refine tg_iconst (x := 2) C0 dX7_repair_20 (by decide) ?_
  refine tg_iload_n 1 C0 dX7_repair_21 rfl rfl ?_
  refine tg_callVi (As := [.int 2, .int x1]) 247 2 C0 dX7_repair_22 (c_X7_attempt l 2 x1 v1) rfl rfl (by decide) rfl rfl (tm_gV tl_X7_82 ti_X7_attempt ts_X7_attempt tn_X7 tc_X7_attempt)  rfl rfl rfl rfl (by decide +kernel) ⟨by decide, by decide⟩ (Nat.le_of_ble_eq_true rfl) ⟨by decide, by decide⟩ (fun r3 v2 _ => ?_)
  exact tg_xiret C0 dX7_repair_25 ⟨by decide, by decide⟩
def f_X7_repair_15 (x1 : Int32) (v : tmM) : Option (tmR) := f_X7_repair_16 x1 0 v
set_option maxRecDepth 100000 in
set_option maxHeartbeats 4000000 in
theorem w_X7_repair_15 {p : Program} {l : Launch} {e : Env} {s : State} {m : MethodId} {args : Array Value} {below : List Frame} {meth : Method} {c : Code} {D : va_G} {cy : Nat → ClassId} {ad : Nat → Nat} {A : Nat → Prop} {z : (tmR)} (C0 : tmC p s m args meth c cX7_repair 2 (some .int) RX7 TMW tm_NWC D cy tm_shC ad 256 [] A) (hl : l.stackTraces = false) (hE : tmTh A s s.heap) (hout : ∀ x ∈ c.exceptionTable.toList, False) (x1 : Int32) (v : tmM) : tmG p l e ({ frames := 7, cells := 1, slots := 6, locals := 154 } : Room) s m args below meth c 0 0 (vx_MQ below (va_Qi (fun r u => z = ((0, r), u)) (tmAt tm_shC 256 D cy ad A) A) (tmXX tm_shC 256 D cy ad A 0 z) args s 1 6 A) 2 D cy tm_shC ad 256 [] A z 15 [(0, .ref (ad 247)), (1, .int x1)] [] v (f_X7_repair_15 x1 v) := by
  unfold f_X7_repair_15
  refine tg_iconst (x := 0) C0 dX7_repair_15 (by decide) ?_
  exact w_X7_repair_16 C0 hl hE hout x1 0 v
def f_X7_repair (x1 : Int32) (v : tmM) : Option (tmR) := (if x1 < 1 then f_X7_repair_15 x1 v else (if 15 < x1 then f_X7_repair_15 x1 v else f_X7_repair_16 x1 1 v))
set_option maxRecDepth 100000 in
set_option maxHeartbeats 4000000 in
theorem w_X7_repair {p : Program} {l : Launch} {e : Env} {s : State} {m : MethodId} {args : Array Value} {below : List Frame} {meth : Method} {c : Code} {D : va_G} {cy : Nat → ClassId} {ad : Nat → Nat} {A : Nat → Prop} {z : (tmR)} (C0 : tmC p s m args meth c cX7_repair 2 (some .int) RX7 TMW tm_NWC D cy tm_shC ad 256 [] A) (hl : l.stackTraces = false) (hE : tmTh A s s.heap) (hout : ∀ x ∈ c.exceptionTable.toList, False) (x1 : Int32) (v : tmM) : tmG p l e ({ frames := 7, cells := 1, slots := 6, locals := 154 } : Room) s m args below meth c 0 0 (vx_MQ below (va_Qi (fun r u => z = ((0, r), u)) (tmAt tm_shC 256 D cy ad A) A) (tmXX tm_shC 256 D cy ad A 0 z) args s 1 6 A) 2 D cy tm_shC ad 256 [] A z 0 [(0, .ref (ad 247)), (1, .int x1)] [] v (f_X7_repair x1 v) := by
  unfold f_X7_repair
  refine tg_iload_n 1 C0 dX7_repair_0 rfl rfl ?_
  refine tg_iconst (x := 1) C0 dX7_repair_1 (by decide) ?_
  refine tg_icmp_lt 15 C0 dX7_repair_2 (by decide) (fun _ => ?_) (fun _ => ?_)
  · exact w_X7_repair_15 C0 hl hE hout x1 v
  · refine tg_iload_n 1 C0 dX7_repair_5 rfl rfl ?_
    refine tg_bipush (x := 15) C0 dX7_repair_6 (by decide) ?_
    refine tg_icmp_gt 15 C0 dX7_repair_8 (by decide) (fun _ => ?_) (fun _ => ?_)
    · exact w_X7_repair_15 C0 hl hE hout x1 v
    · refine tg_iconst (x := 1) C0 dX7_repair_11 (by decide) ?_
      refine tg_goto 16 C0 dX7_repair_12 (by decide) ?_
      exact w_X7_repair_16 C0 hl hE hout x1 1 v
theorem c_X7_repair (l : Launch) (hl : l.stackTraces = false) (x1 : Int32) (v : tmM) : tmXi tm_NWC tm_shC 256 l yX7_repair (Cond.code yX7_repair cX7_repair 2 (some .int) :: TMW) ({ frames := 7, cells := 1, slots := 6, locals := 154 } : Room) (fun ad => [.ref (ad 247), .int x1]) v 1 6 (f_X7_repair x1 v) :=
  tmXi.of (cc := cX7_repair) (nL := 2) (by decide +kernel) rfl tm_NWC_ok (fun _ => Nat.le_of_ble_eq_true rfl) (fun p e s m args below meth c A D cy ad z C0 hE hout => w_X7_repair C0 hl hE hout x1 v)
-- ----- X7_check
theorem dX7_check_0 : decode cX7_check 0 = .ok (.iload_n 1, 1) := by decide +kernel
theorem dX7_check_1 : decode cX7_check 1 = .ok (.invokestatic 189, 3) := by decide +kernel
theorem dX7_check_4 : decode cX7_check 4 = .ok (.invokestatic 114, 3) := by decide +kernel
theorem dX7_check_7 : decode cX7_check 7 = .ok (.aload_n 0, 1) := by decide +kernel
theorem dX7_check_8 : decode cX7_check 8 = .ok (.iconst 3, 1) := by decide +kernel
theorem dX7_check_9 : decode cX7_check 9 = .ok (.iload_n 1, 1) := by decide +kernel
theorem dX7_check_10 : decode cX7_check 10 = .ok (.invokevirtual 82, 3) := by decide +kernel
theorem dX7_check_13 : decode cX7_check 13 = .ok (.ireturn, 1) := by decide +kernel
def f_X7_check (x1 : Int32) (v : tmM) : Option (tmR) := tm_cl (f_X7_isChunk x1 v) fun r2 v1 => tm_cx (f_X7_requireIndex r2 v1) (fun _ v3 => tm_cl (f_X7_attempt 3 x1 v3) fun r5 v4 => some ((0, r5), v4)) 0
set_option maxRecDepth 100000 in
set_option maxHeartbeats 4000000 in
theorem w_X7_check {p : Program} {l : Launch} {e : Env} {s : State} {m : MethodId} {args : Array Value} {below : List Frame} {meth : Method} {c : Code} {D : va_G} {cy : Nat → ClassId} {ad : Nat → Nat} {A : Nat → Prop} {z : (tmR)} (C0 : tmC p s m args meth c cX7_check 2 (some .int) RX7 TMW tm_NWC D cy tm_shC ad 256 [] A) (hl : l.stackTraces = false) (hE : tmTh A s s.heap) (hout : ∀ x ∈ c.exceptionTable.toList, False) (x1 : Int32) (v : tmM) : tmG p l e ({ frames := 7, cells := 1, slots := 6, locals := 154 } : Room) s m args below meth c 0 0 (vx_MQ below (va_Qi (fun r u => z = ((0, r), u)) (tmAt tm_shC 256 D cy ad A) A) (tmXX tm_shC 256 D cy ad A 0 z) args s 1 6 A) 2 D cy tm_shC ad 256 [] A z 0 [(0, .ref (ad 247)), (1, .int x1)] [] v (f_X7_check x1 v) := by
  unfold f_X7_check
  refine tg_iload_n 1 C0 dX7_check_0 rfl rfl ?_
  refine tg_callSi (As := [.int x1]) 1 C0 dX7_check_1 (c_X7_isChunk l x1 v) rfl rfl (tm_gc tc_X7_isChunk) tl_X7_189 tn_X7 tst_X7_isChunk  rfl rfl rfl rfl (by decide +kernel) ⟨by decide, by decide⟩ (Nat.le_of_ble_eq_true rfl) ⟨by decide, by decide⟩ (fun r2 v1 _ => ?_)
  refine tg_callSxi (As := [.int r2]) 1 C0 hE hout dX7_check_4 (c_X7_requireIndex l hl r2 v1) rfl rfl (tm_gS tl_X7_114 tst_X7_requireIndex tn_X7 tc_X7_requireIndex) rfl rfl rfl rfl (by decide +kernel) ⟨by decide, by decide⟩ (Nat.le_of_ble_eq_true rfl) ⟨by decide, by decide⟩ ⟨by decide, by decide⟩ (fun v3 _ => ?_)
  refine tg_aload_n 0 C0 dX7_check_7 rfl rfl ?_
  refine tg_iconst (x := 3) C0 dX7_check_8 (by decide) ?_
  refine tg_iload_n 1 C0 dX7_check_9 rfl rfl ?_
  refine tg_callVi (As := [.int 3, .int x1]) 247 2 C0 dX7_check_10 (c_X7_attempt l 3 x1 v3) rfl rfl (by decide) rfl rfl (tm_gV tl_X7_82 ti_X7_attempt ts_X7_attempt tn_X7 tc_X7_attempt)  rfl rfl rfl rfl (by decide +kernel) ⟨by decide, by decide⟩ (Nat.le_of_ble_eq_true rfl) ⟨by decide, by decide⟩ (fun r5 v4 _ => ?_)
  exact tg_xiret C0 dX7_check_13 ⟨by decide, by decide⟩
theorem c_X7_check (l : Launch) (hl : l.stackTraces = false) (x1 : Int32) (v : tmM) : tmXi tm_NWC tm_shC 256 l yX7_check (Cond.code yX7_check cX7_check 2 (some .int) :: TMW) ({ frames := 7, cells := 1, slots := 6, locals := 154 } : Room) (fun ad => [.ref (ad 247), .int x1]) v 1 6 (f_X7_check x1 v) :=
  tmXi.of (cc := cX7_check) (nL := 2) (by decide +kernel) rfl tm_NWC_ok (fun _ => Nat.le_of_ble_eq_true rfl) (fun p e s m args below meth c A D cy ad z C0 hE hout => w_X7_check C0 hl hE hout x1 v)
-- ----- X7_switchOver
theorem dX7_switchOver_0 : decode cX7_switchOver 0 = .ok (.iload_n 1, 1) := by decide +kernel
theorem dX7_switchOver_1 : decode cX7_switchOver 1 = .ok (.invokestatic 180, 3) := by decide +kernel
theorem dX7_switchOver_4 : decode cX7_switchOver 4 = .ok (.invokestatic 114, 3) := by decide +kernel
theorem dX7_switchOver_7 : decode cX7_switchOver 7 = .ok (.aload_n 0, 1) := by decide +kernel
theorem dX7_switchOver_8 : decode cX7_switchOver 8 = .ok (.iconst 4, 1) := by decide +kernel
theorem dX7_switchOver_9 : decode cX7_switchOver 9 = .ok (.iload_n 1, 1) := by decide +kernel
theorem dX7_switchOver_10 : decode cX7_switchOver 10 = .ok (.invokevirtual 82, 3) := by decide +kernel
theorem dX7_switchOver_13 : decode cX7_switchOver 13 = .ok (.ireturn, 1) := by decide +kernel
def f_X7_switchOver (x1 : Int32) (v : tmM) : Option (tmR) := tm_cl (f_X7_isReader x1 v) fun r2 v1 => tm_cx (f_X7_requireIndex r2 v1) (fun _ v3 => tm_cl (f_X7_attempt 4 x1 v3) fun r5 v4 => some ((0, r5), v4)) 0
set_option maxRecDepth 100000 in
set_option maxHeartbeats 4000000 in
theorem w_X7_switchOver {p : Program} {l : Launch} {e : Env} {s : State} {m : MethodId} {args : Array Value} {below : List Frame} {meth : Method} {c : Code} {D : va_G} {cy : Nat → ClassId} {ad : Nat → Nat} {A : Nat → Prop} {z : (tmR)} (C0 : tmC p s m args meth c cX7_switchOver 2 (some .int) RX7 TMW tm_NWC D cy tm_shC ad 256 [] A) (hl : l.stackTraces = false) (hE : tmTh A s s.heap) (hout : ∀ x ∈ c.exceptionTable.toList, False) (x1 : Int32) (v : tmM) : tmG p l e ({ frames := 7, cells := 1, slots := 6, locals := 154 } : Room) s m args below meth c 0 0 (vx_MQ below (va_Qi (fun r u => z = ((0, r), u)) (tmAt tm_shC 256 D cy ad A) A) (tmXX tm_shC 256 D cy ad A 0 z) args s 1 6 A) 2 D cy tm_shC ad 256 [] A z 0 [(0, .ref (ad 247)), (1, .int x1)] [] v (f_X7_switchOver x1 v) := by
  unfold f_X7_switchOver
  refine tg_iload_n 1 C0 dX7_switchOver_0 rfl rfl ?_
  refine tg_callSi (As := [.int x1]) 1 C0 dX7_switchOver_1 (c_X7_isReader l x1 v) rfl rfl (tm_gc tc_X7_isReader) tl_X7_180 tn_X7 tst_X7_isReader  rfl rfl rfl rfl (by decide +kernel) ⟨by decide, by decide⟩ (Nat.le_of_ble_eq_true rfl) ⟨by decide, by decide⟩ (fun r2 v1 _ => ?_)
  refine tg_callSxi (As := [.int r2]) 1 C0 hE hout dX7_switchOver_4 (c_X7_requireIndex l hl r2 v1) rfl rfl (tm_gS tl_X7_114 tst_X7_requireIndex tn_X7 tc_X7_requireIndex) rfl rfl rfl rfl (by decide +kernel) ⟨by decide, by decide⟩ (Nat.le_of_ble_eq_true rfl) ⟨by decide, by decide⟩ ⟨by decide, by decide⟩ (fun v3 _ => ?_)
  refine tg_aload_n 0 C0 dX7_switchOver_7 rfl rfl ?_
  refine tg_iconst (x := 4) C0 dX7_switchOver_8 (by decide) ?_
  refine tg_iload_n 1 C0 dX7_switchOver_9 rfl rfl ?_
  refine tg_callVi (As := [.int 4, .int x1]) 247 2 C0 dX7_switchOver_10 (c_X7_attempt l 4 x1 v3) rfl rfl (by decide) rfl rfl (tm_gV tl_X7_82 ti_X7_attempt ts_X7_attempt tn_X7 tc_X7_attempt)  rfl rfl rfl rfl (by decide +kernel) ⟨by decide, by decide⟩ (Nat.le_of_ble_eq_true rfl) ⟨by decide, by decide⟩ (fun r5 v4 _ => ?_)
  exact tg_xiret C0 dX7_switchOver_13 ⟨by decide, by decide⟩
theorem c_X7_switchOver (l : Launch) (hl : l.stackTraces = false) (x1 : Int32) (v : tmM) : tmXi tm_NWC tm_shC 256 l yX7_switchOver (Cond.code yX7_switchOver cX7_switchOver 2 (some .int) :: TMW) ({ frames := 7, cells := 1, slots := 6, locals := 154 } : Room) (fun ad => [.ref (ad 247), .int x1]) v 1 6 (f_X7_switchOver x1 v) :=
  tmXi.of (cc := cX7_switchOver) (nL := 2) (by decide +kernel) rfl tm_NWC_ok (fun _ => Nat.le_of_ble_eq_true rfl) (fun p e s m args below meth c A D cy ad z C0 hE hout => w_X7_switchOver C0 hl hE hout x1 v)
-- ----- X7_switchBack
theorem dX7_switchBack_0 : decode cX7_switchBack 0 = .ok (.iload_n 1, 1) := by decide +kernel
theorem dX7_switchBack_1 : decode cX7_switchBack 1 = .ok (.invokestatic 180, 3) := by decide +kernel
theorem dX7_switchBack_4 : decode cX7_switchBack 4 = .ok (.invokestatic 114, 3) := by decide +kernel
theorem dX7_switchBack_7 : decode cX7_switchBack 7 = .ok (.aload_n 0, 1) := by decide +kernel
theorem dX7_switchBack_8 : decode cX7_switchBack 8 = .ok (.iconst 5, 1) := by decide +kernel
theorem dX7_switchBack_9 : decode cX7_switchBack 9 = .ok (.iload_n 1, 1) := by decide +kernel
theorem dX7_switchBack_10 : decode cX7_switchBack 10 = .ok (.invokevirtual 82, 3) := by decide +kernel
theorem dX7_switchBack_13 : decode cX7_switchBack 13 = .ok (.ireturn, 1) := by decide +kernel
def f_X7_switchBack (x1 : Int32) (v : tmM) : Option (tmR) := tm_cl (f_X7_isReader x1 v) fun r2 v1 => tm_cx (f_X7_requireIndex r2 v1) (fun _ v3 => tm_cl (f_X7_attempt 5 x1 v3) fun r5 v4 => some ((0, r5), v4)) 0
set_option maxRecDepth 100000 in
set_option maxHeartbeats 4000000 in
theorem w_X7_switchBack {p : Program} {l : Launch} {e : Env} {s : State} {m : MethodId} {args : Array Value} {below : List Frame} {meth : Method} {c : Code} {D : va_G} {cy : Nat → ClassId} {ad : Nat → Nat} {A : Nat → Prop} {z : (tmR)} (C0 : tmC p s m args meth c cX7_switchBack 2 (some .int) RX7 TMW tm_NWC D cy tm_shC ad 256 [] A) (hl : l.stackTraces = false) (hE : tmTh A s s.heap) (hout : ∀ x ∈ c.exceptionTable.toList, False) (x1 : Int32) (v : tmM) : tmG p l e ({ frames := 7, cells := 1, slots := 6, locals := 154 } : Room) s m args below meth c 0 0 (vx_MQ below (va_Qi (fun r u => z = ((0, r), u)) (tmAt tm_shC 256 D cy ad A) A) (tmXX tm_shC 256 D cy ad A 0 z) args s 1 6 A) 2 D cy tm_shC ad 256 [] A z 0 [(0, .ref (ad 247)), (1, .int x1)] [] v (f_X7_switchBack x1 v) := by
  unfold f_X7_switchBack
  refine tg_iload_n 1 C0 dX7_switchBack_0 rfl rfl ?_
  refine tg_callSi (As := [.int x1]) 1 C0 dX7_switchBack_1 (c_X7_isReader l x1 v) rfl rfl (tm_gc tc_X7_isReader) tl_X7_180 tn_X7 tst_X7_isReader  rfl rfl rfl rfl (by decide +kernel) ⟨by decide, by decide⟩ (Nat.le_of_ble_eq_true rfl) ⟨by decide, by decide⟩ (fun r2 v1 _ => ?_)
  refine tg_callSxi (As := [.int r2]) 1 C0 hE hout dX7_switchBack_4 (c_X7_requireIndex l hl r2 v1) rfl rfl (tm_gS tl_X7_114 tst_X7_requireIndex tn_X7 tc_X7_requireIndex) rfl rfl rfl rfl (by decide +kernel) ⟨by decide, by decide⟩ (Nat.le_of_ble_eq_true rfl) ⟨by decide, by decide⟩ ⟨by decide, by decide⟩ (fun v3 _ => ?_)
  refine tg_aload_n 0 C0 dX7_switchBack_7 rfl rfl ?_
  refine tg_iconst (x := 5) C0 dX7_switchBack_8 (by decide) ?_
  refine tg_iload_n 1 C0 dX7_switchBack_9 rfl rfl ?_
  refine tg_callVi (As := [.int 5, .int x1]) 247 2 C0 dX7_switchBack_10 (c_X7_attempt l 5 x1 v3) rfl rfl (by decide) rfl rfl (tm_gV tl_X7_82 ti_X7_attempt ts_X7_attempt tn_X7 tc_X7_attempt)  rfl rfl rfl rfl (by decide +kernel) ⟨by decide, by decide⟩ (Nat.le_of_ble_eq_true rfl) ⟨by decide, by decide⟩ (fun r5 v4 _ => ?_)
  exact tg_xiret C0 dX7_switchBack_13 ⟨by decide, by decide⟩
theorem c_X7_switchBack (l : Launch) (hl : l.stackTraces = false) (x1 : Int32) (v : tmM) : tmXi tm_NWC tm_shC 256 l yX7_switchBack (Cond.code yX7_switchBack cX7_switchBack 2 (some .int) :: TMW) ({ frames := 7, cells := 1, slots := 6, locals := 154 } : Room) (fun ad => [.ref (ad 247), .int x1]) v 1 6 (f_X7_switchBack x1 v) :=
  tmXi.of (cc := cX7_switchBack) (nL := 2) (by decide +kernel) rfl tm_NWC_ok (fun _ => Nat.le_of_ble_eq_true rfl) (fun p e s m args below meth c A D cy ad z C0 hE hout => w_X7_switchBack C0 hl hE hout x1 v)
-- ----- X7_fill
theorem dX7_fill_0 : decode cX7_fill 0 = .ok (.iload_n 1, 1) := by decide +kernel
theorem dX7_fill_1 : decode cX7_fill 1 = .ok (.iload_n 2, 1) := by decide +kernel
theorem dX7_fill_2 : decode cX7_fill 2 = .ok (.invokestatic 231, 3) := by decide +kernel
theorem dX7_fill_5 : decode cX7_fill 5 = .ok (.invokestatic 114, 3) := by decide +kernel
theorem dX7_fill_8 : decode cX7_fill 8 = .ok (.iload_n 3, 1) := by decide +kernel
theorem dX7_fill_9 : decode cX7_fill 9 = .ok (.invokestatic 228, 3) := by decide +kernel
theorem dX7_fill_12 : decode cX7_fill 12 = .ok (.ifCond .eq 15, 3) := by decide +kernel
theorem dX7_fill_15 : decode cX7_fill 15 = .ok (.iload 4, 2) := by decide +kernel
theorem dX7_fill_17 : decode cX7_fill 17 = .ok (.invokestatic 228, 3) := by decide +kernel
theorem dX7_fill_20 : decode cX7_fill 20 = .ok (.ifCond .eq 7, 3) := by decide +kernel
theorem dX7_fill_23 : decode cX7_fill 23 = .ok (.iconst 1, 1) := by decide +kernel
theorem dX7_fill_24 : decode cX7_fill 24 = .ok (.goto 4, 3) := by decide +kernel
theorem dX7_fill_27 : decode cX7_fill 27 = .ok (.iconst 0, 1) := by decide +kernel
theorem dX7_fill_28 : decode cX7_fill 28 = .ok (.invokestatic 53, 3) := by decide +kernel
theorem dX7_fill_31 : decode cX7_fill 31 = .ok (.aload_n 0, 1) := by decide +kernel
theorem dX7_fill_32 : decode cX7_fill 32 = .ok (.iload_n 1, 1) := by decide +kernel
theorem dX7_fill_33 : decode cX7_fill 33 = .ok (.iload_n 2, 1) := by decide +kernel
theorem dX7_fill_34 : decode cX7_fill 34 = .ok (.iload_n 3, 1) := by decide +kernel
theorem dX7_fill_35 : decode cX7_fill 35 = .ok (.iload 4, 2) := by decide +kernel
theorem dX7_fill_37 : decode cX7_fill 37 = .ok (.invokevirtual 74, 3) := by decide +kernel
theorem dX7_fill_40 : decode cX7_fill 40 = .ok (.ireturn, 1) := by decide +kernel
theorem tc_X7_isRange : Cond.code yX7_isRange cX7_isRange 2 (some .boolean) ∈ TMW := tm_in 1122 (by decide +kernel) (by decide +kernel)
theorem tl_X7_231 : Cond.methodLink RX7 231 yX7_isRange ∈ TMW := tm_in 1120 (by decide +kernel) (by decide +kernel)
theorem tst_X7_isRange : Cond.static yX7_isRange ∈ TMW := tm_in 1121 (by decide +kernel) (by decide +kernel)
def f_X7_fill_28 (x1 x2 x3 x4 s0 : Int32) (v : tmM) : Option (tmR) := tm_cx (f_X7_requireArgument s0 v) (fun _ v6 => tm_cl (f_X7_writeRows x1 x2 x3 x4 v6) fun r8 v7 => some ((0, r8), v7)) 0
set_option maxRecDepth 100000 in
set_option maxHeartbeats 4000000 in
theorem w_X7_fill_28 {p : Program} {l : Launch} {e : Env} {s : State} {m : MethodId} {args : Array Value} {below : List Frame} {meth : Method} {c : Code} {D : va_G} {cy : Nat → ClassId} {ad : Nat → Nat} {A : Nat → Prop} {z : (tmR)} (C0 : tmC p s m args meth c cX7_fill 5 (some .int) RX7 TMW tm_NWC D cy tm_shC ad 256 [] A) (hl : l.stackTraces = false) (hE : tmTh A s s.heap) (hout : ∀ x ∈ c.exceptionTable.toList, False) (x1 x2 x3 x4 s0 : Int32) (v : tmM) : tmG p l e ({ frames := 7, cells := 2, slots := 12, locals := 150 } : Room) s m args below meth c 1 6 (vx_MQ below (va_Qi (fun r u => z = ((0, r), u)) (tmAt tm_shC 256 D cy ad A) A) (tmXX tm_shC 256 D cy ad A 0 z) args s 2 12 A) 5 D cy tm_shC ad 256 [] A z 28 [(0, .ref (ad 247)), (1, .int x1), (2, .int x2), (3, .int x3), (4, .int x4)] [.int s0] v (f_X7_fill_28 x1 x2 x3 x4 s0 v) := by
  unfold f_X7_fill_28
  refine tg_callSxi (As := [.int s0]) 1 C0 hE hout dX7_fill_28 (c_X7_requireArgument l hl s0 v) rfl rfl (tm_gS tl_X7_53 tst_X7_requireArgument tn_X7 tc_X7_requireArgument) rfl rfl rfl rfl (by decide +kernel) ⟨by decide, by decide⟩ (Nat.le_of_ble_eq_true rfl) ⟨by decide, by decide⟩ ⟨by decide, by decide⟩ (fun v6 _ => ?_)
  refine tg_aload_n 0 C0 dX7_fill_31 rfl rfl ?_
  refine tg_iload_n 1 C0 dX7_fill_32 rfl rfl ?_
  refine tg_iload_n 2 C0 dX7_fill_33 rfl rfl ?_
  refine tg_iload_n 3 C0 dX7_fill_34 rfl rfl ?_
  refine tg_iload 4 C0 dX7_fill_35 rfl ?_
  refine tg_callVi (As := [.int x1, .int x2, .int x3, .int x4]) 247 4 C0 dX7_fill_37 (c_X7_writeRows l x1 x2 x3 x4 v6) rfl rfl (by decide) rfl rfl (tm_gV tl_X7_74 ti_X7_writeRows ts_X7_writeRows tn_X7 tc_X7_writeRows)  rfl rfl rfl rfl (by decide +kernel) ⟨by decide, by decide⟩ (Nat.le_of_ble_eq_true rfl) ⟨by decide, by decide⟩ (fun r8 v7 _ => ?_)
  exact tg_xiret C0 dX7_fill_40 ⟨by decide, by decide⟩
def f_X7_fill_27 (x1 x2 x3 x4 : Int32) (v : tmM) : Option (tmR) := f_X7_fill_28 x1 x2 x3 x4 0 v
set_option maxRecDepth 100000 in
set_option maxHeartbeats 4000000 in
theorem w_X7_fill_27 {p : Program} {l : Launch} {e : Env} {s : State} {m : MethodId} {args : Array Value} {below : List Frame} {meth : Method} {c : Code} {D : va_G} {cy : Nat → ClassId} {ad : Nat → Nat} {A : Nat → Prop} {z : (tmR)} (C0 : tmC p s m args meth c cX7_fill 5 (some .int) RX7 TMW tm_NWC D cy tm_shC ad 256 [] A) (hl : l.stackTraces = false) (hE : tmTh A s s.heap) (hout : ∀ x ∈ c.exceptionTable.toList, False) (x1 x2 x3 x4 : Int32) (v : tmM) : tmG p l e ({ frames := 7, cells := 2, slots := 12, locals := 150 } : Room) s m args below meth c 1 6 (vx_MQ below (va_Qi (fun r u => z = ((0, r), u)) (tmAt tm_shC 256 D cy ad A) A) (tmXX tm_shC 256 D cy ad A 0 z) args s 2 12 A) 5 D cy tm_shC ad 256 [] A z 27 [(0, .ref (ad 247)), (1, .int x1), (2, .int x2), (3, .int x3), (4, .int x4)] [] v (f_X7_fill_27 x1 x2 x3 x4 v) := by
  unfold f_X7_fill_27
  refine tg_iconst (x := 0) C0 dX7_fill_27 (by decide) ?_
  exact w_X7_fill_28 C0 hl hE hout x1 x2 x3 x4 0 v
def f_X7_fill (x1 x2 x3 x4 : Int32) (v : tmM) : Option (tmR) := tm_cl (f_X7_isRange x1 x2 v) fun r2 v1 => tm_cx (f_X7_requireIndex r2 v1) (fun _ v3 => tm_cl (f_X7_isValue x3 v3) fun r5 v4 => (if r5 = 0 then f_X7_fill_27 x1 x2 x3 x4 v4 else tm_cl (f_X7_isValue x4 v4) fun r10 v9 => (if r10 = 0 then f_X7_fill_27 x1 x2 x3 x4 v9 else f_X7_fill_28 x1 x2 x3 x4 1 v9))) 0
set_option maxRecDepth 100000 in
set_option maxHeartbeats 4000000 in
theorem w_X7_fill {p : Program} {l : Launch} {e : Env} {s : State} {m : MethodId} {args : Array Value} {below : List Frame} {meth : Method} {c : Code} {D : va_G} {cy : Nat → ClassId} {ad : Nat → Nat} {A : Nat → Prop} {z : (tmR)} (C0 : tmC p s m args meth c cX7_fill 5 (some .int) RX7 TMW tm_NWC D cy tm_shC ad 256 [] A) (hl : l.stackTraces = false) (hE : tmTh A s s.heap) (hout : ∀ x ∈ c.exceptionTable.toList, False) (x1 x2 x3 x4 : Int32) (v : tmM) : tmG p l e ({ frames := 7, cells := 2, slots := 12, locals := 150 } : Room) s m args below meth c 0 0 (vx_MQ below (va_Qi (fun r u => z = ((0, r), u)) (tmAt tm_shC 256 D cy ad A) A) (tmXX tm_shC 256 D cy ad A 0 z) args s 2 12 A) 5 D cy tm_shC ad 256 [] A z 0 [(0, .ref (ad 247)), (1, .int x1), (2, .int x2), (3, .int x3), (4, .int x4)] [] v (f_X7_fill x1 x2 x3 x4 v) := by
  unfold f_X7_fill
  refine tg_iload_n 1 C0 dX7_fill_0 rfl rfl ?_
  refine tg_iload_n 2 C0 dX7_fill_1 rfl rfl ?_
  refine tg_callSi (As := [.int x1, .int x2]) 2 C0 dX7_fill_2 (c_X7_isRange l x1 x2 v) rfl rfl (tm_gc tc_X7_isRange) tl_X7_231 tn_X7 tst_X7_isRange  rfl rfl rfl rfl (by decide +kernel) ⟨by decide, by decide⟩ (Nat.le_of_ble_eq_true rfl) ⟨by decide, by decide⟩ (fun r2 v1 _ => ?_)
  refine tg_callSxi (As := [.int r2]) 1 C0 hE hout dX7_fill_5 (c_X7_requireIndex l hl r2 v1) rfl rfl (tm_gS tl_X7_114 tst_X7_requireIndex tn_X7 tc_X7_requireIndex) rfl rfl rfl rfl (by decide +kernel) ⟨by decide, by decide⟩ (Nat.le_of_ble_eq_true rfl) ⟨by decide, by decide⟩ ⟨by decide, by decide⟩ (fun v3 _ => ?_)
  refine tg_iload_n 3 C0 dX7_fill_8 rfl rfl ?_
  refine tg_callSi (As := [.int x3]) 1 C0 dX7_fill_9 (c_X7_isValue l x3 v3) rfl rfl (tm_gc tc_X7_isValue) tl_X7_228 tn_X7 tst_X7_isValue  rfl rfl rfl rfl (by decide +kernel) ⟨by decide, by decide⟩ (Nat.le_of_ble_eq_true rfl) ⟨by decide, by decide⟩ (fun r5 v4 _ => ?_)
  refine tg_if_eq 27 C0 dX7_fill_12 (by decide) (fun _ => ?_) (fun _ => ?_)
  · exact w_X7_fill_27 C0 hl hE hout x1 x2 x3 x4 v4
  · refine tg_iload 4 C0 dX7_fill_15 rfl ?_
    refine tg_callSi (As := [.int x4]) 1 C0 dX7_fill_17 (c_X7_isValue l x4 v4) rfl rfl (tm_gc tc_X7_isValue) tl_X7_228 tn_X7 tst_X7_isValue  rfl rfl rfl rfl (by decide +kernel) ⟨by decide, by decide⟩ (Nat.le_of_ble_eq_true rfl) ⟨by decide, by decide⟩ (fun r10 v9 _ => ?_)
    refine tg_if_eq 27 C0 dX7_fill_20 (by decide) (fun _ => ?_) (fun _ => ?_)
    · exact w_X7_fill_27 C0 hl hE hout x1 x2 x3 x4 v9
    · refine tg_iconst (x := 1) C0 dX7_fill_23 (by decide) ?_
      refine tg_goto 28 C0 dX7_fill_24 (by decide) ?_
      exact w_X7_fill_28 C0 hl hE hout x1 x2 x3 x4 1 v9
theorem c_X7_fill (l : Launch) (hl : l.stackTraces = false) (x1 x2 x3 x4 : Int32) (v : tmM) : tmXi tm_NWC tm_shC 256 l yX7_fill (Cond.code yX7_fill cX7_fill 5 (some .int) :: TMW) ({ frames := 7, cells := 2, slots := 12, locals := 150 } : Room) (fun ad => [.ref (ad 247), .int x1, .int x2, .int x3, .int x4]) v 2 12 (f_X7_fill x1 x2 x3 x4 v) :=
  tmXi.of (cc := cX7_fill) (nL := 5) (by decide +kernel) rfl tm_NWC_ok (fun _ => Nat.le_of_ble_eq_true rfl) (fun p e s m args below meth c A D cy ad z C0 hE hout => w_X7_fill C0 hl hE hout x1 x2 x3 x4 v)
-- ----- X7_clearRange
theorem dX7_clearRange_0 : decode cX7_clearRange 0 = .ok (.iload_n 1, 1) := by decide +kernel
theorem dX7_clearRange_1 : decode cX7_clearRange 1 = .ok (.iload_n 2, 1) := by decide +kernel
theorem dX7_clearRange_2 : decode cX7_clearRange 2 = .ok (.invokestatic 231, 3) := by decide +kernel
theorem dX7_clearRange_5 : decode cX7_clearRange 5 = .ok (.invokestatic 114, 3) := by decide +kernel
theorem dX7_clearRange_8 : decode cX7_clearRange 8 = .ok (.aload_n 0, 1) := by decide +kernel
theorem dX7_clearRange_9 : decode cX7_clearRange 9 = .ok (.iload_n 1, 1) := by decide +kernel
theorem dX7_clearRange_10 : decode cX7_clearRange 10 = .ok (.iload_n 2, 1) := by decide +kernel
theorem dX7_clearRange_11 : decode cX7_clearRange 11 = .ok (.invokevirtual 78, 3) := by decide +kernel
theorem dX7_clearRange_14 : decode cX7_clearRange 14 = .ok (.ireturn, 1) := by decide +kernel
def f_X7_clearRange (x1 x2 : Int32) (v : tmM) : Option (tmR) := tm_cl (f_X7_isRange x1 x2 v) fun r2 v1 => tm_cx (f_X7_requireIndex r2 v1) (fun _ v3 => tm_cl (f_X7_removeRows x1 x2 v3) fun r5 v4 => some ((0, r5), v4)) 0
set_option maxRecDepth 100000 in
set_option maxHeartbeats 4000000 in
theorem w_X7_clearRange {p : Program} {l : Launch} {e : Env} {s : State} {m : MethodId} {args : Array Value} {below : List Frame} {meth : Method} {c : Code} {D : va_G} {cy : Nat → ClassId} {ad : Nat → Nat} {A : Nat → Prop} {z : (tmR)} (C0 : tmC p s m args meth c cX7_clearRange 3 (some .int) RX7 TMW tm_NWC D cy tm_shC ad 256 [] A) (hl : l.stackTraces = false) (hE : tmTh A s s.heap) (hout : ∀ x ∈ c.exceptionTable.toList, False) (x1 x2 : Int32) (v : tmM) : tmG p l e ({ frames := 7, cells := 1, slots := 6, locals := 148 } : Room) s m args below meth c 0 0 (vx_MQ below (va_Qi (fun r u => z = ((0, r), u)) (tmAt tm_shC 256 D cy ad A) A) (tmXX tm_shC 256 D cy ad A 0 z) args s 1 6 A) 3 D cy tm_shC ad 256 [] A z 0 [(0, .ref (ad 247)), (1, .int x1), (2, .int x2)] [] v (f_X7_clearRange x1 x2 v) := by
  unfold f_X7_clearRange
  refine tg_iload_n 1 C0 dX7_clearRange_0 rfl rfl ?_
  refine tg_iload_n 2 C0 dX7_clearRange_1 rfl rfl ?_
  refine tg_callSi (As := [.int x1, .int x2]) 2 C0 dX7_clearRange_2 (c_X7_isRange l x1 x2 v) rfl rfl (tm_gc tc_X7_isRange) tl_X7_231 tn_X7 tst_X7_isRange  rfl rfl rfl rfl (by decide +kernel) ⟨by decide, by decide⟩ (Nat.le_of_ble_eq_true rfl) ⟨by decide, by decide⟩ (fun r2 v1 _ => ?_)
  refine tg_callSxi (As := [.int r2]) 1 C0 hE hout dX7_clearRange_5 (c_X7_requireIndex l hl r2 v1) rfl rfl (tm_gS tl_X7_114 tst_X7_requireIndex tn_X7 tc_X7_requireIndex) rfl rfl rfl rfl (by decide +kernel) ⟨by decide, by decide⟩ (Nat.le_of_ble_eq_true rfl) ⟨by decide, by decide⟩ ⟨by decide, by decide⟩ (fun v3 _ => ?_)
  refine tg_aload_n 0 C0 dX7_clearRange_8 rfl rfl ?_
  refine tg_iload_n 1 C0 dX7_clearRange_9 rfl rfl ?_
  refine tg_iload_n 2 C0 dX7_clearRange_10 rfl rfl ?_
  refine tg_callVi (As := [.int x1, .int x2]) 247 2 C0 dX7_clearRange_11 (c_X7_removeRows l x1 x2 v3) rfl rfl (by decide) rfl rfl (tm_gV tl_X7_78 ti_X7_removeRows ts_X7_removeRows tn_X7 tc_X7_removeRows)  rfl rfl rfl rfl (by decide +kernel) ⟨by decide, by decide⟩ (Nat.le_of_ble_eq_true rfl) ⟨by decide, by decide⟩ (fun r5 v4 _ => ?_)
  exact tg_xiret C0 dX7_clearRange_14 ⟨by decide, by decide⟩
theorem c_X7_clearRange (l : Launch) (hl : l.stackTraces = false) (x1 x2 : Int32) (v : tmM) : tmXi tm_NWC tm_shC 256 l yX7_clearRange (Cond.code yX7_clearRange cX7_clearRange 3 (some .int) :: TMW) ({ frames := 7, cells := 1, slots := 6, locals := 148 } : Room) (fun ad => [.ref (ad 247), .int x1, .int x2]) v 1 6 (f_X7_clearRange x1 x2 v) :=
  tmXi.of (cc := cX7_clearRange) (nL := 3) (by decide +kernel) rfl tm_NWC_ok (fun _ => Nat.le_of_ble_eq_true rfl) (fun p e s m args below meth c A D cy ad z C0 hE hout => w_X7_clearRange C0 hl hE hout x1 x2 v)
-- ----- X7_why
theorem dX7_why_0 : decode cX7_why 0 = .ok (.iload_n 1, 1) := by decide +kernel
theorem dX7_why_1 : decode cX7_why 1 = .ok (.ifCond .lt 13, 3) := by decide +kernel
theorem dX7_why_4 : decode cX7_why 4 = .ok (.iload_n 1, 1) := by decide +kernel
theorem dX7_why_5 : decode cX7_why 5 = .ok (.bipush 11, 2) := by decide +kernel
theorem dX7_why_7 : decode cX7_why 7 = .ok (.if_icmp .ge 7, 3) := by decide +kernel
theorem dX7_why_10 : decode cX7_why 10 = .ok (.iconst 1, 1) := by decide +kernel
theorem dX7_why_11 : decode cX7_why 11 = .ok (.goto 4, 3) := by decide +kernel
theorem dX7_why_14 : decode cX7_why 14 = .ok (.iconst 0, 1) := by decide +kernel
theorem dX7_why_15 : decode cX7_why 15 = .ok (.invokestatic 53, 3) := by decide +kernel
theorem dX7_why_18 : decode cX7_why 18 = .ok (.iload_n 1, 1) := by decide +kernel
theorem dX7_why_19 : decode cX7_why 19 = .ok (.iconst 3, 1) := by decide +kernel
theorem dX7_why_20 : decode cX7_why 20 = .ok (.if_icmp .ne 10, 3) := by decide +kernel
theorem dX7_why_23 : decode cX7_why 23 = .ok (.iload_n 2, 1) := by decide +kernel
theorem dX7_why_24 : decode cX7_why 24 = .ok (.invokestatic 189, 3) := by decide +kernel
theorem dX7_why_27 : decode cX7_why 27 = .ok (.ifCond .eq 7, 3) := by decide +kernel
theorem dX7_why_30 : decode cX7_why 30 = .ok (.iconst 1, 1) := by decide +kernel
theorem dX7_why_31 : decode cX7_why 31 = .ok (.goto 4, 3) := by decide +kernel
theorem dX7_why_34 : decode cX7_why 34 = .ok (.iconst 0, 1) := by decide +kernel
theorem dX7_why_35 : decode cX7_why 35 = .ok (.invokestatic 53, 3) := by decide +kernel
theorem dX7_why_38 : decode cX7_why 38 = .ok (.iload_n 1, 1) := by decide +kernel
theorem dX7_why_39 : decode cX7_why 39 = .ok (.iconst 4, 1) := by decide +kernel
theorem dX7_why_40 : decode cX7_why 40 = .ok (.if_icmp .eq 8, 3) := by decide +kernel
theorem dX7_why_43 : decode cX7_why 43 = .ok (.iload_n 1, 1) := by decide +kernel
theorem dX7_why_44 : decode cX7_why 44 = .ok (.iconst 5, 1) := by decide +kernel
theorem dX7_why_45 : decode cX7_why 45 = .ok (.if_icmp .ne 10, 3) := by decide +kernel
theorem dX7_why_48 : decode cX7_why 48 = .ok (.iload_n 2, 1) := by decide +kernel
theorem dX7_why_49 : decode cX7_why 49 = .ok (.invokestatic 180, 3) := by decide +kernel
theorem dX7_why_52 : decode cX7_why 52 = .ok (.ifCond .eq 7, 3) := by decide +kernel
theorem dX7_why_55 : decode cX7_why 55 = .ok (.iconst 1, 1) := by decide +kernel
theorem dX7_why_56 : decode cX7_why 56 = .ok (.goto 4, 3) := by decide +kernel
theorem dX7_why_59 : decode cX7_why 59 = .ok (.iconst 0, 1) := by decide +kernel
theorem dX7_why_60 : decode cX7_why 60 = .ok (.invokestatic 53, 3) := by decide +kernel
theorem dX7_why_63 : decode cX7_why 63 = .ok (.aload_n 0, 1) := by decide +kernel
theorem dX7_why_64 : decode cX7_why 64 = .ok (.getfield 12, 3) := by decide +kernel
theorem dX7_why_67 : decode cX7_why 67 = .ok (.iload_n 1, 1) := by decide +kernel
theorem dX7_why_68 : decode cX7_why 68 = .ok (.iload_n 2, 1) := by decide +kernel
theorem dX7_why_69 : decode cX7_why 69 = .ok (.invokevirtual 234, 3) := by decide +kernel
theorem dX7_why_72 : decode cX7_why 72 = .ok (.ireturn, 1) := by decide +kernel
def f_X7_why_60 (x1 x2 s0 : Int32) (v : tmM) : Option (tmR) := tm_cx (f_X7_requireArgument s0 v) (fun _ v5 => tm_cl (f_X4_reasonAgainst x1 x2 v5) fun r7 v6 => some ((0, r7), v6)) 0
set_option maxRecDepth 100000 in
set_option maxHeartbeats 4000000 in
theorem w_X7_why_60 {p : Program} {l : Launch} {e : Env} {s : State} {m : MethodId} {args : Array Value} {below : List Frame} {meth : Method} {c : Code} {D : va_G} {cy : Nat → ClassId} {ad : Nat → Nat} {A : Nat → Prop} {z : (tmR)} (C0 : tmC p s m args meth c cX7_why 3 (some .int) RX7 TMW tm_NWC D cy tm_shC ad 256 [] A) (hl : l.stackTraces = false) (hE : tmTh A s s.heap) (hout : ∀ x ∈ c.exceptionTable.toList, False) (x1 x2 s0 : Int32) (v : tmM) : tmG p l e ({ frames := 7, cells := 3, slots := 18, locals := 112 } : Room) s m args below meth c 2 12 (vx_MQ below (va_Qi (fun r u => z = ((0, r), u)) (tmAt tm_shC 256 D cy ad A) A) (tmXX tm_shC 256 D cy ad A 0 z) args s 3 18 A) 3 D cy tm_shC ad 256 [] A z 60 [(0, .ref (ad 247)), (1, .int x1), (2, .int x2)] [.int s0] v (f_X7_why_60 x1 x2 s0 v) := by
  unfold f_X7_why_60
  refine tg_callSxi (As := [.int s0]) 1 C0 hE hout dX7_why_60 (c_X7_requireArgument l hl s0 v) rfl rfl (tm_gS tl_X7_53 tst_X7_requireArgument tn_X7 tc_X7_requireArgument) rfl rfl rfl rfl (by decide +kernel) ⟨by decide, by decide⟩ (Nat.le_of_ble_eq_true rfl) ⟨by decide, by decide⟩ ⟨by decide, by decide⟩ (fun v5 _ => ?_)
  refine tg_aload_n 0 C0 dX7_why_63 rfl rfl ?_
  refine tg_get 247 0 C0 dX7_why_64 (by decide) rfl rfl tu_X7 (by decide) tf_X7_12 rfl rfl rfl ?_
  refine tg_iload_n 1 C0 dX7_why_67 rfl rfl ?_
  refine tg_iload_n 2 C0 dX7_why_68 rfl rfl ?_
  refine tg_callVi (As := [.int x1, .int x2]) 0 2 C0 dX7_why_69 (c_X4_reasonAgainst l x1 x2 v5) rfl rfl (by decide) rfl rfl (tm_gV tl_X7_234 ti_X4_reasonAgainst ts_X4_reasonAgainst tn_X4 tc_X4_reasonAgainst)  rfl rfl rfl rfl (by decide +kernel) ⟨by decide, by decide⟩ (Nat.le_of_ble_eq_true rfl) ⟨by decide, by decide⟩ (fun r7 v6 _ => ?_)
  exact tg_xiret C0 dX7_why_72 ⟨by decide, by decide⟩
def f_X7_why_55 (x1 x2 : Int32) (v : tmM) : Option (tmR) := f_X7_why_60 x1 x2 1 v
set_option maxRecDepth 100000 in
set_option maxHeartbeats 4000000 in
theorem w_X7_why_55 {p : Program} {l : Launch} {e : Env} {s : State} {m : MethodId} {args : Array Value} {below : List Frame} {meth : Method} {c : Code} {D : va_G} {cy : Nat → ClassId} {ad : Nat → Nat} {A : Nat → Prop} {z : (tmR)} (C0 : tmC p s m args meth c cX7_why 3 (some .int) RX7 TMW tm_NWC D cy tm_shC ad 256 [] A) (hl : l.stackTraces = false) (hE : tmTh A s s.heap) (hout : ∀ x ∈ c.exceptionTable.toList, False) (x1 x2 : Int32) (v : tmM) : tmG p l e ({ frames := 7, cells := 3, slots := 18, locals := 112 } : Room) s m args below meth c 2 12 (vx_MQ below (va_Qi (fun r u => z = ((0, r), u)) (tmAt tm_shC 256 D cy ad A) A) (tmXX tm_shC 256 D cy ad A 0 z) args s 3 18 A) 3 D cy tm_shC ad 256 [] A z 55 [(0, .ref (ad 247)), (1, .int x1), (2, .int x2)] [] v (f_X7_why_55 x1 x2 v) := by
  unfold f_X7_why_55
  refine tg_iconst (x := 1) C0 dX7_why_55 (by decide) ?_
  refine tg_goto 60 C0 dX7_why_56 (by decide) ?_
  exact w_X7_why_60 C0 hl hE hout x1 x2 1 v
def f_X7_why_48 (x1 x2 : Int32) (v : tmM) : Option (tmR) := tm_cl (f_X7_isReader x2 v) fun r4 v3 => (if r4 = 0 then f_X7_why_60 x1 x2 0 v3 else f_X7_why_55 x1 x2 v3)
set_option maxRecDepth 100000 in
set_option maxHeartbeats 4000000 in
theorem w_X7_why_48 {p : Program} {l : Launch} {e : Env} {s : State} {m : MethodId} {args : Array Value} {below : List Frame} {meth : Method} {c : Code} {D : va_G} {cy : Nat → ClassId} {ad : Nat → Nat} {A : Nat → Prop} {z : (tmR)} (C0 : tmC p s m args meth c cX7_why 3 (some .int) RX7 TMW tm_NWC D cy tm_shC ad 256 [] A) (hl : l.stackTraces = false) (hE : tmTh A s s.heap) (hout : ∀ x ∈ c.exceptionTable.toList, False) (x1 x2 : Int32) (v : tmM) : tmG p l e ({ frames := 7, cells := 3, slots := 18, locals := 112 } : Room) s m args below meth c 2 12 (vx_MQ below (va_Qi (fun r u => z = ((0, r), u)) (tmAt tm_shC 256 D cy ad A) A) (tmXX tm_shC 256 D cy ad A 0 z) args s 3 18 A) 3 D cy tm_shC ad 256 [] A z 48 [(0, .ref (ad 247)), (1, .int x1), (2, .int x2)] [] v (f_X7_why_48 x1 x2 v) := by
  unfold f_X7_why_48
  refine tg_iload_n 2 C0 dX7_why_48 rfl rfl ?_
  refine tg_callSi (As := [.int x2]) 1 C0 dX7_why_49 (c_X7_isReader l x2 v) rfl rfl (tm_gc tc_X7_isReader) tl_X7_180 tn_X7 tst_X7_isReader  rfl rfl rfl rfl (by decide +kernel) ⟨by decide, by decide⟩ (Nat.le_of_ble_eq_true rfl) ⟨by decide, by decide⟩ (fun r4 v3 _ => ?_)
  refine tg_if_eq 59 C0 dX7_why_52 (by decide) (fun _ => ?_) (fun _ => ?_)
  · refine tg_iconst (x := 0) C0 dX7_why_59 (by decide) ?_
    exact w_X7_why_60 C0 hl hE hout x1 x2 0 v3
  · exact w_X7_why_55 C0 hl hE hout x1 x2 v3
def f_X7_why_35 (x1 x2 s0 : Int32) (v : tmM) : Option (tmR) := tm_cx (f_X7_requireArgument s0 v) (fun _ v2 => (if x1 = 4 then f_X7_why_48 x1 x2 v2 else (if x1 = 5 then f_X7_why_48 x1 x2 v2 else f_X7_why_55 x1 x2 v2))) 0
set_option maxRecDepth 100000 in
set_option maxHeartbeats 4000000 in
theorem w_X7_why_35 {p : Program} {l : Launch} {e : Env} {s : State} {m : MethodId} {args : Array Value} {below : List Frame} {meth : Method} {c : Code} {D : va_G} {cy : Nat → ClassId} {ad : Nat → Nat} {A : Nat → Prop} {z : (tmR)} (C0 : tmC p s m args meth c cX7_why 3 (some .int) RX7 TMW tm_NWC D cy tm_shC ad 256 [] A) (hl : l.stackTraces = false) (hE : tmTh A s s.heap) (hout : ∀ x ∈ c.exceptionTable.toList, False) (x1 x2 s0 : Int32) (v : tmM) : tmG p l e ({ frames := 7, cells := 3, slots := 18, locals := 112 } : Room) s m args below meth c 1 6 (vx_MQ below (va_Qi (fun r u => z = ((0, r), u)) (tmAt tm_shC 256 D cy ad A) A) (tmXX tm_shC 256 D cy ad A 0 z) args s 3 18 A) 3 D cy tm_shC ad 256 [] A z 35 [(0, .ref (ad 247)), (1, .int x1), (2, .int x2)] [.int s0] v (f_X7_why_35 x1 x2 s0 v) := by
  unfold f_X7_why_35
  refine tg_callSxi (As := [.int s0]) 1 C0 hE hout dX7_why_35 (c_X7_requireArgument l hl s0 v) rfl rfl (tm_gS tl_X7_53 tst_X7_requireArgument tn_X7 tc_X7_requireArgument) rfl rfl rfl rfl (by decide +kernel) ⟨by decide, by decide⟩ (Nat.le_of_ble_eq_true rfl) ⟨by decide, by decide⟩ ⟨by decide, by decide⟩ (fun v2 _ => ?_)
  refine tg_iload_n 1 C0 dX7_why_38 rfl rfl ?_
  refine tg_iconst (x := 4) C0 dX7_why_39 (by decide) ?_
  refine tg_icmp_eq 48 C0 dX7_why_40 (by decide) (fun _ => ?_) (fun _ => ?_)
  · exact w_X7_why_48 C0 hl hE hout x1 x2 v2
  · refine tg_iload_n 1 C0 dX7_why_43 rfl rfl ?_
    refine tg_iconst (x := 5) C0 dX7_why_44 (by decide) ?_
    refine tg_icmp_ne 55 C0 dX7_why_45 (by decide) (fun _ => ?_) (fun _ => ?_)
    · exact w_X7_why_55 C0 hl hE hout x1 x2 v2
    · exact w_X7_why_48 C0 hl hE hout x1 x2 v2
def f_X7_why_30 (x1 x2 : Int32) (v : tmM) : Option (tmR) := f_X7_why_35 x1 x2 1 v
set_option maxRecDepth 100000 in
set_option maxHeartbeats 4000000 in
theorem w_X7_why_30 {p : Program} {l : Launch} {e : Env} {s : State} {m : MethodId} {args : Array Value} {below : List Frame} {meth : Method} {c : Code} {D : va_G} {cy : Nat → ClassId} {ad : Nat → Nat} {A : Nat → Prop} {z : (tmR)} (C0 : tmC p s m args meth c cX7_why 3 (some .int) RX7 TMW tm_NWC D cy tm_shC ad 256 [] A) (hl : l.stackTraces = false) (hE : tmTh A s s.heap) (hout : ∀ x ∈ c.exceptionTable.toList, False) (x1 x2 : Int32) (v : tmM) : tmG p l e ({ frames := 7, cells := 3, slots := 18, locals := 112 } : Room) s m args below meth c 1 6 (vx_MQ below (va_Qi (fun r u => z = ((0, r), u)) (tmAt tm_shC 256 D cy ad A) A) (tmXX tm_shC 256 D cy ad A 0 z) args s 3 18 A) 3 D cy tm_shC ad 256 [] A z 30 [(0, .ref (ad 247)), (1, .int x1), (2, .int x2)] [] v (f_X7_why_30 x1 x2 v) := by
  unfold f_X7_why_30
  refine tg_iconst (x := 1) C0 dX7_why_30 (by decide) ?_
  refine tg_goto 35 C0 dX7_why_31 (by decide) ?_
  exact w_X7_why_35 C0 hl hE hout x1 x2 1 v
def f_X7_why_15 (x1 x2 s0 : Int32) (v : tmM) : Option (tmR) := tm_cx (f_X7_requireArgument s0 v) (fun _ v1 => (if x1 = 3 then tm_cl (f_X7_isChunk x2 v1) fun r9 v8 => (if r9 = 0 then f_X7_why_35 x1 x2 0 v8 else f_X7_why_30 x1 x2 v8) else f_X7_why_30 x1 x2 v1)) 0
set_option maxRecDepth 100000 in
set_option maxHeartbeats 4000000 in
theorem w_X7_why_15 {p : Program} {l : Launch} {e : Env} {s : State} {m : MethodId} {args : Array Value} {below : List Frame} {meth : Method} {c : Code} {D : va_G} {cy : Nat → ClassId} {ad : Nat → Nat} {A : Nat → Prop} {z : (tmR)} (C0 : tmC p s m args meth c cX7_why 3 (some .int) RX7 TMW tm_NWC D cy tm_shC ad 256 [] A) (hl : l.stackTraces = false) (hE : tmTh A s s.heap) (hout : ∀ x ∈ c.exceptionTable.toList, False) (x1 x2 s0 : Int32) (v : tmM) : tmG p l e ({ frames := 7, cells := 3, slots := 18, locals := 112 } : Room) s m args below meth c 0 0 (vx_MQ below (va_Qi (fun r u => z = ((0, r), u)) (tmAt tm_shC 256 D cy ad A) A) (tmXX tm_shC 256 D cy ad A 0 z) args s 3 18 A) 3 D cy tm_shC ad 256 [] A z 15 [(0, .ref (ad 247)), (1, .int x1), (2, .int x2)] [.int s0] v (f_X7_why_15 x1 x2 s0 v) := by
  unfold f_X7_why_15
  refine tg_callSxi (As := [.int s0]) 1 C0 hE hout dX7_why_15 (c_X7_requireArgument l hl s0 v) rfl rfl (tm_gS tl_X7_53 tst_X7_requireArgument tn_X7 tc_X7_requireArgument) rfl rfl rfl rfl (by decide +kernel) ⟨by decide, by decide⟩ (Nat.le_of_ble_eq_true rfl) ⟨by decide, by decide⟩ ⟨by decide, by decide⟩ (fun v1 _ => ?_)
  refine tg_iload_n 1 C0 dX7_why_18 rfl rfl ?_
  refine tg_iconst (x := 3) C0 dX7_why_19 (by decide) ?_
  refine tg_icmp_ne 30 C0 dX7_why_20 (by decide) (fun _ => ?_) (fun _ => ?_)
  · exact w_X7_why_30 C0 hl hE hout x1 x2 v1
  · refine tg_iload_n 2 C0 dX7_why_23 rfl rfl ?_
    refine tg_callSi (As := [.int x2]) 1 C0 dX7_why_24 (c_X7_isChunk l x2 v1) rfl rfl (tm_gc tc_X7_isChunk) tl_X7_189 tn_X7 tst_X7_isChunk  rfl rfl rfl rfl (by decide +kernel) ⟨by decide, by decide⟩ (Nat.le_of_ble_eq_true rfl) ⟨by decide, by decide⟩ (fun r9 v8 _ => ?_)
    refine tg_if_eq 34 C0 dX7_why_27 (by decide) (fun _ => ?_) (fun _ => ?_)
    · refine tg_iconst (x := 0) C0 dX7_why_34 (by decide) ?_
      exact w_X7_why_35 C0 hl hE hout x1 x2 0 v8
    · exact w_X7_why_30 C0 hl hE hout x1 x2 v8
def f_X7_why_14 (x1 x2 : Int32) (v : tmM) : Option (tmR) := f_X7_why_15 x1 x2 0 v
set_option maxRecDepth 100000 in
set_option maxHeartbeats 4000000 in
theorem w_X7_why_14 {p : Program} {l : Launch} {e : Env} {s : State} {m : MethodId} {args : Array Value} {below : List Frame} {meth : Method} {c : Code} {D : va_G} {cy : Nat → ClassId} {ad : Nat → Nat} {A : Nat → Prop} {z : (tmR)} (C0 : tmC p s m args meth c cX7_why 3 (some .int) RX7 TMW tm_NWC D cy tm_shC ad 256 [] A) (hl : l.stackTraces = false) (hE : tmTh A s s.heap) (hout : ∀ x ∈ c.exceptionTable.toList, False) (x1 x2 : Int32) (v : tmM) : tmG p l e ({ frames := 7, cells := 3, slots := 18, locals := 112 } : Room) s m args below meth c 0 0 (vx_MQ below (va_Qi (fun r u => z = ((0, r), u)) (tmAt tm_shC 256 D cy ad A) A) (tmXX tm_shC 256 D cy ad A 0 z) args s 3 18 A) 3 D cy tm_shC ad 256 [] A z 14 [(0, .ref (ad 247)), (1, .int x1), (2, .int x2)] [] v (f_X7_why_14 x1 x2 v) := by
  unfold f_X7_why_14
  refine tg_iconst (x := 0) C0 dX7_why_14 (by decide) ?_
  exact w_X7_why_15 C0 hl hE hout x1 x2 0 v
def f_X7_why (x1 x2 : Int32) (v : tmM) : Option (tmR) := (if x1 < 0 then f_X7_why_14 x1 x2 v else (if 11 ≤ x1 then f_X7_why_14 x1 x2 v else f_X7_why_15 x1 x2 1 v))
set_option maxRecDepth 100000 in
set_option maxHeartbeats 4000000 in
theorem w_X7_why {p : Program} {l : Launch} {e : Env} {s : State} {m : MethodId} {args : Array Value} {below : List Frame} {meth : Method} {c : Code} {D : va_G} {cy : Nat → ClassId} {ad : Nat → Nat} {A : Nat → Prop} {z : (tmR)} (C0 : tmC p s m args meth c cX7_why 3 (some .int) RX7 TMW tm_NWC D cy tm_shC ad 256 [] A) (hl : l.stackTraces = false) (hE : tmTh A s s.heap) (hout : ∀ x ∈ c.exceptionTable.toList, False) (x1 x2 : Int32) (v : tmM) : tmG p l e ({ frames := 7, cells := 3, slots := 18, locals := 112 } : Room) s m args below meth c 0 0 (vx_MQ below (va_Qi (fun r u => z = ((0, r), u)) (tmAt tm_shC 256 D cy ad A) A) (tmXX tm_shC 256 D cy ad A 0 z) args s 3 18 A) 3 D cy tm_shC ad 256 [] A z 0 [(0, .ref (ad 247)), (1, .int x1), (2, .int x2)] [] v (f_X7_why x1 x2 v) := by
  unfold f_X7_why
  refine tg_iload_n 1 C0 dX7_why_0 rfl rfl ?_
  refine tg_if_lt 14 C0 dX7_why_1 (by decide) (fun _ => ?_) (fun _ => ?_)
  · exact w_X7_why_14 C0 hl hE hout x1 x2 v
  · refine tg_iload_n 1 C0 dX7_why_4 rfl rfl ?_
    refine tg_bipush (x := 11) C0 dX7_why_5 (by decide) ?_
    refine tg_icmp_ge 14 C0 dX7_why_7 (by decide) (fun _ => ?_) (fun _ => ?_)
    · exact w_X7_why_14 C0 hl hE hout x1 x2 v
    · refine tg_iconst (x := 1) C0 dX7_why_10 (by decide) ?_
      refine tg_goto 15 C0 dX7_why_11 (by decide) ?_
      exact w_X7_why_15 C0 hl hE hout x1 x2 1 v
theorem c_X7_why (l : Launch) (hl : l.stackTraces = false) (x1 x2 : Int32) (v : tmM) : tmXi tm_NWC tm_shC 256 l yX7_why (Cond.code yX7_why cX7_why 3 (some .int) :: TMW) ({ frames := 7, cells := 3, slots := 18, locals := 112 } : Room) (fun ad => [.ref (ad 247), .int x1, .int x2]) v 3 18 (f_X7_why x1 x2 v) :=
  tmXi.of (cc := cX7_why) (nL := 3) (by decide +kernel) rfl tm_NWC_ok (fun _ => Nat.le_of_ble_eq_true rfl) (fun p e s m args below meth c A D cy ad z C0 hE hout => w_X7_why C0 hl hE hout x1 x2 v)
-- ----- X7_next
theorem dX7_next_0 : decode cX7_next 0 = .ok (.iload_n 1, 1) := by decide +kernel
theorem dX7_next_1 : decode cX7_next 1 = .ok (.ifCond .eq 8, 3) := by decide +kernel
theorem dX7_next_4 : decode cX7_next 4 = .ok (.iload_n 1, 1) := by decide +kernel
theorem dX7_next_5 : decode cX7_next 5 = .ok (.iconst 1, 1) := by decide +kernel
theorem dX7_next_6 : decode cX7_next 6 = .ok (.if_icmp .ne 7, 3) := by decide +kernel
theorem dX7_next_9 : decode cX7_next 9 = .ok (.iconst 1, 1) := by decide +kernel
theorem dX7_next_10 : decode cX7_next 10 = .ok (.goto 4, 3) := by decide +kernel
theorem dX7_next_13 : decode cX7_next 13 = .ok (.iconst 0, 1) := by decide +kernel
theorem dX7_next_14 : decode cX7_next 14 = .ok (.invokestatic 53, 3) := by decide +kernel
theorem dX7_next_17 : decode cX7_next 17 = .ok (.aload_n 0, 1) := by decide +kernel
theorem dX7_next_18 : decode cX7_next 18 = .ok (.getfield 12, 3) := by decide +kernel
theorem dX7_next_21 : decode cX7_next 21 = .ok (.invokevirtual 237, 3) := by decide +kernel
theorem dX7_next_24 : decode cX7_next 24 = .ok (.istore_n 2, 1) := by decide +kernel
theorem dX7_next_25 : decode cX7_next 25 = .ok (.iload_n 1, 1) := by decide +kernel
theorem dX7_next_26 : decode cX7_next 26 = .ok (.ifCond .eq 8, 3) := by decide +kernel
theorem dX7_next_29 : decode cX7_next 29 = .ok (.iload_n 2, 1) := by decide +kernel
theorem dX7_next_30 : decode cX7_next 30 = .ok (.iconst (-1), 1) := by decide +kernel
theorem dX7_next_31 : decode cX7_next 31 = .ok (.if_icmp .ne 7, 3) := by decide +kernel
theorem dX7_next_34 : decode cX7_next 34 = .ok (.iload_n 2, 1) := by decide +kernel
theorem dX7_next_35 : decode cX7_next 35 = .ok (.goto 11, 3) := by decide +kernel
theorem dX7_next_38 : decode cX7_next 38 = .ok (.aload_n 0, 1) := by decide +kernel
theorem dX7_next_39 : decode cX7_next 39 = .ok (.getfield 12, 3) := by decide +kernel
theorem dX7_next_42 : decode cX7_next 42 = .ok (.iload_n 2, 1) := by decide +kernel
theorem dX7_next_43 : decode cX7_next 43 = .ok (.invokevirtual 240, 3) := by decide +kernel
theorem dX7_next_46 : decode cX7_next 46 = .ok (.ireturn, 1) := by decide +kernel
theorem tl_X7_237 : Cond.methodLink RX7 237 yX4_nextAct ∈ TMW := tm_in 1144 (by decide +kernel) (by decide +kernel)
theorem ti_X4_nextAct : Cond.instanceMethod yX4_nextAct ∈ TMW := tm_in 1145 (by decide +kernel) (by decide +kernel)
theorem ts_X4_nextAct : Cond.selects RX4 yX4_nextAct yX4_nextAct ∈ TMW := tm_in 1146 (by decide +kernel) (by decide +kernel)
theorem tc_X4_nextAct : Cond.code yX4_nextAct cX4_nextAct 1 (some .int) ∈ TMW := tm_in 1147 (by decide +kernel) (by decide +kernel)
theorem tl_X7_240 : Cond.methodLink RX7 240 yX4_numberFor ∈ TMW := tm_in 1152 (by decide +kernel) (by decide +kernel)
theorem ti_X4_numberFor : Cond.instanceMethod yX4_numberFor ∈ TMW := tm_in 1153 (by decide +kernel) (by decide +kernel)
theorem ts_X4_numberFor : Cond.selects RX4 yX4_numberFor yX4_numberFor ∈ TMW := tm_in 1154 (by decide +kernel) (by decide +kernel)
theorem tc_X4_numberFor : Cond.code yX4_numberFor cX4_numberFor 2 (some .int) ∈ TMW := tm_in 1155 (by decide +kernel) (by decide +kernel)
def f_X7_next_34 (x2 : Int32) (v : tmM) : Option (tmR) := some ((0, x2), v)
set_option maxRecDepth 100000 in
set_option maxHeartbeats 4000000 in
theorem w_X7_next_34 {p : Program} {l : Launch} {e : Env} {s : State} {m : MethodId} {args : Array Value} {below : List Frame} {meth : Method} {c : Code} {D : va_G} {cy : Nat → ClassId} {ad : Nat → Nat} {A : Nat → Prop} {z : (tmR)} (C0 : tmC p s m args meth c cX7_next 3 (some .int) RX7 TMW tm_NWC D cy tm_shC ad 256 [] A) (hl : l.stackTraces = false) (hE : tmTh A s s.heap) (hout : ∀ x ∈ c.exceptionTable.toList, False) (x2 : Int32) (v : tmM) : tmG p l e ({ frames := 7, cells := 1, slots := 6, locals := 110 } : Room) s m args below meth c 1 6 (vx_MQ below (va_Qi (fun r u => z = ((0, r), u)) (tmAt tm_shC 256 D cy ad A) A) (tmXX tm_shC 256 D cy ad A 0 z) args s 1 6 A) 3 D cy tm_shC ad 256 [] A z 34 [(2, .int x2)] [] v (f_X7_next_34 x2 v) := by
  unfold f_X7_next_34
  refine tg_iload_n 0 C0 dX7_next_34 rfl rfl ?_
  refine tg_goto 46 C0 dX7_next_35 (by decide) ?_
  exact tg_xiret C0 dX7_next_46 ⟨by decide, by decide⟩
def f_X7_next_14 (x1 s0 : Int32) (v : tmM) : Option (tmR) := tm_cx (f_X7_requireArgument s0 v) (fun _ v1 => tm_cl (f_X4_nextAct v1) fun r3 v2 => (if x1 = 0 then f_X7_next_34 r3 v2 else (if r3 = (-1) then f_X7_next_34 r3 v2 else tm_cl (f_X4_numberFor r3 v2) fun r5 v4 => some ((0, r5), v4)))) 0
set_option maxRecDepth 100000 in
set_option maxHeartbeats 4000000 in
theorem w_X7_next_14 {p : Program} {l : Launch} {e : Env} {s : State} {m : MethodId} {args : Array Value} {below : List Frame} {meth : Method} {c : Code} {D : va_G} {cy : Nat → ClassId} {ad : Nat → Nat} {A : Nat → Prop} {z : (tmR)} (C0 : tmC p s m args meth c cX7_next 3 (some .int) RX7 TMW tm_NWC D cy tm_shC ad 256 [] A) (hl : l.stackTraces = false) (hE : tmTh A s s.heap) (hout : ∀ x ∈ c.exceptionTable.toList, False) (x1 s0 : Int32) (v : tmM) : tmG p l e ({ frames := 7, cells := 1, slots := 6, locals := 110 } : Room) s m args below meth c 0 0 (vx_MQ below (va_Qi (fun r u => z = ((0, r), u)) (tmAt tm_shC 256 D cy ad A) A) (tmXX tm_shC 256 D cy ad A 0 z) args s 1 6 A) 3 D cy tm_shC ad 256 [] A z 14 [(0, .ref (ad 247)), (1, .int x1)] [.int s0] v (f_X7_next_14 x1 s0 v) := by
  unfold f_X7_next_14
  refine tg_callSxi (As := [.int s0]) 1 C0 hE hout dX7_next_14 (c_X7_requireArgument l hl s0 v) rfl rfl (tm_gS tl_X7_53 tst_X7_requireArgument tn_X7 tc_X7_requireArgument) rfl rfl rfl rfl (by decide +kernel) ⟨by decide, by decide⟩ (Nat.le_of_ble_eq_true rfl) ⟨by decide, by decide⟩ ⟨by decide, by decide⟩ (fun v1 _ => ?_)
  refine tg_aload_n 0 C0 dX7_next_17 rfl rfl ?_
  refine tg_get 247 0 C0 dX7_next_18 (by decide) rfl rfl tu_X7 (by decide) tf_X7_12 rfl rfl rfl ?_
  refine tg_callVi (As := []) 0 0 C0 dX7_next_21 (c_X4_nextAct l v1) rfl rfl (by decide) rfl rfl (tm_gV tl_X7_237 ti_X4_nextAct ts_X4_nextAct tn_X4 tc_X4_nextAct)  rfl rfl rfl rfl (by decide +kernel) ⟨by decide, by decide⟩ (Nat.le_of_ble_eq_true rfl) ⟨by decide, by decide⟩ (fun r3 v2 _ => ?_)
  refine tg_istore_n [(2, .int r3), (0, .ref (ad 247)), (1, .int x1)] C0 dX7_next_24 rfl (by decide) rfl ?_
  refine tg_iload_n 2 C0 dX7_next_25 rfl rfl ?_
  refine tg_if_eq 34 C0 dX7_next_26 (by decide) (fun _ => ?_) (fun _ => ?_)
  · refine tg_sub [0] rfl ?_
    exact w_X7_next_34 C0 hl hE hout r3 v2
  · refine tg_iload_n 0 C0 dX7_next_29 rfl rfl ?_
    refine tg_iconst (x := (-1)) C0 dX7_next_30 (by decide) ?_
    refine tg_icmp_ne 38 C0 dX7_next_31 (by decide) (fun _ => ?_) (fun _ => ?_)
    · refine tg_aload_n 1 C0 dX7_next_38 rfl rfl ?_
      refine tg_get 247 0 C0 dX7_next_39 (by decide) rfl rfl tu_X7 (by decide) tf_X7_12 rfl rfl rfl ?_
      refine tg_iload_n 0 C0 dX7_next_42 rfl rfl ?_
      refine tg_callVi (As := [.int r3]) 0 1 C0 dX7_next_43 (c_X4_numberFor l r3 v2) rfl rfl (by decide) rfl rfl (tm_gV tl_X7_240 ti_X4_numberFor ts_X4_numberFor tn_X4 tc_X4_numberFor)  rfl rfl rfl rfl (by decide +kernel) ⟨by decide, by decide⟩ (Nat.le_of_ble_eq_true rfl) ⟨by decide, by decide⟩ (fun r5 v4 _ => ?_)
      exact tg_xiret C0 dX7_next_46 ⟨by decide, by decide⟩
    · refine tg_sub [0] rfl ?_
      exact w_X7_next_34 C0 hl hE hout r3 v2
def f_X7_next_9 (x1 : Int32) (v : tmM) : Option (tmR) := f_X7_next_14 x1 1 v
set_option maxRecDepth 100000 in
set_option maxHeartbeats 4000000 in
theorem w_X7_next_9 {p : Program} {l : Launch} {e : Env} {s : State} {m : MethodId} {args : Array Value} {below : List Frame} {meth : Method} {c : Code} {D : va_G} {cy : Nat → ClassId} {ad : Nat → Nat} {A : Nat → Prop} {z : (tmR)} (C0 : tmC p s m args meth c cX7_next 3 (some .int) RX7 TMW tm_NWC D cy tm_shC ad 256 [] A) (hl : l.stackTraces = false) (hE : tmTh A s s.heap) (hout : ∀ x ∈ c.exceptionTable.toList, False) (x1 : Int32) (v : tmM) : tmG p l e ({ frames := 7, cells := 1, slots := 6, locals := 110 } : Room) s m args below meth c 0 0 (vx_MQ below (va_Qi (fun r u => z = ((0, r), u)) (tmAt tm_shC 256 D cy ad A) A) (tmXX tm_shC 256 D cy ad A 0 z) args s 1 6 A) 3 D cy tm_shC ad 256 [] A z 9 [(0, .ref (ad 247)), (1, .int x1)] [] v (f_X7_next_9 x1 v) := by
  unfold f_X7_next_9
  refine tg_iconst (x := 1) C0 dX7_next_9 (by decide) ?_
  refine tg_goto 14 C0 dX7_next_10 (by decide) ?_
  exact w_X7_next_14 C0 hl hE hout x1 1 v
def f_X7_next (x1 : Int32) (v : tmM) : Option (tmR) := (if x1 = 0 then f_X7_next_9 x1 v else (if x1 = 1 then f_X7_next_9 x1 v else f_X7_next_14 x1 0 v))
set_option maxRecDepth 100000 in
set_option maxHeartbeats 4000000 in
theorem w_X7_next {p : Program} {l : Launch} {e : Env} {s : State} {m : MethodId} {args : Array Value} {below : List Frame} {meth : Method} {c : Code} {D : va_G} {cy : Nat → ClassId} {ad : Nat → Nat} {A : Nat → Prop} {z : (tmR)} (C0 : tmC p s m args meth c cX7_next 3 (some .int) RX7 TMW tm_NWC D cy tm_shC ad 256 [] A) (hl : l.stackTraces = false) (hE : tmTh A s s.heap) (hout : ∀ x ∈ c.exceptionTable.toList, False) (x1 : Int32) (v : tmM) : tmG p l e ({ frames := 7, cells := 1, slots := 6, locals := 110 } : Room) s m args below meth c 0 0 (vx_MQ below (va_Qi (fun r u => z = ((0, r), u)) (tmAt tm_shC 256 D cy ad A) A) (tmXX tm_shC 256 D cy ad A 0 z) args s 1 6 A) 3 D cy tm_shC ad 256 [] A z 0 [(0, .ref (ad 247)), (1, .int x1)] [] v (f_X7_next x1 v) := by
  unfold f_X7_next
  refine tg_iload_n 1 C0 dX7_next_0 rfl rfl ?_
  refine tg_if_eq 9 C0 dX7_next_1 (by decide) (fun _ => ?_) (fun _ => ?_)
  · exact w_X7_next_9 C0 hl hE hout x1 v
  · refine tg_iload_n 1 C0 dX7_next_4 rfl rfl ?_
    refine tg_iconst (x := 1) C0 dX7_next_5 (by decide) ?_
    refine tg_icmp_ne 13 C0 dX7_next_6 (by decide) (fun _ => ?_) (fun _ => ?_)
    · refine tg_iconst (x := 0) C0 dX7_next_13 (by decide) ?_
      exact w_X7_next_14 C0 hl hE hout x1 0 v
    · exact w_X7_next_9 C0 hl hE hout x1 v
theorem c_X7_next (l : Launch) (hl : l.stackTraces = false) (x1 : Int32) (v : tmM) : tmXi tm_NWC tm_shC 256 l yX7_next (Cond.code yX7_next cX7_next 3 (some .int) :: TMW) ({ frames := 7, cells := 1, slots := 6, locals := 110 } : Room) (fun ad => [.ref (ad 247), .int x1]) v 1 6 (f_X7_next x1 v) :=
  tmXi.of (cc := cX7_next) (nL := 3) (by decide +kernel) rfl tm_NWC_ok (fun _ => Nat.le_of_ble_eq_true rfl) (fun p e s m args below meth c A D cy ad z C0 hE hout => w_X7_next C0 hl hE hout x1 v)
-- ----- X7_advance
theorem dX7_advance_0 : decode cX7_advance 0 = .ok (.iload_n 1, 1) := by decide +kernel
theorem dX7_advance_1 : decode cX7_advance 1 = .ok (.iconst 1, 1) := by decide +kernel
theorem dX7_advance_2 : decode cX7_advance 2 = .ok (.if_icmp .lt 13, 3) := by decide +kernel
theorem dX7_advance_5 : decode cX7_advance 5 = .ok (.iload_n 1, 1) := by decide +kernel
theorem dX7_advance_6 : decode cX7_advance 6 = .ok (.bipush 60, 2) := by decide +kernel
theorem dX7_advance_8 : decode cX7_advance 8 = .ok (.if_icmp .gt 7, 3) := by decide +kernel
theorem dX7_advance_11 : decode cX7_advance 11 = .ok (.iconst 1, 1) := by decide +kernel
theorem dX7_advance_12 : decode cX7_advance 12 = .ok (.goto 4, 3) := by decide +kernel
theorem dX7_advance_15 : decode cX7_advance 15 = .ok (.iconst 0, 1) := by decide +kernel
theorem dX7_advance_16 : decode cX7_advance 16 = .ok (.invokestatic 53, 3) := by decide +kernel
theorem dX7_advance_19 : decode cX7_advance 19 = .ok (.iconst 0, 1) := by decide +kernel
theorem dX7_advance_20 : decode cX7_advance 20 = .ok (.istore_n 2, 1) := by decide +kernel
theorem dX7_advance_21 : decode cX7_advance 21 = .ok (.iload_n 2, 1) := by decide +kernel
theorem dX7_advance_22 : decode cX7_advance 22 = .ok (.iload_n 1, 1) := by decide +kernel
theorem dX7_advance_23 : decode cX7_advance 23 = .ok (.if_icmp .ge 58, 3) := by decide +kernel
theorem dX7_advance_26 : decode cX7_advance 26 = .ok (.aload_n 0, 1) := by decide +kernel
theorem dX7_advance_27 : decode cX7_advance 27 = .ok (.getfield 12, 3) := by decide +kernel
theorem dX7_advance_30 : decode cX7_advance 30 = .ok (.invokevirtual 237, 3) := by decide +kernel
theorem dX7_advance_33 : decode cX7_advance 33 = .ok (.istore_n 3, 1) := by decide +kernel
theorem dX7_advance_34 : decode cX7_advance 34 = .ok (.iload_n 3, 1) := by decide +kernel
theorem dX7_advance_35 : decode cX7_advance 35 = .ok (.iconst 1, 1) := by decide +kernel
theorem dX7_advance_36 : decode cX7_advance 36 = .ok (.if_icmp .eq 8, 3) := by decide +kernel
theorem dX7_advance_39 : decode cX7_advance 39 = .ok (.iload_n 3, 1) := by decide +kernel
theorem dX7_advance_40 : decode cX7_advance 40 = .ok (.iconst 2, 1) := by decide +kernel
theorem dX7_advance_41 : decode cX7_advance 41 = .ok (.if_icmp .ne 7, 3) := by decide +kernel
theorem dX7_advance_44 : decode cX7_advance 44 = .ok (.iconst 1, 1) := by decide +kernel
theorem dX7_advance_45 : decode cX7_advance 45 = .ok (.goto 11, 3) := by decide +kernel
theorem dX7_advance_48 : decode cX7_advance 48 = .ok (.aload_n 0, 1) := by decide +kernel
theorem dX7_advance_49 : decode cX7_advance 49 = .ok (.getfield 12, 3) := by decide +kernel
theorem dX7_advance_52 : decode cX7_advance 52 = .ok (.iload_n 3, 1) := by decide +kernel
theorem dX7_advance_53 : decode cX7_advance 53 = .ok (.invokevirtual 240, 3) := by decide +kernel
theorem dX7_advance_56 : decode cX7_advance 56 = .ok (.istore 4, 2) := by decide +kernel
theorem dX7_advance_58 : decode cX7_advance 58 = .ok (.iload_n 3, 1) := by decide +kernel
theorem dX7_advance_59 : decode cX7_advance 59 = .ok (.iconst (-1), 1) := by decide +kernel
theorem dX7_advance_60 : decode cX7_advance 60 = .ok (.if_icmp .eq 13, 3) := by decide +kernel
theorem dX7_advance_63 : decode cX7_advance 63 = .ok (.aload_n 0, 1) := by decide +kernel
theorem dX7_advance_64 : decode cX7_advance 64 = .ok (.iload_n 3, 1) := by decide +kernel
theorem dX7_advance_65 : decode cX7_advance 65 = .ok (.iload 4, 2) := by decide +kernel
theorem dX7_advance_67 : decode cX7_advance 67 = .ok (.invokevirtual 82, 3) := by decide +kernel
theorem dX7_advance_70 : decode cX7_advance 70 = .ok (.ifCond .eq 5, 3) := by decide +kernel
theorem dX7_advance_73 : decode cX7_advance 73 = .ok (.iload_n 2, 1) := by decide +kernel
theorem dX7_advance_74 : decode cX7_advance 74 = .ok (.ireturn, 1) := by decide +kernel
theorem dX7_advance_75 : decode cX7_advance 75 = .ok (.iinc 2 1, 3) := by decide +kernel
theorem dX7_advance_78 : decode cX7_advance 78 = .ok (.goto (-57), 3) := by decide +kernel
theorem dX7_advance_81 : decode cX7_advance 81 = .ok (.iload_n 1, 1) := by decide +kernel
theorem dX7_advance_82 : decode cX7_advance 82 = .ok (.ireturn, 1) := by decide +kernel
def f_X7_advance_56 (K0 : Int32 → tmM → Option (tmR)) (L : Int32 → Int32 → tmM → Option (tmR)) (x1 x2 x3 s0 : Int32) (v : tmM) : Option (tmR) := (if x3 = (-1) then some ((0, x2), v) else tm_cl (f_X7_attempt x3 s0 v) fun r5 v4 => (if r5 = 0 then L x1 (x2 + 1) v4 else some ((0, x2), v4)))
set_option maxRecDepth 100000 in
set_option maxHeartbeats 4000000 in
theorem w_X7_advance_56 {p : Program} {l : Launch} {e : Env} {s : State} {m : MethodId} {args : Array Value} {below : List Frame} {meth : Method} {c : Code} {D : va_G} {cy : Nat → ClassId} {ad : Nat → Nat} {A : Nat → Prop} {z : (tmR)} {K0 : Int32 → tmM → Option (tmR)} {L : Int32 → Int32 → tmM → Option (tmR)} (C0 : tmC p s m args meth c cX7_advance 5 (some .int) RX7 TMW tm_NWC D cy tm_shC ad 256 [] A) (hl : l.stackTraces = false) (hE : tmTh A s s.heap) (hout : ∀ x ∈ c.exceptionTable.toList, False) (hK0 : ∀ (a1 : Int32) (w : tmM), tmG p l e ({ frames := 7, cells := 1, slots := 6, locals := 154 } : Room) s m args below meth c 1 6 (vx_MQ below (va_Qi (fun r u => z = ((0, r), u)) (tmAt tm_shC 256 D cy ad A) A) (tmXX tm_shC 256 D cy ad A 0 z) args s 1 6 A) 5 D cy tm_shC ad 256 [] A z 81 [(1, .int a1)] [] w (K0 a1 w)) (hL : ∀ (a1 a2 : Int32) (w : tmM), tmG p l e ({ frames := 7, cells := 1, slots := 6, locals := 154 } : Room) s m args below meth c 1 6 (vx_MQ below (va_Qi (fun r u => z = ((0, r), u)) (tmAt tm_shC 256 D cy ad A) A) (tmXX tm_shC 256 D cy ad A 0 z) args s 1 6 A) 5 D cy tm_shC ad 256 [] A z 21 [(0, .ref (ad 247)), (1, .int a1), (2, .int a2)] [] w (L a1 a2 w)) (x1 x2 x3 s0 : Int32) (v : tmM) : tmG p l e ({ frames := 7, cells := 1, slots := 6, locals := 154 } : Room) s m args below meth c 1 6 (vx_MQ below (va_Qi (fun r u => z = ((0, r), u)) (tmAt tm_shC 256 D cy ad A) A) (tmXX tm_shC 256 D cy ad A 0 z) args s 1 6 A) 5 D cy tm_shC ad 256 [] A z 56 [(0, .ref (ad 247)), (1, .int x1), (2, .int x2), (3, .int x3)] [.int s0] v (f_X7_advance_56 K0 L x1 x2 x3 s0 v) := by
  unfold f_X7_advance_56
  refine tg_istore [(4, .int s0), (0, .ref (ad 247)), (1, .int x1), (2, .int x2), (3, .int x3)] C0 dX7_advance_56 (by decide) rfl ?_
  refine tg_iload_n 4 C0 dX7_advance_58 rfl rfl ?_
  refine tg_iconst (x := (-1)) C0 dX7_advance_59 (by decide) ?_
  refine tg_icmp_eq 73 C0 dX7_advance_60 (by decide) (fun _ => ?_) (fun _ => ?_)
  · refine tg_iload_n 3 C0 dX7_advance_73 rfl rfl ?_
    exact tg_xiret C0 dX7_advance_74 ⟨by decide, by decide⟩
  · refine tg_aload_n 1 C0 dX7_advance_63 rfl rfl ?_
    refine tg_iload_n 4 C0 dX7_advance_64 rfl rfl ?_
    refine tg_iload 0 C0 dX7_advance_65 rfl ?_
    refine tg_callVi (As := [.int x3, .int s0]) 247 2 C0 dX7_advance_67 (c_X7_attempt l x3 s0 v) rfl rfl (by decide) rfl rfl (tm_gV tl_X7_82 ti_X7_attempt ts_X7_attempt tn_X7 tc_X7_attempt)  rfl rfl rfl rfl (by decide +kernel) ⟨by decide, by decide⟩ (Nat.le_of_ble_eq_true rfl) ⟨by decide, by decide⟩ (fun r5 v4 _ => ?_)
    refine tg_if_eq 75 C0 dX7_advance_70 (by decide) (fun _ => ?_) (fun _ => ?_)
    · refine tg_iinc [(2, .int (x2 + 1)), (4, .int s0), (0, .ref (ad 247)), (1, .int x1), (3, .int x3)] 3 C0 dX7_advance_75 rfl rfl (by decide) rfl ?_
      refine tg_goto 21 C0 dX7_advance_78 (by decide) ?_
      refine tg_sub [2, 3, 0] rfl ?_
      exact hL x1 (x2 + 1) v4
    · refine tg_iload_n 3 C0 dX7_advance_73 rfl rfl ?_
      exact tg_xiret C0 dX7_advance_74 ⟨by decide, by decide⟩
def f_X7_advance_44 (K0 : Int32 → tmM → Option (tmR)) (L : Int32 → Int32 → tmM → Option (tmR)) (x1 x2 x3 : Int32) (v : tmM) : Option (tmR) := f_X7_advance_56 K0 L x1 x2 x3 1 v
set_option maxRecDepth 100000 in
set_option maxHeartbeats 4000000 in
theorem w_X7_advance_44 {p : Program} {l : Launch} {e : Env} {s : State} {m : MethodId} {args : Array Value} {below : List Frame} {meth : Method} {c : Code} {D : va_G} {cy : Nat → ClassId} {ad : Nat → Nat} {A : Nat → Prop} {z : (tmR)} {K0 : Int32 → tmM → Option (tmR)} {L : Int32 → Int32 → tmM → Option (tmR)} (C0 : tmC p s m args meth c cX7_advance 5 (some .int) RX7 TMW tm_NWC D cy tm_shC ad 256 [] A) (hl : l.stackTraces = false) (hE : tmTh A s s.heap) (hout : ∀ x ∈ c.exceptionTable.toList, False) (hK0 : ∀ (a1 : Int32) (w : tmM), tmG p l e ({ frames := 7, cells := 1, slots := 6, locals := 154 } : Room) s m args below meth c 1 6 (vx_MQ below (va_Qi (fun r u => z = ((0, r), u)) (tmAt tm_shC 256 D cy ad A) A) (tmXX tm_shC 256 D cy ad A 0 z) args s 1 6 A) 5 D cy tm_shC ad 256 [] A z 81 [(1, .int a1)] [] w (K0 a1 w)) (hL : ∀ (a1 a2 : Int32) (w : tmM), tmG p l e ({ frames := 7, cells := 1, slots := 6, locals := 154 } : Room) s m args below meth c 1 6 (vx_MQ below (va_Qi (fun r u => z = ((0, r), u)) (tmAt tm_shC 256 D cy ad A) A) (tmXX tm_shC 256 D cy ad A 0 z) args s 1 6 A) 5 D cy tm_shC ad 256 [] A z 21 [(0, .ref (ad 247)), (1, .int a1), (2, .int a2)] [] w (L a1 a2 w)) (x1 x2 x3 : Int32) (v : tmM) : tmG p l e ({ frames := 7, cells := 1, slots := 6, locals := 154 } : Room) s m args below meth c 1 6 (vx_MQ below (va_Qi (fun r u => z = ((0, r), u)) (tmAt tm_shC 256 D cy ad A) A) (tmXX tm_shC 256 D cy ad A 0 z) args s 1 6 A) 5 D cy tm_shC ad 256 [] A z 44 [(0, .ref (ad 247)), (1, .int x1), (2, .int x2), (3, .int x3)] [] v (f_X7_advance_44 K0 L x1 x2 x3 v) := by
  unfold f_X7_advance_44
  refine tg_iconst (x := 1) C0 dX7_advance_44 (by decide) ?_
  refine tg_goto 56 C0 dX7_advance_45 (by decide) ?_
  exact w_X7_advance_56 C0 hl hE hout hK0 hL x1 x2 x3 1 v
def f_X7_advance_21b (K0 : Int32 → tmM → Option (tmR)) (L : Int32 → Int32 → tmM → Option (tmR)) (x1 x2 : Int32) (v : tmM) : Option (tmR) := (if x1 ≤ x2 then K0 x1 v else tm_cl (f_X4_nextAct v) fun r3 v2 => (if r3 = 1 then f_X7_advance_44 K0 L x1 x2 r3 v2 else (if r3 = 2 then f_X7_advance_44 K0 L x1 x2 r3 v2 else tm_cl (f_X4_numberFor r3 v2) fun r7 v6 => f_X7_advance_56 K0 L x1 x2 r3 r7 v6)))
set_option maxRecDepth 100000 in
set_option maxHeartbeats 4000000 in
theorem w_X7_advance_21b {p : Program} {l : Launch} {e : Env} {s : State} {m : MethodId} {args : Array Value} {below : List Frame} {meth : Method} {c : Code} {D : va_G} {cy : Nat → ClassId} {ad : Nat → Nat} {A : Nat → Prop} {z : (tmR)} {K0 : Int32 → tmM → Option (tmR)} {L : Int32 → Int32 → tmM → Option (tmR)} (C0 : tmC p s m args meth c cX7_advance 5 (some .int) RX7 TMW tm_NWC D cy tm_shC ad 256 [] A) (hl : l.stackTraces = false) (hE : tmTh A s s.heap) (hout : ∀ x ∈ c.exceptionTable.toList, False) (hK0 : ∀ (a1 : Int32) (w : tmM), tmG p l e ({ frames := 7, cells := 1, slots := 6, locals := 154 } : Room) s m args below meth c 1 6 (vx_MQ below (va_Qi (fun r u => z = ((0, r), u)) (tmAt tm_shC 256 D cy ad A) A) (tmXX tm_shC 256 D cy ad A 0 z) args s 1 6 A) 5 D cy tm_shC ad 256 [] A z 81 [(1, .int a1)] [] w (K0 a1 w)) (hL : ∀ (a1 a2 : Int32) (w : tmM), tmG p l e ({ frames := 7, cells := 1, slots := 6, locals := 154 } : Room) s m args below meth c 1 6 (vx_MQ below (va_Qi (fun r u => z = ((0, r), u)) (tmAt tm_shC 256 D cy ad A) A) (tmXX tm_shC 256 D cy ad A 0 z) args s 1 6 A) 5 D cy tm_shC ad 256 [] A z 21 [(0, .ref (ad 247)), (1, .int a1), (2, .int a2)] [] w (L a1 a2 w)) (x1 x2 : Int32) (v : tmM) : tmG p l e ({ frames := 7, cells := 1, slots := 6, locals := 154 } : Room) s m args below meth c 1 6 (vx_MQ below (va_Qi (fun r u => z = ((0, r), u)) (tmAt tm_shC 256 D cy ad A) A) (tmXX tm_shC 256 D cy ad A 0 z) args s 1 6 A) 5 D cy tm_shC ad 256 [] A z 21 [(0, .ref (ad 247)), (1, .int x1), (2, .int x2)] [] v (f_X7_advance_21b K0 L x1 x2 v) := by
  unfold f_X7_advance_21b
  refine tg_iload_n 2 C0 dX7_advance_21 rfl rfl ?_
  refine tg_iload_n 1 C0 dX7_advance_22 rfl rfl ?_
  refine tg_icmp_ge 81 C0 dX7_advance_23 (by decide) (fun _ => ?_) (fun _ => ?_)
  · refine tg_sub [1] rfl ?_
    exact hK0 x1 v
  · refine tg_aload_n 0 C0 dX7_advance_26 rfl rfl ?_
    refine tg_get 247 0 C0 dX7_advance_27 (by decide) rfl rfl tu_X7 (by decide) tf_X7_12 rfl rfl rfl ?_
    refine tg_callVi (As := []) 0 0 C0 dX7_advance_30 (c_X4_nextAct l v) rfl rfl (by decide) rfl rfl (tm_gV tl_X7_237 ti_X4_nextAct ts_X4_nextAct tn_X4 tc_X4_nextAct)  rfl rfl rfl rfl (by decide +kernel) ⟨by decide, by decide⟩ (Nat.le_of_ble_eq_true rfl) ⟨by decide, by decide⟩ (fun r3 v2 _ => ?_)
    refine tg_istore_n [(3, .int r3), (0, .ref (ad 247)), (1, .int x1), (2, .int x2)] C0 dX7_advance_33 rfl (by decide) rfl ?_
    refine tg_iload_n 0 C0 dX7_advance_34 rfl rfl ?_
    refine tg_iconst (x := 1) C0 dX7_advance_35 (by decide) ?_
    refine tg_icmp_eq 44 C0 dX7_advance_36 (by decide) (fun _ => ?_) (fun _ => ?_)
    · refine tg_sub [1, 2, 3, 0] rfl ?_
      exact w_X7_advance_44 C0 hl hE hout hK0 hL x1 x2 r3 v2
    · refine tg_iload_n 0 C0 dX7_advance_39 rfl rfl ?_
      refine tg_iconst (x := 2) C0 dX7_advance_40 (by decide) ?_
      refine tg_icmp_ne 48 C0 dX7_advance_41 (by decide) (fun _ => ?_) (fun _ => ?_)
      · refine tg_aload_n 1 C0 dX7_advance_48 rfl rfl ?_
        refine tg_get 247 0 C0 dX7_advance_49 (by decide) rfl rfl tu_X7 (by decide) tf_X7_12 rfl rfl rfl ?_
        refine tg_iload_n 0 C0 dX7_advance_52 rfl rfl ?_
        refine tg_callVi (As := [.int r3]) 0 1 C0 dX7_advance_53 (c_X4_numberFor l r3 v2) rfl rfl (by decide) rfl rfl (tm_gV tl_X7_240 ti_X4_numberFor ts_X4_numberFor tn_X4 tc_X4_numberFor)  rfl rfl rfl rfl (by decide +kernel) ⟨by decide, by decide⟩ (Nat.le_of_ble_eq_true rfl) ⟨by decide, by decide⟩ (fun r7 v6 _ => ?_)
        refine tg_sub [1, 2, 3, 0] rfl ?_
        exact w_X7_advance_56 C0 hl hE hout hK0 hL x1 x2 r3 r7 v6
      · refine tg_sub [1, 2, 3, 0] rfl ?_
        exact w_X7_advance_44 C0 hl hE hout hK0 hL x1 x2 r3 v2
def f_X7_advance_21 (K0 : Int32 → tmM → Option (tmR)) : Nat → Int32 → Int32 → tmM → Option (tmR)
  | 0 => fun _ _ _ => none
  | n + 1 => f_X7_advance_21b K0 (f_X7_advance_21 K0 n)
theorem w_X7_advance_21 {p : Program} {l : Launch} {e : Env} {s : State} {m : MethodId} {args : Array Value} {below : List Frame} {meth : Method} {c : Code} {D : va_G} {cy : Nat → ClassId} {ad : Nat → Nat} {A : Nat → Prop} {z : (tmR)} {K0 : Int32 → tmM → Option (tmR)} (C0 : tmC p s m args meth c cX7_advance 5 (some .int) RX7 TMW tm_NWC D cy tm_shC ad 256 [] A) (hl : l.stackTraces = false) (hE : tmTh A s s.heap) (hout : ∀ x ∈ c.exceptionTable.toList, False) (hK0 : ∀ (a1 : Int32) (w : tmM), tmG p l e ({ frames := 7, cells := 1, slots := 6, locals := 154 } : Room) s m args below meth c 1 6 (vx_MQ below (va_Qi (fun r u => z = ((0, r), u)) (tmAt tm_shC 256 D cy ad A) A) (tmXX tm_shC 256 D cy ad A 0 z) args s 1 6 A) 5 D cy tm_shC ad 256 [] A z 81 [(1, .int a1)] [] w (K0 a1 w)) (nn : Nat) : ∀ (x1 x2 : Int32) (v : tmM), tmG p l e ({ frames := 7, cells := 1, slots := 6, locals := 154 } : Room) s m args below meth c 1 6 (vx_MQ below (va_Qi (fun r u => z = ((0, r), u)) (tmAt tm_shC 256 D cy ad A) A) (tmXX tm_shC 256 D cy ad A 0 z) args s 1 6 A) 5 D cy tm_shC ad 256 [] A z 21 [(0, .ref (ad 247)), (1, .int x1), (2, .int x2)] [] v (f_X7_advance_21 K0 nn x1 x2 v) := by
  induction nn with
  | zero => intro _ _ _; exact tg_none
  | succ n ih => intro x1 x2 v; exact w_X7_advance_21b C0 hl hE hout hK0 ih x1 x2 v
def f_X7_advance_16 (x1 s0 : Int32) (v : tmM) : Option (tmR) := tm_cx (f_X7_requireArgument s0 v) (fun _ v1 => f_X7_advance_21 (fun x8 v9 => some ((0, x8), v9)) 10000 x1 0 v1) 0
set_option maxRecDepth 100000 in
set_option maxHeartbeats 4000000 in
theorem w_X7_advance_16 {p : Program} {l : Launch} {e : Env} {s : State} {m : MethodId} {args : Array Value} {below : List Frame} {meth : Method} {c : Code} {D : va_G} {cy : Nat → ClassId} {ad : Nat → Nat} {A : Nat → Prop} {z : (tmR)} (C0 : tmC p s m args meth c cX7_advance 5 (some .int) RX7 TMW tm_NWC D cy tm_shC ad 256 [] A) (hl : l.stackTraces = false) (hE : tmTh A s s.heap) (hout : ∀ x ∈ c.exceptionTable.toList, False) (x1 s0 : Int32) (v : tmM) : tmG p l e ({ frames := 7, cells := 1, slots := 6, locals := 154 } : Room) s m args below meth c 0 0 (vx_MQ below (va_Qi (fun r u => z = ((0, r), u)) (tmAt tm_shC 256 D cy ad A) A) (tmXX tm_shC 256 D cy ad A 0 z) args s 1 6 A) 5 D cy tm_shC ad 256 [] A z 16 [(0, .ref (ad 247)), (1, .int x1)] [.int s0] v (f_X7_advance_16 x1 s0 v) := by
  unfold f_X7_advance_16
  refine tg_callSxi (As := [.int s0]) 1 C0 hE hout dX7_advance_16 (c_X7_requireArgument l hl s0 v) rfl rfl (tm_gS tl_X7_53 tst_X7_requireArgument tn_X7 tc_X7_requireArgument) rfl rfl rfl rfl (by decide +kernel) ⟨by decide, by decide⟩ (Nat.le_of_ble_eq_true rfl) ⟨by decide, by decide⟩ ⟨by decide, by decide⟩ (fun v1 _ => ?_)
  refine tg_iconst (x := 0) C0 dX7_advance_19 (by decide) ?_
  refine tg_istore_n [(2, .int 0), (0, .ref (ad 247)), (1, .int x1)] C0 dX7_advance_20 rfl (by decide) rfl ?_
  refine tg_sub [1, 2, 0] rfl ?_
  refine w_X7_advance_21 C0 hl hE hout (fun x8 v9 => ?_) 10000 x1 0 v1
  refine tg_iload_n 0 C0 dX7_advance_81 rfl rfl ?_
  exact tg_xiret C0 dX7_advance_82 ⟨by decide, by decide⟩
def f_X7_advance_15 (x1 : Int32) (v : tmM) : Option (tmR) := f_X7_advance_16 x1 0 v
set_option maxRecDepth 100000 in
set_option maxHeartbeats 4000000 in
theorem w_X7_advance_15 {p : Program} {l : Launch} {e : Env} {s : State} {m : MethodId} {args : Array Value} {below : List Frame} {meth : Method} {c : Code} {D : va_G} {cy : Nat → ClassId} {ad : Nat → Nat} {A : Nat → Prop} {z : (tmR)} (C0 : tmC p s m args meth c cX7_advance 5 (some .int) RX7 TMW tm_NWC D cy tm_shC ad 256 [] A) (hl : l.stackTraces = false) (hE : tmTh A s s.heap) (hout : ∀ x ∈ c.exceptionTable.toList, False) (x1 : Int32) (v : tmM) : tmG p l e ({ frames := 7, cells := 1, slots := 6, locals := 154 } : Room) s m args below meth c 0 0 (vx_MQ below (va_Qi (fun r u => z = ((0, r), u)) (tmAt tm_shC 256 D cy ad A) A) (tmXX tm_shC 256 D cy ad A 0 z) args s 1 6 A) 5 D cy tm_shC ad 256 [] A z 15 [(0, .ref (ad 247)), (1, .int x1)] [] v (f_X7_advance_15 x1 v) := by
  unfold f_X7_advance_15
  refine tg_iconst (x := 0) C0 dX7_advance_15 (by decide) ?_
  exact w_X7_advance_16 C0 hl hE hout x1 0 v
def f_X7_advance (x1 : Int32) (v : tmM) : Option (tmR) := (if x1 < 1 then f_X7_advance_15 x1 v else (if 60 < x1 then f_X7_advance_15 x1 v else f_X7_advance_16 x1 1 v))
set_option maxRecDepth 100000 in
set_option maxHeartbeats 4000000 in
theorem w_X7_advance {p : Program} {l : Launch} {e : Env} {s : State} {m : MethodId} {args : Array Value} {below : List Frame} {meth : Method} {c : Code} {D : va_G} {cy : Nat → ClassId} {ad : Nat → Nat} {A : Nat → Prop} {z : (tmR)} (C0 : tmC p s m args meth c cX7_advance 5 (some .int) RX7 TMW tm_NWC D cy tm_shC ad 256 [] A) (hl : l.stackTraces = false) (hE : tmTh A s s.heap) (hout : ∀ x ∈ c.exceptionTable.toList, False) (x1 : Int32) (v : tmM) : tmG p l e ({ frames := 7, cells := 1, slots := 6, locals := 154 } : Room) s m args below meth c 0 0 (vx_MQ below (va_Qi (fun r u => z = ((0, r), u)) (tmAt tm_shC 256 D cy ad A) A) (tmXX tm_shC 256 D cy ad A 0 z) args s 1 6 A) 5 D cy tm_shC ad 256 [] A z 0 [(0, .ref (ad 247)), (1, .int x1)] [] v (f_X7_advance x1 v) := by
  unfold f_X7_advance
  refine tg_iload_n 1 C0 dX7_advance_0 rfl rfl ?_
  refine tg_iconst (x := 1) C0 dX7_advance_1 (by decide) ?_
  refine tg_icmp_lt 15 C0 dX7_advance_2 (by decide) (fun _ => ?_) (fun _ => ?_)
  · exact w_X7_advance_15 C0 hl hE hout x1 v
  · refine tg_iload_n 1 C0 dX7_advance_5 rfl rfl ?_
    refine tg_bipush (x := 60) C0 dX7_advance_6 (by decide) ?_
    refine tg_icmp_gt 15 C0 dX7_advance_8 (by decide) (fun _ => ?_) (fun _ => ?_)
    · exact w_X7_advance_15 C0 hl hE hout x1 v
    · refine tg_iconst (x := 1) C0 dX7_advance_11 (by decide) ?_
      refine tg_goto 16 C0 dX7_advance_12 (by decide) ?_
      exact w_X7_advance_16 C0 hl hE hout x1 1 v
theorem c_X7_advance (l : Launch) (hl : l.stackTraces = false) (x1 : Int32) (v : tmM) : tmXi tm_NWC tm_shC 256 l yX7_advance (Cond.code yX7_advance cX7_advance 5 (some .int) :: TMW) ({ frames := 7, cells := 1, slots := 6, locals := 154 } : Room) (fun ad => [.ref (ad 247), .int x1]) v 1 6 (f_X7_advance x1 v) :=
  tmXi.of (cc := cX7_advance) (nL := 5) (by decide +kernel) rfl tm_NWC_ok (fun _ => Nat.le_of_ble_eq_true rfl) (fun p e s m args below meth c A D cy ad z C0 hE hout => w_X7_advance C0 hl hE hout x1 v)
-- ----- X7_differing
theorem dX7_differing_0 : decode cX7_differing 0 = .ok (.iload_n 1, 1) := by decide +kernel
theorem dX7_differing_1 : decode cX7_differing 1 = .ok (.ifCond .lt 7, 3) := by decide +kernel
theorem dX7_differing_4 : decode cX7_differing 4 = .ok (.iconst 1, 1) := by decide +kernel
theorem dX7_differing_5 : decode cX7_differing 5 = .ok (.goto 4, 3) := by decide +kernel
theorem dX7_differing_8 : decode cX7_differing 8 = .ok (.iconst 0, 1) := by decide +kernel
theorem dX7_differing_9 : decode cX7_differing 9 = .ok (.invokestatic 114, 3) := by decide +kernel
theorem dX7_differing_12 : decode cX7_differing 12 = .ok (.aload_n 0, 1) := by decide +kernel
theorem dX7_differing_13 : decode cX7_differing 13 = .ok (.getfield 12, 3) := by decide +kernel
theorem dX7_differing_16 : decode cX7_differing 16 = .ok (.invokevirtual 198, 3) := by decide +kernel
theorem dX7_differing_19 : decode cX7_differing 19 = .ok (.ifCond .ne 5, 3) := by decide +kernel
theorem dX7_differing_22 : decode cX7_differing 22 = .ok (.iconst (-1), 1) := by decide +kernel
theorem dX7_differing_23 : decode cX7_differing 23 = .ok (.ireturn, 1) := by decide +kernel
theorem dX7_differing_24 : decode cX7_differing 24 = .ok (.iconst 0, 1) := by decide +kernel
theorem dX7_differing_25 : decode cX7_differing 25 = .ok (.istore_n 2, 1) := by decide +kernel
theorem dX7_differing_26 : decode cX7_differing 26 = .ok (.iconst 0, 1) := by decide +kernel
theorem dX7_differing_27 : decode cX7_differing 27 = .ok (.istore_n 3, 1) := by decide +kernel
theorem dX7_differing_28 : decode cX7_differing 28 = .ok (.iload_n 3, 1) := by decide +kernel
theorem dX7_differing_29 : decode cX7_differing 29 = .ok (.bipush 60, 2) := by decide +kernel
theorem dX7_differing_31 : decode cX7_differing 31 = .ok (.if_icmp .ge 33, 3) := by decide +kernel
theorem dX7_differing_34 : decode cX7_differing 34 = .ok (.aload_n 0, 1) := by decide +kernel
theorem dX7_differing_35 : decode cX7_differing 35 = .ok (.getfield 12, 3) := by decide +kernel
theorem dX7_differing_38 : decode cX7_differing 38 = .ok (.getfield 98, 3) := by decide +kernel
theorem dX7_differing_41 : decode cX7_differing 41 = .ok (.iload_n 3, 1) := by decide +kernel
theorem dX7_differing_42 : decode cX7_differing 42 = .ok (.invokevirtual 211, 3) := by decide +kernel
theorem dX7_differing_45 : decode cX7_differing 45 = .ok (.ifCond .eq 13, 3) := by decide +kernel
theorem dX7_differing_48 : decode cX7_differing 48 = .ok (.iload_n 2, 1) := by decide +kernel
theorem dX7_differing_49 : decode cX7_differing 49 = .ok (.iload_n 1, 1) := by decide +kernel
theorem dX7_differing_50 : decode cX7_differing 50 = .ok (.if_icmp .ne 5, 3) := by decide +kernel
theorem dX7_differing_53 : decode cX7_differing 53 = .ok (.iload_n 3, 1) := by decide +kernel
theorem dX7_differing_54 : decode cX7_differing 54 = .ok (.ireturn, 1) := by decide +kernel
theorem dX7_differing_55 : decode cX7_differing 55 = .ok (.iinc 2 1, 3) := by decide +kernel
theorem dX7_differing_58 : decode cX7_differing 58 = .ok (.iinc 3 1, 3) := by decide +kernel
theorem dX7_differing_61 : decode cX7_differing 61 = .ok (.goto (-33), 3) := by decide +kernel
theorem dX7_differing_64 : decode cX7_differing 64 = .ok (.iconst (-1), 1) := by decide +kernel
theorem dX7_differing_65 : decode cX7_differing 65 = .ok (.ireturn, 1) := by decide +kernel
def f_X7_differing_58 (K0 : tmM → Option (tmR)) (L : Int32 → Int32 → Int32 → tmM → Option (tmR)) (x1 x2 x3 : Int32) (v : tmM) : Option (tmR) := L x1 x2 (x3 + 1) v
set_option maxRecDepth 100000 in
set_option maxHeartbeats 4000000 in
theorem w_X7_differing_58 {p : Program} {l : Launch} {e : Env} {s : State} {m : MethodId} {args : Array Value} {below : List Frame} {meth : Method} {c : Code} {D : va_G} {cy : Nat → ClassId} {ad : Nat → Nat} {A : Nat → Prop} {z : (tmR)} {K0 : tmM → Option (tmR)} {L : Int32 → Int32 → Int32 → tmM → Option (tmR)} (C0 : tmC p s m args meth c cX7_differing 4 (some .int) RX7 TMW tm_NWC D cy tm_shC ad 256 [] A) (hl : l.stackTraces = false) (hE : tmTh A s s.heap) (hout : ∀ x ∈ c.exceptionTable.toList, False) (hK0 : ∀ (w : tmM), tmG p l e ({ frames := 7, cells := 1, slots := 6, locals := 110 } : Room) s m args below meth c 1 6 (vx_MQ below (va_Qi (fun r u => z = ((0, r), u)) (tmAt tm_shC 256 D cy ad A) A) (tmXX tm_shC 256 D cy ad A 0 z) args s 1 6 A) 4 D cy tm_shC ad 256 [] A z 64 [] [] w (K0 w)) (hL : ∀ (a1 a2 a3 : Int32) (w : tmM), tmG p l e ({ frames := 7, cells := 1, slots := 6, locals := 110 } : Room) s m args below meth c 1 6 (vx_MQ below (va_Qi (fun r u => z = ((0, r), u)) (tmAt tm_shC 256 D cy ad A) A) (tmXX tm_shC 256 D cy ad A 0 z) args s 1 6 A) 4 D cy tm_shC ad 256 [] A z 28 [(0, .ref (ad 247)), (1, .int a1), (2, .int a2), (3, .int a3)] [] w (L a1 a2 a3 w)) (x1 x2 x3 : Int32) (v : tmM) : tmG p l e ({ frames := 7, cells := 1, slots := 6, locals := 110 } : Room) s m args below meth c 1 6 (vx_MQ below (va_Qi (fun r u => z = ((0, r), u)) (tmAt tm_shC 256 D cy ad A) A) (tmXX tm_shC 256 D cy ad A 0 z) args s 1 6 A) 4 D cy tm_shC ad 256 [] A z 58 [(0, .ref (ad 247)), (1, .int x1), (2, .int x2), (3, .int x3)] [] v (f_X7_differing_58 K0 L x1 x2 x3 v) := by
  unfold f_X7_differing_58
  refine tg_iinc [(3, .int (x3 + 1)), (0, .ref (ad 247)), (1, .int x1), (2, .int x2)] 3 C0 dX7_differing_58 rfl rfl (by decide) rfl ?_
  refine tg_goto 28 C0 dX7_differing_61 (by decide) ?_
  refine tg_sub [1, 2, 3, 0] rfl ?_
  exact hL x1 x2 (x3 + 1) v
def f_X7_differing_28b (K0 : tmM → Option (tmR)) (L : Int32 → Int32 → Int32 → tmM → Option (tmR)) (x1 x2 x3 : Int32) (v : tmM) : Option (tmR) := (if 60 ≤ x3 then K0 v else tm_cl (f_X5_differ x3 v) fun r5 v4 => (if r5 = 0 then f_X7_differing_58 K0 L x1 x2 x3 v4 else (if x2 = x1 then some ((0, x3), v4) else f_X7_differing_58 K0 L x1 (x2 + 1) x3 v4)))
set_option maxRecDepth 100000 in
set_option maxHeartbeats 4000000 in
theorem w_X7_differing_28b {p : Program} {l : Launch} {e : Env} {s : State} {m : MethodId} {args : Array Value} {below : List Frame} {meth : Method} {c : Code} {D : va_G} {cy : Nat → ClassId} {ad : Nat → Nat} {A : Nat → Prop} {z : (tmR)} {K0 : tmM → Option (tmR)} {L : Int32 → Int32 → Int32 → tmM → Option (tmR)} (C0 : tmC p s m args meth c cX7_differing 4 (some .int) RX7 TMW tm_NWC D cy tm_shC ad 256 [] A) (hl : l.stackTraces = false) (hE : tmTh A s s.heap) (hout : ∀ x ∈ c.exceptionTable.toList, False) (hK0 : ∀ (w : tmM), tmG p l e ({ frames := 7, cells := 1, slots := 6, locals := 110 } : Room) s m args below meth c 1 6 (vx_MQ below (va_Qi (fun r u => z = ((0, r), u)) (tmAt tm_shC 256 D cy ad A) A) (tmXX tm_shC 256 D cy ad A 0 z) args s 1 6 A) 4 D cy tm_shC ad 256 [] A z 64 [] [] w (K0 w)) (hL : ∀ (a1 a2 a3 : Int32) (w : tmM), tmG p l e ({ frames := 7, cells := 1, slots := 6, locals := 110 } : Room) s m args below meth c 1 6 (vx_MQ below (va_Qi (fun r u => z = ((0, r), u)) (tmAt tm_shC 256 D cy ad A) A) (tmXX tm_shC 256 D cy ad A 0 z) args s 1 6 A) 4 D cy tm_shC ad 256 [] A z 28 [(0, .ref (ad 247)), (1, .int a1), (2, .int a2), (3, .int a3)] [] w (L a1 a2 a3 w)) (x1 x2 x3 : Int32) (v : tmM) : tmG p l e ({ frames := 7, cells := 1, slots := 6, locals := 110 } : Room) s m args below meth c 1 6 (vx_MQ below (va_Qi (fun r u => z = ((0, r), u)) (tmAt tm_shC 256 D cy ad A) A) (tmXX tm_shC 256 D cy ad A 0 z) args s 1 6 A) 4 D cy tm_shC ad 256 [] A z 28 [(0, .ref (ad 247)), (1, .int x1), (2, .int x2), (3, .int x3)] [] v (f_X7_differing_28b K0 L x1 x2 x3 v) := by
  unfold f_X7_differing_28b
  refine tg_iload_n 3 C0 dX7_differing_28 rfl rfl ?_
  refine tg_bipush (x := 60) C0 dX7_differing_29 (by decide) ?_
  refine tg_icmp_ge 64 C0 dX7_differing_31 (by decide) (fun _ => ?_) (fun _ => ?_)
  · refine tg_sub [] rfl ?_
    exact hK0 v
  · refine tg_aload_n 0 C0 dX7_differing_34 rfl rfl ?_
    refine tg_get 247 0 C0 dX7_differing_35 (by decide) rfl rfl tu_X7 (by decide) tf_X7_12 rfl rfl rfl ?_
    refine tg_getN 0 5 C0 dX7_differing_38 (by decide) rfl rfl tu_X4 (by decide) tm_nwC_X7_98 rfl rfl rfl ?_
    refine tg_iload_n 3 C0 dX7_differing_41 rfl rfl ?_
    refine tg_callVi (As := [.int x3]) 1 1 C0 dX7_differing_42 (c_X5_differ l x3 v) rfl rfl (by decide) rfl rfl (tm_gV tl_X7_211 ti_X5_differ ts_X5_differ tn_X5 tc_X5_differ)  rfl rfl rfl rfl (by decide +kernel) ⟨by decide, by decide⟩ (Nat.le_of_ble_eq_true rfl) ⟨by decide, by decide⟩ (fun r5 v4 _ => ?_)
    refine tg_if_eq 58 C0 dX7_differing_45 (by decide) (fun _ => ?_) (fun _ => ?_)
    · exact w_X7_differing_58 C0 hl hE hout hK0 hL x1 x2 x3 v4
    · refine tg_iload_n 2 C0 dX7_differing_48 rfl rfl ?_
      refine tg_iload_n 1 C0 dX7_differing_49 rfl rfl ?_
      refine tg_icmp_ne 55 C0 dX7_differing_50 (by decide) (fun _ => ?_) (fun _ => ?_)
      · refine tg_iinc [(2, .int (x2 + 1)), (0, .ref (ad 247)), (1, .int x1), (3, .int x3)] 2 C0 dX7_differing_55 rfl rfl (by decide) rfl ?_
        refine tg_sub [1, 2, 0, 3] rfl ?_
        exact w_X7_differing_58 C0 hl hE hout hK0 hL x1 (x2 + 1) x3 v4
      · refine tg_iload_n 3 C0 dX7_differing_53 rfl rfl ?_
        exact tg_xiret C0 dX7_differing_54 ⟨by decide, by decide⟩
def f_X7_differing_28 (K0 : tmM → Option (tmR)) : Nat → Int32 → Int32 → Int32 → tmM → Option (tmR)
  | 0 => fun _ _ _ _ => none
  | n + 1 => f_X7_differing_28b K0 (f_X7_differing_28 K0 n)
theorem w_X7_differing_28 {p : Program} {l : Launch} {e : Env} {s : State} {m : MethodId} {args : Array Value} {below : List Frame} {meth : Method} {c : Code} {D : va_G} {cy : Nat → ClassId} {ad : Nat → Nat} {A : Nat → Prop} {z : (tmR)} {K0 : tmM → Option (tmR)} (C0 : tmC p s m args meth c cX7_differing 4 (some .int) RX7 TMW tm_NWC D cy tm_shC ad 256 [] A) (hl : l.stackTraces = false) (hE : tmTh A s s.heap) (hout : ∀ x ∈ c.exceptionTable.toList, False) (hK0 : ∀ (w : tmM), tmG p l e ({ frames := 7, cells := 1, slots := 6, locals := 110 } : Room) s m args below meth c 1 6 (vx_MQ below (va_Qi (fun r u => z = ((0, r), u)) (tmAt tm_shC 256 D cy ad A) A) (tmXX tm_shC 256 D cy ad A 0 z) args s 1 6 A) 4 D cy tm_shC ad 256 [] A z 64 [] [] w (K0 w)) (nn : Nat) : ∀ (x1 x2 x3 : Int32) (v : tmM), tmG p l e ({ frames := 7, cells := 1, slots := 6, locals := 110 } : Room) s m args below meth c 1 6 (vx_MQ below (va_Qi (fun r u => z = ((0, r), u)) (tmAt tm_shC 256 D cy ad A) A) (tmXX tm_shC 256 D cy ad A 0 z) args s 1 6 A) 4 D cy tm_shC ad 256 [] A z 28 [(0, .ref (ad 247)), (1, .int x1), (2, .int x2), (3, .int x3)] [] v (f_X7_differing_28 K0 nn x1 x2 x3 v) := by
  induction nn with
  | zero => intro _ _ _ _; exact tg_none
  | succ n ih => intro x1 x2 x3 v; exact w_X7_differing_28b C0 hl hE hout hK0 ih x1 x2 x3 v
def f_X7_differing_9 (x1 s0 : Int32) (v : tmM) : Option (tmR) := tm_cx (f_X7_requireIndex s0 v) (fun _ v1 => tm_cl (f_X4_isDouble v1) fun r3 v2 => (if r3 = 0 then some ((0, (-1)), v2) else f_X7_differing_28 (fun v6 => some ((0, (-1)), v6)) 10000 x1 0 0 v2)) 0
set_option maxRecDepth 100000 in
set_option maxHeartbeats 4000000 in
theorem w_X7_differing_9 {p : Program} {l : Launch} {e : Env} {s : State} {m : MethodId} {args : Array Value} {below : List Frame} {meth : Method} {c : Code} {D : va_G} {cy : Nat → ClassId} {ad : Nat → Nat} {A : Nat → Prop} {z : (tmR)} (C0 : tmC p s m args meth c cX7_differing 4 (some .int) RX7 TMW tm_NWC D cy tm_shC ad 256 [] A) (hl : l.stackTraces = false) (hE : tmTh A s s.heap) (hout : ∀ x ∈ c.exceptionTable.toList, False) (x1 s0 : Int32) (v : tmM) : tmG p l e ({ frames := 7, cells := 1, slots := 6, locals := 110 } : Room) s m args below meth c 0 0 (vx_MQ below (va_Qi (fun r u => z = ((0, r), u)) (tmAt tm_shC 256 D cy ad A) A) (tmXX tm_shC 256 D cy ad A 0 z) args s 1 6 A) 4 D cy tm_shC ad 256 [] A z 9 [(0, .ref (ad 247)), (1, .int x1)] [.int s0] v (f_X7_differing_9 x1 s0 v) := by
  unfold f_X7_differing_9
  refine tg_callSxi (As := [.int s0]) 1 C0 hE hout dX7_differing_9 (c_X7_requireIndex l hl s0 v) rfl rfl (tm_gS tl_X7_114 tst_X7_requireIndex tn_X7 tc_X7_requireIndex) rfl rfl rfl rfl (by decide +kernel) ⟨by decide, by decide⟩ (Nat.le_of_ble_eq_true rfl) ⟨by decide, by decide⟩ ⟨by decide, by decide⟩ (fun v1 _ => ?_)
  refine tg_aload_n 0 C0 dX7_differing_12 rfl rfl ?_
  refine tg_get 247 0 C0 dX7_differing_13 (by decide) rfl rfl tu_X7 (by decide) tf_X7_12 rfl rfl rfl ?_
  refine tg_callVi (As := []) 0 0 C0 dX7_differing_16 (c_X4_isDouble l v1) rfl rfl (by decide) rfl rfl (tm_gV tl_X7_198 ti_X4_isDouble ts_X4_isDouble tn_X4 tc_X4_isDouble)  rfl rfl rfl rfl (by decide +kernel) ⟨by decide, by decide⟩ (Nat.le_of_ble_eq_true rfl) ⟨by decide, by decide⟩ (fun r3 v2 _ => ?_)
  refine tg_if_ne 24 C0 dX7_differing_19 (by decide) (fun _ => ?_) (fun _ => ?_)
  · refine tg_iconst (x := 0) C0 dX7_differing_24 (by decide) ?_
    refine tg_istore_n [(2, .int 0), (0, .ref (ad 247)), (1, .int x1)] C0 dX7_differing_25 rfl (by decide) rfl ?_
    refine tg_iconst (x := 0) C0 dX7_differing_26 (by decide) ?_
    refine tg_istore_n [(3, .int 0), (2, .int 0), (0, .ref (ad 247)), (1, .int x1)] C0 dX7_differing_27 rfl (by decide) rfl ?_
    refine tg_sub [2, 3, 1, 0] rfl ?_
    refine w_X7_differing_28 C0 hl hE hout (fun v6 => ?_) 10000 x1 0 0 v2
    refine tg_iconst (x := (-1)) C0 dX7_differing_64 (by decide) ?_
    exact tg_xiret C0 dX7_differing_65 ⟨by decide, by decide⟩
  · refine tg_iconst (x := (-1)) C0 dX7_differing_22 (by decide) ?_
    exact tg_xiret C0 dX7_differing_23 ⟨by decide, by decide⟩
def f_X7_differing (x1 : Int32) (v : tmM) : Option (tmR) := (if x1 < 0 then f_X7_differing_9 x1 0 v else f_X7_differing_9 x1 1 v)
set_option maxRecDepth 100000 in
set_option maxHeartbeats 4000000 in
theorem w_X7_differing {p : Program} {l : Launch} {e : Env} {s : State} {m : MethodId} {args : Array Value} {below : List Frame} {meth : Method} {c : Code} {D : va_G} {cy : Nat → ClassId} {ad : Nat → Nat} {A : Nat → Prop} {z : (tmR)} (C0 : tmC p s m args meth c cX7_differing 4 (some .int) RX7 TMW tm_NWC D cy tm_shC ad 256 [] A) (hl : l.stackTraces = false) (hE : tmTh A s s.heap) (hout : ∀ x ∈ c.exceptionTable.toList, False) (x1 : Int32) (v : tmM) : tmG p l e ({ frames := 7, cells := 1, slots := 6, locals := 110 } : Room) s m args below meth c 0 0 (vx_MQ below (va_Qi (fun r u => z = ((0, r), u)) (tmAt tm_shC 256 D cy ad A) A) (tmXX tm_shC 256 D cy ad A 0 z) args s 1 6 A) 4 D cy tm_shC ad 256 [] A z 0 [(0, .ref (ad 247)), (1, .int x1)] [] v (f_X7_differing x1 v) := by
  unfold f_X7_differing
  refine tg_iload_n 1 C0 dX7_differing_0 rfl rfl ?_
  refine tg_if_lt 8 C0 dX7_differing_1 (by decide) (fun _ => ?_) (fun _ => ?_)
  · refine tg_iconst (x := 0) C0 dX7_differing_8 (by decide) ?_
    exact w_X7_differing_9 C0 hl hE hout x1 0 v
  · refine tg_iconst (x := 1) C0 dX7_differing_4 (by decide) ?_
    refine tg_goto 9 C0 dX7_differing_5 (by decide) ?_
    exact w_X7_differing_9 C0 hl hE hout x1 1 v
theorem c_X7_differing (l : Launch) (hl : l.stackTraces = false) (x1 : Int32) (v : tmM) : tmXi tm_NWC tm_shC 256 l yX7_differing (Cond.code yX7_differing cX7_differing 4 (some .int) :: TMW) ({ frames := 7, cells := 1, slots := 6, locals := 110 } : Room) (fun ad => [.ref (ad 247), .int x1]) v 1 6 (f_X7_differing x1 v) :=
  tmXi.of (cc := cX7_differing) (nL := 4) (by decide +kernel) rfl tm_NWC_ok (fun _ => Nat.le_of_ble_eq_true rfl) (fun p e s m args below meth c A D cy ad z C0 hE hout => w_X7_differing C0 hl hE hout x1 v)
-- ----- X7_lookup
theorem dX7_lookup_0 : decode cX7_lookup 0 = .ok (.iload_n 1, 1) := by decide +kernel
theorem dX7_lookup_1 : decode cX7_lookup 1 = .ok (.invokestatic 110, 3) := by decide +kernel
theorem dX7_lookup_4 : decode cX7_lookup 4 = .ok (.invokestatic 114, 3) := by decide +kernel
theorem dX7_lookup_7 : decode cX7_lookup 7 = .ok (.iload_n 2, 1) := by decide +kernel
theorem dX7_lookup_8 : decode cX7_lookup 8 = .ok (.invokestatic 228, 3) := by decide +kernel
theorem dX7_lookup_11 : decode cX7_lookup 11 = .ok (.invokestatic 53, 3) := by decide +kernel
theorem dX7_lookup_14 : decode cX7_lookup 14 = .ok (.iconst 0, 1) := by decide +kernel
theorem dX7_lookup_15 : decode cX7_lookup 15 = .ok (.istore_n 3, 1) := by decide +kernel
theorem dX7_lookup_16 : decode cX7_lookup 16 = .ok (.iload_n 3, 1) := by decide +kernel
theorem dX7_lookup_17 : decode cX7_lookup 17 = .ok (.bipush 60, 2) := by decide +kernel
theorem dX7_lookup_19 : decode cX7_lookup 19 = .ok (.if_icmp .ge 27, 3) := by decide +kernel
theorem dX7_lookup_22 : decode cX7_lookup 22 = .ok (.aload_n 0, 1) := by decide +kernel
theorem dX7_lookup_23 : decode cX7_lookup 23 = .ok (.getfield 12, 3) := by decide +kernel
theorem dX7_lookup_26 : decode cX7_lookup 26 = .ok (.getfield 98, 3) := by decide +kernel
theorem dX7_lookup_29 : decode cX7_lookup 29 = .ok (.iload_n 1, 1) := by decide +kernel
theorem dX7_lookup_30 : decode cX7_lookup 30 = .ok (.iload_n 3, 1) := by decide +kernel
theorem dX7_lookup_31 : decode cX7_lookup 31 = .ok (.invokevirtual 186, 3) := by decide +kernel
theorem dX7_lookup_34 : decode cX7_lookup 34 = .ok (.iload_n 2, 1) := by decide +kernel
theorem dX7_lookup_35 : decode cX7_lookup 35 = .ok (.if_icmp .ne 5, 3) := by decide +kernel
theorem dX7_lookup_38 : decode cX7_lookup 38 = .ok (.iload_n 3, 1) := by decide +kernel
theorem dX7_lookup_39 : decode cX7_lookup 39 = .ok (.ireturn, 1) := by decide +kernel
theorem dX7_lookup_40 : decode cX7_lookup 40 = .ok (.iinc 3 1, 3) := by decide +kernel
theorem dX7_lookup_43 : decode cX7_lookup 43 = .ok (.goto (-27), 3) := by decide +kernel
theorem dX7_lookup_46 : decode cX7_lookup 46 = .ok (.iconst (-1), 1) := by decide +kernel
theorem dX7_lookup_47 : decode cX7_lookup 47 = .ok (.ireturn, 1) := by decide +kernel
def f_X7_lookup_16b (K0 : tmM → Option (tmR)) (L : Int32 → Int32 → Int32 → tmM → Option (tmR)) (x1 x2 x3 : Int32) (v : tmM) : Option (tmR) := (if 60 ≤ x3 then K0 v else tm_cl (f_X5_valueAt x1 x3 v) fun r8 v7 => (if r8 = x2 then some ((0, x3), v7) else L x1 x2 (x3 + 1) v7))
set_option maxRecDepth 100000 in
set_option maxHeartbeats 4000000 in
theorem w_X7_lookup_16b {p : Program} {l : Launch} {e : Env} {s : State} {m : MethodId} {args : Array Value} {below : List Frame} {meth : Method} {c : Code} {D : va_G} {cy : Nat → ClassId} {ad : Nat → Nat} {A : Nat → Prop} {z : (tmR)} {K0 : tmM → Option (tmR)} {L : Int32 → Int32 → Int32 → tmM → Option (tmR)} (C0 : tmC p s m args meth c cX7_lookup 4 (some .int) RX7 TMW tm_NWC D cy tm_shC ad 256 [] A) (hl : l.stackTraces = false) (hE : tmTh A s s.heap) (hout : ∀ x ∈ c.exceptionTable.toList, False) (hK0 : ∀ (w : tmM), tmG p l e ({ frames := 7, cells := 2, slots := 12, locals := 110 } : Room) s m args below meth c 2 12 (vx_MQ below (va_Qi (fun r u => z = ((0, r), u)) (tmAt tm_shC 256 D cy ad A) A) (tmXX tm_shC 256 D cy ad A 0 z) args s 2 12 A) 4 D cy tm_shC ad 256 [] A z 46 [] [] w (K0 w)) (hL : ∀ (a1 a2 a3 : Int32) (w : tmM), tmG p l e ({ frames := 7, cells := 2, slots := 12, locals := 110 } : Room) s m args below meth c 2 12 (vx_MQ below (va_Qi (fun r u => z = ((0, r), u)) (tmAt tm_shC 256 D cy ad A) A) (tmXX tm_shC 256 D cy ad A 0 z) args s 2 12 A) 4 D cy tm_shC ad 256 [] A z 16 [(0, .ref (ad 247)), (1, .int a1), (2, .int a2), (3, .int a3)] [] w (L a1 a2 a3 w)) (x1 x2 x3 : Int32) (v : tmM) : tmG p l e ({ frames := 7, cells := 2, slots := 12, locals := 110 } : Room) s m args below meth c 2 12 (vx_MQ below (va_Qi (fun r u => z = ((0, r), u)) (tmAt tm_shC 256 D cy ad A) A) (tmXX tm_shC 256 D cy ad A 0 z) args s 2 12 A) 4 D cy tm_shC ad 256 [] A z 16 [(0, .ref (ad 247)), (1, .int x1), (2, .int x2), (3, .int x3)] [] v (f_X7_lookup_16b K0 L x1 x2 x3 v) := by
  unfold f_X7_lookup_16b
  refine tg_iload_n 3 C0 dX7_lookup_16 rfl rfl ?_
  refine tg_bipush (x := 60) C0 dX7_lookup_17 (by decide) ?_
  refine tg_icmp_ge 46 C0 dX7_lookup_19 (by decide) (fun _ => ?_) (fun _ => ?_)
  · refine tg_sub [] rfl ?_
    exact hK0 v
  · refine tg_aload_n 0 C0 dX7_lookup_22 rfl rfl ?_
    refine tg_get 247 0 C0 dX7_lookup_23 (by decide) rfl rfl tu_X7 (by decide) tf_X7_12 rfl rfl rfl ?_
    refine tg_getN 0 5 C0 dX7_lookup_26 (by decide) rfl rfl tu_X4 (by decide) tm_nwC_X7_98 rfl rfl rfl ?_
    refine tg_iload_n 1 C0 dX7_lookup_29 rfl rfl ?_
    refine tg_iload_n 3 C0 dX7_lookup_30 rfl rfl ?_
    refine tg_callVi (As := [.int x1, .int x3]) 1 2 C0 dX7_lookup_31 (c_X5_valueAt l x1 x3 v) rfl rfl (by decide) rfl rfl (tm_gV tl_X7_186 ti_X5_valueAt ts_X5_valueAt tn_X5 tc_X5_valueAt)  rfl rfl rfl rfl (by decide +kernel) ⟨by decide, by decide⟩ (Nat.le_of_ble_eq_true rfl) ⟨by decide, by decide⟩ (fun r8 v7 _ => ?_)
    refine tg_iload_n 2 C0 dX7_lookup_34 rfl rfl ?_
    refine tg_icmp_ne 40 C0 dX7_lookup_35 (by decide) (fun _ => ?_) (fun _ => ?_)
    · refine tg_iinc [(3, .int (x3 + 1)), (0, .ref (ad 247)), (1, .int x1), (2, .int x2)] 3 C0 dX7_lookup_40 rfl rfl (by decide) rfl ?_
      refine tg_goto 16 C0 dX7_lookup_43 (by decide) ?_
      refine tg_sub [1, 2, 3, 0] rfl ?_
      exact hL x1 x2 (x3 + 1) v7
    · refine tg_iload_n 3 C0 dX7_lookup_38 rfl rfl ?_
      exact tg_xiret C0 dX7_lookup_39 ⟨by decide, by decide⟩
def f_X7_lookup_16 (K0 : tmM → Option (tmR)) : Nat → Int32 → Int32 → Int32 → tmM → Option (tmR)
  | 0 => fun _ _ _ _ => none
  | n + 1 => f_X7_lookup_16b K0 (f_X7_lookup_16 K0 n)
theorem w_X7_lookup_16 {p : Program} {l : Launch} {e : Env} {s : State} {m : MethodId} {args : Array Value} {below : List Frame} {meth : Method} {c : Code} {D : va_G} {cy : Nat → ClassId} {ad : Nat → Nat} {A : Nat → Prop} {z : (tmR)} {K0 : tmM → Option (tmR)} (C0 : tmC p s m args meth c cX7_lookup 4 (some .int) RX7 TMW tm_NWC D cy tm_shC ad 256 [] A) (hl : l.stackTraces = false) (hE : tmTh A s s.heap) (hout : ∀ x ∈ c.exceptionTable.toList, False) (hK0 : ∀ (w : tmM), tmG p l e ({ frames := 7, cells := 2, slots := 12, locals := 110 } : Room) s m args below meth c 2 12 (vx_MQ below (va_Qi (fun r u => z = ((0, r), u)) (tmAt tm_shC 256 D cy ad A) A) (tmXX tm_shC 256 D cy ad A 0 z) args s 2 12 A) 4 D cy tm_shC ad 256 [] A z 46 [] [] w (K0 w)) (nn : Nat) : ∀ (x1 x2 x3 : Int32) (v : tmM), tmG p l e ({ frames := 7, cells := 2, slots := 12, locals := 110 } : Room) s m args below meth c 2 12 (vx_MQ below (va_Qi (fun r u => z = ((0, r), u)) (tmAt tm_shC 256 D cy ad A) A) (tmXX tm_shC 256 D cy ad A 0 z) args s 2 12 A) 4 D cy tm_shC ad 256 [] A z 16 [(0, .ref (ad 247)), (1, .int x1), (2, .int x2), (3, .int x3)] [] v (f_X7_lookup_16 K0 nn x1 x2 x3 v) := by
  induction nn with
  | zero => intro _ _ _ _; exact tg_none
  | succ n ih => intro x1 x2 x3 v; exact w_X7_lookup_16b C0 hl hE hout hK0 ih x1 x2 x3 v
def f_X7_lookup (x1 x2 : Int32) (v : tmM) : Option (tmR) := tm_cl (f_X7_isSide x1 v) fun r2 v1 => tm_cx (f_X7_requireIndex r2 v1) (fun _ v3 => tm_cl (f_X7_isValue x2 v3) fun r5 v4 => tm_cx (f_X7_requireArgument r5 v4) (fun _ v6 => f_X7_lookup_16 (fun v9 => some ((0, (-1)), v9)) 10000 x1 x2 0 v6) 0) 0
set_option maxRecDepth 100000 in
set_option maxHeartbeats 4000000 in
theorem w_X7_lookup {p : Program} {l : Launch} {e : Env} {s : State} {m : MethodId} {args : Array Value} {below : List Frame} {meth : Method} {c : Code} {D : va_G} {cy : Nat → ClassId} {ad : Nat → Nat} {A : Nat → Prop} {z : (tmR)} (C0 : tmC p s m args meth c cX7_lookup 4 (some .int) RX7 TMW tm_NWC D cy tm_shC ad 256 [] A) (hl : l.stackTraces = false) (hE : tmTh A s s.heap) (hout : ∀ x ∈ c.exceptionTable.toList, False) (x1 x2 : Int32) (v : tmM) : tmG p l e ({ frames := 7, cells := 2, slots := 12, locals := 110 } : Room) s m args below meth c 0 0 (vx_MQ below (va_Qi (fun r u => z = ((0, r), u)) (tmAt tm_shC 256 D cy ad A) A) (tmXX tm_shC 256 D cy ad A 0 z) args s 2 12 A) 4 D cy tm_shC ad 256 [] A z 0 [(0, .ref (ad 247)), (1, .int x1), (2, .int x2)] [] v (f_X7_lookup x1 x2 v) := by
  unfold f_X7_lookup
  refine tg_iload_n 1 C0 dX7_lookup_0 rfl rfl ?_
  refine tg_callSi (As := [.int x1]) 1 C0 dX7_lookup_1 (c_X7_isSide l x1 v) rfl rfl (tm_gc tc_X7_isSide) tl_X7_110 tn_X7 tst_X7_isSide  rfl rfl rfl rfl (by decide +kernel) ⟨by decide, by decide⟩ (Nat.le_of_ble_eq_true rfl) ⟨by decide, by decide⟩ (fun r2 v1 _ => ?_)
  refine tg_callSxi (As := [.int r2]) 1 C0 hE hout dX7_lookup_4 (c_X7_requireIndex l hl r2 v1) rfl rfl (tm_gS tl_X7_114 tst_X7_requireIndex tn_X7 tc_X7_requireIndex) rfl rfl rfl rfl (by decide +kernel) ⟨by decide, by decide⟩ (Nat.le_of_ble_eq_true rfl) ⟨by decide, by decide⟩ ⟨by decide, by decide⟩ (fun v3 _ => ?_)
  refine tg_iload_n 2 C0 dX7_lookup_7 rfl rfl ?_
  refine tg_callSi (As := [.int x2]) 1 C0 dX7_lookup_8 (c_X7_isValue l x2 v3) rfl rfl (tm_gc tc_X7_isValue) tl_X7_228 tn_X7 tst_X7_isValue  rfl rfl rfl rfl (by decide +kernel) ⟨by decide, by decide⟩ (Nat.le_of_ble_eq_true rfl) ⟨by decide, by decide⟩ (fun r5 v4 _ => ?_)
  refine tg_callSxi (As := [.int r5]) 1 C0 hE hout dX7_lookup_11 (c_X7_requireArgument l hl r5 v4) rfl rfl (tm_gS tl_X7_53 tst_X7_requireArgument tn_X7 tc_X7_requireArgument) rfl rfl rfl rfl (by decide +kernel) ⟨by decide, by decide⟩ (Nat.le_of_ble_eq_true rfl) ⟨by decide, by decide⟩ ⟨by decide, by decide⟩ (fun v6 _ => ?_)
  refine tg_iconst (x := 0) C0 dX7_lookup_14 (by decide) ?_
  refine tg_istore_n [(3, .int 0), (0, .ref (ad 247)), (1, .int x1), (2, .int x2)] C0 dX7_lookup_15 rfl (by decide) rfl ?_
  refine tg_sub [1, 2, 3, 0] rfl ?_
  refine w_X7_lookup_16 C0 hl hE hout (fun v9 => ?_) 10000 x1 x2 0 v6
  refine tg_iconst (x := (-1)) C0 dX7_lookup_46 (by decide) ?_
  exact tg_xiret C0 dX7_lookup_47 ⟨by decide, by decide⟩
theorem c_X7_lookup (l : Launch) (hl : l.stackTraces = false) (x1 x2 : Int32) (v : tmM) : tmXi tm_NWC tm_shC 256 l yX7_lookup (Cond.code yX7_lookup cX7_lookup 4 (some .int) :: TMW) ({ frames := 7, cells := 2, slots := 12, locals := 110 } : Room) (fun ad => [.ref (ad 247), .int x1, .int x2]) v 2 12 (f_X7_lookup x1 x2 v) :=
  tmXi.of (cc := cX7_lookup) (nL := 4) (by decide +kernel) rfl tm_NWC_ok (fun _ => Nat.le_of_ble_eq_true rfl) (fun p e s m args below meth c A D cy ad z C0 hE hout => w_X7_lookup C0 hl hE hout x1 x2 v)
-- ----- X7_total
theorem dX7_total_0 : decode cX7_total 0 = .ok (.iload_n 1, 1) := by decide +kernel
theorem dX7_total_1 : decode cX7_total 1 = .ok (.invokestatic 110, 3) := by decide +kernel
theorem dX7_total_4 : decode cX7_total 4 = .ok (.invokestatic 114, 3) := by decide +kernel
theorem dX7_total_7 : decode cX7_total 7 = .ok (.iload_n 2, 1) := by decide +kernel
theorem dX7_total_8 : decode cX7_total 8 = .ok (.ifCond .lt 12, 3) := by decide +kernel
theorem dX7_total_11 : decode cX7_total 11 = .ok (.iload_n 2, 1) := by decide +kernel
theorem dX7_total_12 : decode cX7_total 12 = .ok (.iconst 4, 1) := by decide +kernel
theorem dX7_total_13 : decode cX7_total 13 = .ok (.if_icmp .ge 7, 3) := by decide +kernel
theorem dX7_total_16 : decode cX7_total 16 = .ok (.iconst 1, 1) := by decide +kernel
theorem dX7_total_17 : decode cX7_total 17 = .ok (.goto 4, 3) := by decide +kernel
theorem dX7_total_20 : decode cX7_total 20 = .ok (.iconst 0, 1) := by decide +kernel
theorem dX7_total_21 : decode cX7_total 21 = .ok (.invokestatic 53, 3) := by decide +kernel
theorem dX7_total_24 : decode cX7_total 24 = .ok (.iload_n 2, 1) := by decide +kernel
theorem dX7_total_25 : decode cX7_total 25 = .ok (.tableswitch 66 0 2 #[27, 42, 54], 27) := by decide +kernel
theorem dX7_total_52 : decode cX7_total 52 = .ok (.aload_n 0, 1) := by decide +kernel
theorem dX7_total_53 : decode cX7_total 53 = .ok (.getfield 12, 3) := by decide +kernel
theorem dX7_total_56 : decode cX7_total 56 = .ok (.getfield 98, 3) := by decide +kernel
theorem dX7_total_59 : decode cX7_total 59 = .ok (.iload_n 1, 1) := by decide +kernel
theorem dX7_total_60 : decode cX7_total 60 = .ok (.iconst 0, 1) := by decide +kernel
theorem dX7_total_61 : decode cX7_total 61 = .ok (.bipush 59, 2) := by decide +kernel
theorem dX7_total_63 : decode cX7_total 63 = .ok (.invokevirtual 243, 3) := by decide +kernel
theorem dX7_total_66 : decode cX7_total 66 = .ok (.ireturn, 1) := by decide +kernel
theorem dX7_total_67 : decode cX7_total 67 = .ok (.aload_n 0, 1) := by decide +kernel
theorem dX7_total_68 : decode cX7_total 68 = .ok (.getfield 12, 3) := by decide +kernel
theorem dX7_total_71 : decode cX7_total 71 = .ok (.getfield 98, 3) := by decide +kernel
theorem dX7_total_74 : decode cX7_total 74 = .ok (.iload_n 1, 1) := by decide +kernel
theorem dX7_total_75 : decode cX7_total 75 = .ok (.invokevirtual 247, 3) := by decide +kernel
theorem dX7_total_78 : decode cX7_total 78 = .ok (.ireturn, 1) := by decide +kernel
theorem dX7_total_79 : decode cX7_total 79 = .ok (.aload_n 0, 1) := by decide +kernel
theorem dX7_total_80 : decode cX7_total 80 = .ok (.getfield 12, 3) := by decide +kernel
theorem dX7_total_83 : decode cX7_total 83 = .ok (.getfield 98, 3) := by decide +kernel
theorem dX7_total_86 : decode cX7_total 86 = .ok (.iload_n 1, 1) := by decide +kernel
theorem dX7_total_87 : decode cX7_total 87 = .ok (.invokevirtual 250, 3) := by decide +kernel
theorem dX7_total_90 : decode cX7_total 90 = .ok (.ireturn, 1) := by decide +kernel
theorem dX7_total_91 : decode cX7_total 91 = .ok (.aload_n 0, 1) := by decide +kernel
theorem dX7_total_92 : decode cX7_total 92 = .ok (.getfield 12, 3) := by decide +kernel
theorem dX7_total_95 : decode cX7_total 95 = .ok (.getfield 98, 3) := by decide +kernel
theorem dX7_total_98 : decode cX7_total 98 = .ok (.iload_n 1, 1) := by decide +kernel
theorem dX7_total_99 : decode cX7_total 99 = .ok (.invokevirtual 214, 3) := by decide +kernel
theorem dX7_total_102 : decode cX7_total 102 = .ok (.ireturn, 1) := by decide +kernel
theorem tl_X7_243 : Cond.methodLink RX7 243 yX5_valueSum ∈ TMW := tm_in 1187 (by decide +kernel) (by decide +kernel)
theorem ti_X5_valueSum : Cond.instanceMethod yX5_valueSum ∈ TMW := tm_in 1188 (by decide +kernel) (by decide +kernel)
theorem ts_X5_valueSum : Cond.selects RX5 yX5_valueSum yX5_valueSum ∈ TMW := tm_in 1189 (by decide +kernel) (by decide +kernel)
theorem tc_X5_valueSum : Cond.code yX5_valueSum cX5_valueSum 6 (some .int) ∈ TMW := tm_in 1190 (by decide +kernel) (by decide +kernel)
theorem tl_X7_247 : Cond.methodLink RX7 247 yX5_leastValue ∈ TMW := tm_in 1194 (by decide +kernel) (by decide +kernel)
theorem ti_X5_leastValue : Cond.instanceMethod yX5_leastValue ∈ TMW := tm_in 1195 (by decide +kernel) (by decide +kernel)
theorem ts_X5_leastValue : Cond.selects RX5 yX5_leastValue yX5_leastValue ∈ TMW := tm_in 1196 (by decide +kernel) (by decide +kernel)
theorem tc_X5_leastValue : Cond.code yX5_leastValue cX5_leastValue 5 (some .int) ∈ TMW := tm_in 1197 (by decide +kernel) (by decide +kernel)
theorem tl_X7_250 : Cond.methodLink RX7 250 yX5_greatestValue ∈ TMW := tm_in 1198 (by decide +kernel) (by decide +kernel)
theorem ti_X5_greatestValue : Cond.instanceMethod yX5_greatestValue ∈ TMW := tm_in 1199 (by decide +kernel) (by decide +kernel)
theorem ts_X5_greatestValue : Cond.selects RX5 yX5_greatestValue yX5_greatestValue ∈ TMW := tm_in 1200 (by decide +kernel) (by decide +kernel)
theorem tc_X5_greatestValue : Cond.code yX5_greatestValue cX5_greatestValue 4 (some .int) ∈ TMW := tm_in 1201 (by decide +kernel) (by decide +kernel)
def f_X7_total_21 (x1 x2 s0 : Int32) (v : tmM) : Option (tmR) := tm_cx (f_X7_requireArgument s0 v) (fun _ v4 => (if x2 = 0 then tm_cl (f_X5_valueSum x1 0 59 v4) fun r6 v5 => some ((0, r6), v5) else if x2 = 1 then tm_cl (f_X5_leastValue x1 v4) fun r9 v8 => some ((0, r9), v8) else if x2 = 2 then tm_cl (f_X5_greatestValue x1 v4) fun r12 v11 => some ((0, r12), v11) else tm_cl (f_X5_brokenCells x1 v4) fun r15 v14 => some ((0, r15), v14))) 0
set_option maxRecDepth 100000 in
set_option maxHeartbeats 4000000 in
theorem w_X7_total_21 {p : Program} {l : Launch} {e : Env} {s : State} {m : MethodId} {args : Array Value} {below : List Frame} {meth : Method} {c : Code} {D : va_G} {cy : Nat → ClassId} {ad : Nat → Nat} {A : Nat → Prop} {z : (tmR)} (C0 : tmC p s m args meth c cX7_total 3 (some .int) RX7 TMW tm_NWC D cy tm_shC ad 256 [] A) (hl : l.stackTraces = false) (hE : tmTh A s s.heap) (hout : ∀ x ∈ c.exceptionTable.toList, False) (x1 x2 s0 : Int32) (v : tmM) : tmG p l e ({ frames := 7, cells := 2, slots := 12, locals := 110 } : Room) s m args below meth c 1 6 (vx_MQ below (va_Qi (fun r u => z = ((0, r), u)) (tmAt tm_shC 256 D cy ad A) A) (tmXX tm_shC 256 D cy ad A 0 z) args s 2 12 A) 3 D cy tm_shC ad 256 [] A z 21 [(0, .ref (ad 247)), (1, .int x1), (2, .int x2)] [.int s0] v (f_X7_total_21 x1 x2 s0 v) := by
  unfold f_X7_total_21
  refine tg_callSxi (As := [.int s0]) 1 C0 hE hout dX7_total_21 (c_X7_requireArgument l hl s0 v) rfl rfl (tm_gS tl_X7_53 tst_X7_requireArgument tn_X7 tc_X7_requireArgument) rfl rfl rfl rfl (by decide +kernel) ⟨by decide, by decide⟩ (Nat.le_of_ble_eq_true rfl) ⟨by decide, by decide⟩ ⟨by decide, by decide⟩ (fun v4 _ => ?_)
  refine tg_iload_n 2 C0 dX7_total_24 rfl rfl ?_
  refine tg_tab 0 (cst := 0) 52 tg_tab0 C0 dX7_total_25 (by decide) rfl (by decide) (by decide) (fun _ => ?_) (fun h7 => ?_)
  · refine tg_aload_n 0 C0 dX7_total_52 rfl rfl ?_
    refine tg_get 247 0 C0 dX7_total_53 (by decide) rfl rfl tu_X7 (by decide) tf_X7_12 rfl rfl rfl ?_
    refine tg_getN 0 5 C0 dX7_total_56 (by decide) rfl rfl tu_X4 (by decide) tm_nwC_X7_98 rfl rfl rfl ?_
    refine tg_iload_n 1 C0 dX7_total_59 rfl rfl ?_
    refine tg_iconst (x := 0) C0 dX7_total_60 (by decide) ?_
    refine tg_bipush (x := 59) C0 dX7_total_61 (by decide) ?_
    refine tg_callVi (As := [.int x1, .int 0, .int 59]) 1 3 C0 dX7_total_63 (c_X5_valueSum l x1 0 59 v4) rfl rfl (by decide) rfl rfl (tm_gV tl_X7_243 ti_X5_valueSum ts_X5_valueSum tn_X5 tc_X5_valueSum)  rfl rfl rfl rfl (by decide +kernel) ⟨by decide, by decide⟩ (Nat.le_of_ble_eq_true rfl) ⟨by decide, by decide⟩ (fun r6 v5 _ => ?_)
    exact tg_xiret C0 dX7_total_66 ⟨by decide, by decide⟩
  refine tg_tab 1 (cst := 1) 67 h7 C0 dX7_total_25 (by decide) rfl (by decide) (by decide) (fun _ => ?_) (fun h10 => ?_)
  · refine tg_aload_n 0 C0 dX7_total_67 rfl rfl ?_
    refine tg_get 247 0 C0 dX7_total_68 (by decide) rfl rfl tu_X7 (by decide) tf_X7_12 rfl rfl rfl ?_
    refine tg_getN 0 5 C0 dX7_total_71 (by decide) rfl rfl tu_X4 (by decide) tm_nwC_X7_98 rfl rfl rfl ?_
    refine tg_iload_n 1 C0 dX7_total_74 rfl rfl ?_
    refine tg_callVi (As := [.int x1]) 1 1 C0 dX7_total_75 (c_X5_leastValue l x1 v4) rfl rfl (by decide) rfl rfl (tm_gV tl_X7_247 ti_X5_leastValue ts_X5_leastValue tn_X5 tc_X5_leastValue)  rfl rfl rfl rfl (by decide +kernel) ⟨by decide, by decide⟩ (Nat.le_of_ble_eq_true rfl) ⟨by decide, by decide⟩ (fun r9 v8 _ => ?_)
    exact tg_xiret C0 dX7_total_78 ⟨by decide, by decide⟩
  refine tg_tab 2 (cst := 2) 79 h10 C0 dX7_total_25 (by decide) rfl (by decide) (by decide) (fun _ => ?_) (fun h13 => ?_)
  · refine tg_aload_n 0 C0 dX7_total_79 rfl rfl ?_
    refine tg_get 247 0 C0 dX7_total_80 (by decide) rfl rfl tu_X7 (by decide) tf_X7_12 rfl rfl rfl ?_
    refine tg_getN 0 5 C0 dX7_total_83 (by decide) rfl rfl tu_X4 (by decide) tm_nwC_X7_98 rfl rfl rfl ?_
    refine tg_iload_n 1 C0 dX7_total_86 rfl rfl ?_
    refine tg_callVi (As := [.int x1]) 1 1 C0 dX7_total_87 (c_X5_greatestValue l x1 v4) rfl rfl (by decide) rfl rfl (tm_gV tl_X7_250 ti_X5_greatestValue ts_X5_greatestValue tn_X5 tc_X5_greatestValue)  rfl rfl rfl rfl (by decide +kernel) ⟨by decide, by decide⟩ (Nat.le_of_ble_eq_true rfl) ⟨by decide, by decide⟩ (fun r12 v11 _ => ?_)
    exact tg_xiret C0 dX7_total_90 ⟨by decide, by decide⟩
  refine tg_tabO 3 91 h13 C0 dX7_total_25 (by decide) (by decide) ?_
  refine tg_aload_n 0 C0 dX7_total_91 rfl rfl ?_
  refine tg_get 247 0 C0 dX7_total_92 (by decide) rfl rfl tu_X7 (by decide) tf_X7_12 rfl rfl rfl ?_
  refine tg_getN 0 5 C0 dX7_total_95 (by decide) rfl rfl tu_X4 (by decide) tm_nwC_X7_98 rfl rfl rfl ?_
  refine tg_iload_n 1 C0 dX7_total_98 rfl rfl ?_
  refine tg_callVi (As := [.int x1]) 1 1 C0 dX7_total_99 (c_X5_brokenCells l x1 v4) rfl rfl (by decide) rfl rfl (tm_gV tl_X7_214 ti_X5_brokenCells ts_X5_brokenCells tn_X5 tc_X5_brokenCells)  rfl rfl rfl rfl (by decide +kernel) ⟨by decide, by decide⟩ (Nat.le_of_ble_eq_true rfl) ⟨by decide, by decide⟩ (fun r15 v14 _ => ?_)
  exact tg_xiret C0 dX7_total_102 ⟨by decide, by decide⟩
def f_X7_total_20 (x1 x2 : Int32) (v : tmM) : Option (tmR) := f_X7_total_21 x1 x2 0 v
set_option maxRecDepth 100000 in
set_option maxHeartbeats 4000000 in
theorem w_X7_total_20 {p : Program} {l : Launch} {e : Env} {s : State} {m : MethodId} {args : Array Value} {below : List Frame} {meth : Method} {c : Code} {D : va_G} {cy : Nat → ClassId} {ad : Nat → Nat} {A : Nat → Prop} {z : (tmR)} (C0 : tmC p s m args meth c cX7_total 3 (some .int) RX7 TMW tm_NWC D cy tm_shC ad 256 [] A) (hl : l.stackTraces = false) (hE : tmTh A s s.heap) (hout : ∀ x ∈ c.exceptionTable.toList, False) (x1 x2 : Int32) (v : tmM) : tmG p l e ({ frames := 7, cells := 2, slots := 12, locals := 110 } : Room) s m args below meth c 1 6 (vx_MQ below (va_Qi (fun r u => z = ((0, r), u)) (tmAt tm_shC 256 D cy ad A) A) (tmXX tm_shC 256 D cy ad A 0 z) args s 2 12 A) 3 D cy tm_shC ad 256 [] A z 20 [(0, .ref (ad 247)), (1, .int x1), (2, .int x2)] [] v (f_X7_total_20 x1 x2 v) := by
  unfold f_X7_total_20
  refine tg_iconst (x := 0) C0 dX7_total_20 (by decide) ?_
  exact w_X7_total_21 C0 hl hE hout x1 x2 0 v
def f_X7_total (x1 x2 : Int32) (v : tmM) : Option (tmR) := tm_cl (f_X7_isSide x1 v) fun r2 v1 => tm_cx (f_X7_requireIndex r2 v1) (fun _ v3 => (if x2 < 0 then f_X7_total_20 x1 x2 v3 else (if 4 ≤ x2 then f_X7_total_20 x1 x2 v3 else f_X7_total_21 x1 x2 1 v3))) 0
set_option maxRecDepth 100000 in
set_option maxHeartbeats 4000000 in
theorem w_X7_total {p : Program} {l : Launch} {e : Env} {s : State} {m : MethodId} {args : Array Value} {below : List Frame} {meth : Method} {c : Code} {D : va_G} {cy : Nat → ClassId} {ad : Nat → Nat} {A : Nat → Prop} {z : (tmR)} (C0 : tmC p s m args meth c cX7_total 3 (some .int) RX7 TMW tm_NWC D cy tm_shC ad 256 [] A) (hl : l.stackTraces = false) (hE : tmTh A s s.heap) (hout : ∀ x ∈ c.exceptionTable.toList, False) (x1 x2 : Int32) (v : tmM) : tmG p l e ({ frames := 7, cells := 2, slots := 12, locals := 110 } : Room) s m args below meth c 0 0 (vx_MQ below (va_Qi (fun r u => z = ((0, r), u)) (tmAt tm_shC 256 D cy ad A) A) (tmXX tm_shC 256 D cy ad A 0 z) args s 2 12 A) 3 D cy tm_shC ad 256 [] A z 0 [(0, .ref (ad 247)), (1, .int x1), (2, .int x2)] [] v (f_X7_total x1 x2 v) := by
  unfold f_X7_total
  refine tg_iload_n 1 C0 dX7_total_0 rfl rfl ?_
  refine tg_callSi (As := [.int x1]) 1 C0 dX7_total_1 (c_X7_isSide l x1 v) rfl rfl (tm_gc tc_X7_isSide) tl_X7_110 tn_X7 tst_X7_isSide  rfl rfl rfl rfl (by decide +kernel) ⟨by decide, by decide⟩ (Nat.le_of_ble_eq_true rfl) ⟨by decide, by decide⟩ (fun r2 v1 _ => ?_)
  refine tg_callSxi (As := [.int r2]) 1 C0 hE hout dX7_total_4 (c_X7_requireIndex l hl r2 v1) rfl rfl (tm_gS tl_X7_114 tst_X7_requireIndex tn_X7 tc_X7_requireIndex) rfl rfl rfl rfl (by decide +kernel) ⟨by decide, by decide⟩ (Nat.le_of_ble_eq_true rfl) ⟨by decide, by decide⟩ ⟨by decide, by decide⟩ (fun v3 _ => ?_)
  refine tg_iload_n 2 C0 dX7_total_7 rfl rfl ?_
  refine tg_if_lt 20 C0 dX7_total_8 (by decide) (fun _ => ?_) (fun _ => ?_)
  · exact w_X7_total_20 C0 hl hE hout x1 x2 v3
  · refine tg_iload_n 2 C0 dX7_total_11 rfl rfl ?_
    refine tg_iconst (x := 4) C0 dX7_total_12 (by decide) ?_
    refine tg_icmp_ge 20 C0 dX7_total_13 (by decide) (fun _ => ?_) (fun _ => ?_)
    · exact w_X7_total_20 C0 hl hE hout x1 x2 v3
    · refine tg_iconst (x := 1) C0 dX7_total_16 (by decide) ?_
      refine tg_goto 21 C0 dX7_total_17 (by decide) ?_
      exact w_X7_total_21 C0 hl hE hout x1 x2 1 v3
theorem c_X7_total (l : Launch) (hl : l.stackTraces = false) (x1 x2 : Int32) (v : tmM) : tmXi tm_NWC tm_shC 256 l yX7_total (Cond.code yX7_total cX7_total 3 (some .int) :: TMW) ({ frames := 7, cells := 2, slots := 12, locals := 110 } : Room) (fun ad => [.ref (ad 247), .int x1, .int x2]) v 2 12 (f_X7_total x1 x2 v) :=
  tmXi.of (cc := cX7_total) (nL := 3) (by decide +kernel) rfl tm_NWC_ok (fun _ => Nat.le_of_ble_eq_true rfl) (fun p e s m args below meth c A D cy ad z C0 hE hout => w_X7_total C0 hl hE hout x1 x2 v)
-- ----- X7_readSum
theorem dX7_readSum_0 : decode cX7_readSum 0 = .ok (.iload_n 1, 1) := by decide +kernel
theorem dX7_readSum_1 : decode cX7_readSum 1 = .ok (.invokestatic 180, 3) := by decide +kernel
theorem dX7_readSum_4 : decode cX7_readSum 4 = .ok (.ifCond .eq 15, 3) := by decide +kernel
theorem dX7_readSum_7 : decode cX7_readSum 7 = .ok (.iload_n 2, 1) := by decide +kernel
theorem dX7_readSum_8 : decode cX7_readSum 8 = .ok (.iload_n 3, 1) := by decide +kernel
theorem dX7_readSum_9 : decode cX7_readSum 9 = .ok (.invokestatic 231, 3) := by decide +kernel
theorem dX7_readSum_12 : decode cX7_readSum 12 = .ok (.ifCond .eq 7, 3) := by decide +kernel
theorem dX7_readSum_15 : decode cX7_readSum 15 = .ok (.iconst 1, 1) := by decide +kernel
theorem dX7_readSum_16 : decode cX7_readSum 16 = .ok (.goto 4, 3) := by decide +kernel
theorem dX7_readSum_19 : decode cX7_readSum 19 = .ok (.iconst 0, 1) := by decide +kernel
theorem dX7_readSum_20 : decode cX7_readSum 20 = .ok (.invokestatic 114, 3) := by decide +kernel
theorem dX7_readSum_23 : decode cX7_readSum 23 = .ok (.aload_n 0, 1) := by decide +kernel
theorem dX7_readSum_24 : decode cX7_readSum 24 = .ok (.getfield 12, 3) := by decide +kernel
theorem dX7_readSum_27 : decode cX7_readSum 27 = .ok (.iload_n 1, 1) := by decide +kernel
theorem dX7_readSum_28 : decode cX7_readSum 28 = .ok (.invokevirtual 183, 3) := by decide +kernel
theorem dX7_readSum_31 : decode cX7_readSum 31 = .ok (.istore 4, 2) := by decide +kernel
theorem dX7_readSum_33 : decode cX7_readSum 33 = .ok (.aload_n 0, 1) := by decide +kernel
theorem dX7_readSum_34 : decode cX7_readSum 34 = .ok (.getfield 12, 3) := by decide +kernel
theorem dX7_readSum_37 : decode cX7_readSum 37 = .ok (.getfield 117, 3) := by decide +kernel
theorem dX7_readSum_40 : decode cX7_readSum 40 = .ok (.iload 4, 2) := by decide +kernel
theorem dX7_readSum_42 : decode cX7_readSum 42 = .ok (.invokestatic 120, 3) := by decide +kernel
theorem dX7_readSum_45 : decode cX7_readSum 45 = .ok (.ifCond .ne 6, 3) := by decide +kernel
theorem dX7_readSum_48 : decode cX7_readSum 48 = .ok (.bipush (-2), 2) := by decide +kernel
theorem dX7_readSum_50 : decode cX7_readSum 50 = .ok (.ireturn, 1) := by decide +kernel
theorem dX7_readSum_51 : decode cX7_readSum 51 = .ok (.iload_n 2, 1) := by decide +kernel
theorem dX7_readSum_52 : decode cX7_readSum 52 = .ok (.istore 5, 2) := by decide +kernel
theorem dX7_readSum_54 : decode cX7_readSum 54 = .ok (.iload 5, 2) := by decide +kernel
theorem dX7_readSum_56 : decode cX7_readSum 56 = .ok (.iload_n 3, 1) := by decide +kernel
theorem dX7_readSum_57 : decode cX7_readSum 57 = .ok (.if_icmp .gt 31, 3) := by decide +kernel
theorem dX7_readSum_60 : decode cX7_readSum 60 = .ok (.aload_n 0, 1) := by decide +kernel
theorem dX7_readSum_61 : decode cX7_readSum 61 = .ok (.getfield 12, 3) := by decide +kernel
theorem dX7_readSum_64 : decode cX7_readSum 64 = .ok (.getfield 98, 3) := by decide +kernel
theorem dX7_readSum_67 : decode cX7_readSum 67 = .ok (.iload 4, 2) := by decide +kernel
theorem dX7_readSum_69 : decode cX7_readSum 69 = .ok (.iload 5, 2) := by decide +kernel
theorem dX7_readSum_71 : decode cX7_readSum 71 = .ok (.invokevirtual 186, 3) := by decide +kernel
theorem dX7_readSum_74 : decode cX7_readSum 74 = .ok (.bipush (-3), 2) := by decide +kernel
theorem dX7_readSum_76 : decode cX7_readSum 76 = .ok (.if_icmp .ne 6, 3) := by decide +kernel
theorem dX7_readSum_79 : decode cX7_readSum 79 = .ok (.bipush (-3), 2) := by decide +kernel
theorem dX7_readSum_81 : decode cX7_readSum 81 = .ok (.ireturn, 1) := by decide +kernel
theorem dX7_readSum_82 : decode cX7_readSum 82 = .ok (.iinc 5 1, 3) := by decide +kernel
theorem dX7_readSum_85 : decode cX7_readSum 85 = .ok (.goto (-31), 3) := by decide +kernel
theorem dX7_readSum_88 : decode cX7_readSum 88 = .ok (.aload_n 0, 1) := by decide +kernel
theorem dX7_readSum_89 : decode cX7_readSum 89 = .ok (.getfield 12, 3) := by decide +kernel
theorem dX7_readSum_92 : decode cX7_readSum 92 = .ok (.getfield 98, 3) := by decide +kernel
theorem dX7_readSum_95 : decode cX7_readSum 95 = .ok (.iload 4, 2) := by decide +kernel
theorem dX7_readSum_97 : decode cX7_readSum 97 = .ok (.iload_n 2, 1) := by decide +kernel
theorem dX7_readSum_98 : decode cX7_readSum 98 = .ok (.iload_n 3, 1) := by decide +kernel
theorem dX7_readSum_99 : decode cX7_readSum 99 = .ok (.invokevirtual 243, 3) := by decide +kernel
theorem dX7_readSum_102 : decode cX7_readSum 102 = .ok (.ireturn, 1) := by decide +kernel
def f_X7_readSum_54b (K0 : Int32 → Int32 → Int32 → tmM → Option (tmR)) (L : Int32 → Int32 → Int32 → Int32 → tmM → Option (tmR)) (x2 x3 x4 x5 : Int32) (v : tmM) : Option (tmR) := (if x3 < x5 then K0 x2 x3 x4 v else tm_cl (f_X5_valueAt x4 x5 v) fun r9 v8 => (if r9 = (-3) then some ((0, (-3)), v8) else L x2 x3 x4 (x5 + 1) v8))
set_option maxRecDepth 100000 in
set_option maxHeartbeats 4000000 in
theorem w_X7_readSum_54b {p : Program} {l : Launch} {e : Env} {s : State} {m : MethodId} {args : Array Value} {below : List Frame} {meth : Method} {c : Code} {D : va_G} {cy : Nat → ClassId} {ad : Nat → Nat} {A : Nat → Prop} {z : (tmR)} {K0 : Int32 → Int32 → Int32 → tmM → Option (tmR)} {L : Int32 → Int32 → Int32 → Int32 → tmM → Option (tmR)} (C0 : tmC p s m args meth c cX7_readSum 6 (some .int) RX7 TMW tm_NWC D cy tm_shC ad 256 [] A) (hl : l.stackTraces = false) (hE : tmTh A s s.heap) (hout : ∀ x ∈ c.exceptionTable.toList, False) (hK0 : ∀ (a2 a3 a4 : Int32) (w : tmM), tmG p l e ({ frames := 7, cells := 1, slots := 6, locals := 110 } : Room) s m args below meth c 1 6 (vx_MQ below (va_Qi (fun r u => z = ((0, r), u)) (tmAt tm_shC 256 D cy ad A) A) (tmXX tm_shC 256 D cy ad A 0 z) args s 1 6 A) 6 D cy tm_shC ad 256 [] A z 88 [(0, .ref (ad 247)), (2, .int a2), (3, .int a3), (4, .int a4)] [] w (K0 a2 a3 a4 w)) (hL : ∀ (a2 a3 a4 a5 : Int32) (w : tmM), tmG p l e ({ frames := 7, cells := 1, slots := 6, locals := 110 } : Room) s m args below meth c 1 6 (vx_MQ below (va_Qi (fun r u => z = ((0, r), u)) (tmAt tm_shC 256 D cy ad A) A) (tmXX tm_shC 256 D cy ad A 0 z) args s 1 6 A) 6 D cy tm_shC ad 256 [] A z 54 [(0, .ref (ad 247)), (2, .int a2), (3, .int a3), (4, .int a4), (5, .int a5)] [] w (L a2 a3 a4 a5 w)) (x2 x3 x4 x5 : Int32) (v : tmM) : tmG p l e ({ frames := 7, cells := 1, slots := 6, locals := 110 } : Room) s m args below meth c 1 6 (vx_MQ below (va_Qi (fun r u => z = ((0, r), u)) (tmAt tm_shC 256 D cy ad A) A) (tmXX tm_shC 256 D cy ad A 0 z) args s 1 6 A) 6 D cy tm_shC ad 256 [] A z 54 [(0, .ref (ad 247)), (2, .int x2), (3, .int x3), (4, .int x4), (5, .int x5)] [] v (f_X7_readSum_54b K0 L x2 x3 x4 x5 v) := by
  unfold f_X7_readSum_54b
  refine tg_iload 4 C0 dX7_readSum_54 rfl ?_
  refine tg_iload_n 2 C0 dX7_readSum_56 rfl rfl ?_
  refine tg_icmp_gt 88 C0 dX7_readSum_57 (by decide) (fun _ => ?_) (fun _ => ?_)
  · refine tg_sub [0, 1, 2, 3] rfl ?_
    exact hK0 x2 x3 x4 v
  · refine tg_aload_n 0 C0 dX7_readSum_60 rfl rfl ?_
    refine tg_get 247 0 C0 dX7_readSum_61 (by decide) rfl rfl tu_X7 (by decide) tf_X7_12 rfl rfl rfl ?_
    refine tg_getN 0 5 C0 dX7_readSum_64 (by decide) rfl rfl tu_X4 (by decide) tm_nwC_X7_98 rfl rfl rfl ?_
    refine tg_iload 3 C0 dX7_readSum_67 rfl ?_
    refine tg_iload 4 C0 dX7_readSum_69 rfl ?_
    refine tg_callVi (As := [.int x4, .int x5]) 1 2 C0 dX7_readSum_71 (c_X5_valueAt l x4 x5 v) rfl rfl (by decide) rfl rfl (tm_gV tl_X7_186 ti_X5_valueAt ts_X5_valueAt tn_X5 tc_X5_valueAt)  rfl rfl rfl rfl (by decide +kernel) ⟨by decide, by decide⟩ (Nat.le_of_ble_eq_true rfl) ⟨by decide, by decide⟩ (fun r9 v8 _ => ?_)
    refine tg_bipush (x := (-3)) C0 dX7_readSum_74 (by decide) ?_
    refine tg_icmp_ne 82 C0 dX7_readSum_76 (by decide) (fun _ => ?_) (fun _ => ?_)
    · refine tg_iinc [(5, .int (x5 + 1)), (0, .ref (ad 247)), (2, .int x2), (3, .int x3), (4, .int x4)] 4 C0 dX7_readSum_82 rfl rfl (by decide) rfl ?_
      refine tg_goto 54 C0 dX7_readSum_85 (by decide) ?_
      refine tg_sub [1, 2, 3, 4, 0] rfl ?_
      exact hL x2 x3 x4 (x5 + 1) v8
    · refine tg_bipush (x := (-3)) C0 dX7_readSum_79 (by decide) ?_
      exact tg_xiret C0 dX7_readSum_81 ⟨by decide, by decide⟩
def f_X7_readSum_54 (K0 : Int32 → Int32 → Int32 → tmM → Option (tmR)) : Nat → Int32 → Int32 → Int32 → Int32 → tmM → Option (tmR)
  | 0 => fun _ _ _ _ _ => none
  | n + 1 => f_X7_readSum_54b K0 (f_X7_readSum_54 K0 n)
theorem w_X7_readSum_54 {p : Program} {l : Launch} {e : Env} {s : State} {m : MethodId} {args : Array Value} {below : List Frame} {meth : Method} {c : Code} {D : va_G} {cy : Nat → ClassId} {ad : Nat → Nat} {A : Nat → Prop} {z : (tmR)} {K0 : Int32 → Int32 → Int32 → tmM → Option (tmR)} (C0 : tmC p s m args meth c cX7_readSum 6 (some .int) RX7 TMW tm_NWC D cy tm_shC ad 256 [] A) (hl : l.stackTraces = false) (hE : tmTh A s s.heap) (hout : ∀ x ∈ c.exceptionTable.toList, False) (hK0 : ∀ (a2 a3 a4 : Int32) (w : tmM), tmG p l e ({ frames := 7, cells := 1, slots := 6, locals := 110 } : Room) s m args below meth c 1 6 (vx_MQ below (va_Qi (fun r u => z = ((0, r), u)) (tmAt tm_shC 256 D cy ad A) A) (tmXX tm_shC 256 D cy ad A 0 z) args s 1 6 A) 6 D cy tm_shC ad 256 [] A z 88 [(0, .ref (ad 247)), (2, .int a2), (3, .int a3), (4, .int a4)] [] w (K0 a2 a3 a4 w)) (nn : Nat) : ∀ (x2 x3 x4 x5 : Int32) (v : tmM), tmG p l e ({ frames := 7, cells := 1, slots := 6, locals := 110 } : Room) s m args below meth c 1 6 (vx_MQ below (va_Qi (fun r u => z = ((0, r), u)) (tmAt tm_shC 256 D cy ad A) A) (tmXX tm_shC 256 D cy ad A 0 z) args s 1 6 A) 6 D cy tm_shC ad 256 [] A z 54 [(0, .ref (ad 247)), (2, .int x2), (3, .int x3), (4, .int x4), (5, .int x5)] [] v (f_X7_readSum_54 K0 nn x2 x3 x4 x5 v) := by
  induction nn with
  | zero => intro _ _ _ _ _; exact tg_none
  | succ n ih => intro x2 x3 x4 x5 v; exact w_X7_readSum_54b C0 hl hE hout hK0 ih x2 x3 x4 x5 v
def f_X7_readSum_20 (x1 x2 x3 s0 : Int32) (v : tmM) : Option (tmR) := tm_cx (f_X7_requireIndex s0 v) (fun _ v3 => tm_cl (f_X4_sideOf x1 v3) fun r5 v4 => tm_cl (f_X7_has (v4 0 1) r5 v4) fun r7 v6 => (if r7 = 0 then some ((0, (-2)), v6) else f_X7_readSum_54 (fun x10 x11 x12 v13 => tm_cl (f_X5_valueSum x12 x10 x11 v13) fun r15 v14 => some ((0, r15), v14)) 10000 x2 x3 r5 x2 v6)) 0
set_option maxRecDepth 100000 in
set_option maxHeartbeats 4000000 in
theorem w_X7_readSum_20 {p : Program} {l : Launch} {e : Env} {s : State} {m : MethodId} {args : Array Value} {below : List Frame} {meth : Method} {c : Code} {D : va_G} {cy : Nat → ClassId} {ad : Nat → Nat} {A : Nat → Prop} {z : (tmR)} (C0 : tmC p s m args meth c cX7_readSum 6 (some .int) RX7 TMW tm_NWC D cy tm_shC ad 256 [] A) (hl : l.stackTraces = false) (hE : tmTh A s s.heap) (hout : ∀ x ∈ c.exceptionTable.toList, False) (x1 x2 x3 s0 : Int32) (v : tmM) : tmG p l e ({ frames := 7, cells := 1, slots := 6, locals := 110 } : Room) s m args below meth c 0 0 (vx_MQ below (va_Qi (fun r u => z = ((0, r), u)) (tmAt tm_shC 256 D cy ad A) A) (tmXX tm_shC 256 D cy ad A 0 z) args s 1 6 A) 6 D cy tm_shC ad 256 [] A z 20 [(0, .ref (ad 247)), (1, .int x1), (2, .int x2), (3, .int x3)] [.int s0] v (f_X7_readSum_20 x1 x2 x3 s0 v) := by
  unfold f_X7_readSum_20
  refine tg_callSxi (As := [.int s0]) 1 C0 hE hout dX7_readSum_20 (c_X7_requireIndex l hl s0 v) rfl rfl (tm_gS tl_X7_114 tst_X7_requireIndex tn_X7 tc_X7_requireIndex) rfl rfl rfl rfl (by decide +kernel) ⟨by decide, by decide⟩ (Nat.le_of_ble_eq_true rfl) ⟨by decide, by decide⟩ ⟨by decide, by decide⟩ (fun v3 _ => ?_)
  refine tg_aload_n 0 C0 dX7_readSum_23 rfl rfl ?_
  refine tg_get 247 0 C0 dX7_readSum_24 (by decide) rfl rfl tu_X7 (by decide) tf_X7_12 rfl rfl rfl ?_
  refine tg_iload_n 1 C0 dX7_readSum_27 rfl rfl ?_
  refine tg_callVi (As := [.int x1]) 0 1 C0 dX7_readSum_28 (c_X4_sideOf l x1 v3) rfl rfl (by decide) rfl rfl (tm_gV tl_X7_183 ti_X4_sideOf ts_X4_sideOf tn_X4 tc_X4_sideOf)  rfl rfl rfl rfl (by decide +kernel) ⟨by decide, by decide⟩ (Nat.le_of_ble_eq_true rfl) ⟨by decide, by decide⟩ (fun r5 v4 _ => ?_)
  refine tg_istore [(4, .int r5), (0, .ref (ad 247)), (1, .int x1), (2, .int x2), (3, .int x3)] C0 dX7_readSum_31 (by decide) rfl ?_
  refine tg_aload_n 1 C0 dX7_readSum_33 rfl rfl ?_
  refine tg_get 247 0 C0 dX7_readSum_34 (by decide) rfl rfl tu_X7 (by decide) tf_X7_12 rfl rfl rfl ?_
  refine tg_getN 0 1 C0 dX7_readSum_37 (by decide) rfl rfl tu_X4 (by decide) tm_nwC_X7_117 rfl rfl rfl ?_
  refine tg_iload 0 C0 dX7_readSum_40 rfl ?_
  refine tg_callSi (As := [.int (v4 0 1), .int r5]) 2 C0 dX7_readSum_42 (c_X7_has l (v4 0 1) r5 v4) rfl rfl (tm_gc tc_X7_has) tl_X7_120 tn_X7 tst_X7_has  rfl rfl rfl rfl (by decide +kernel) ⟨by decide, by decide⟩ (Nat.le_of_ble_eq_true rfl) ⟨by decide, by decide⟩ (fun r7 v6 _ => ?_)
  refine tg_if_ne 51 C0 dX7_readSum_45 (by decide) (fun _ => ?_) (fun _ => ?_)
  · refine tg_iload_n 3 C0 dX7_readSum_51 rfl rfl ?_
    refine tg_istore [(5, .int x2), (4, .int r5), (0, .ref (ad 247)), (1, .int x1), (2, .int x2), (3, .int x3)] C0 dX7_readSum_52 (by decide) rfl ?_
    refine tg_sub [2, 4, 5, 1, 0] rfl ?_
    refine w_X7_readSum_54 C0 hl hE hout (fun x10 x11 x12 v13 => ?_) 10000 x2 x3 r5 x2 v6
    refine tg_aload_n 0 C0 dX7_readSum_88 rfl rfl ?_
    refine tg_get 247 0 C0 dX7_readSum_89 (by decide) rfl rfl tu_X7 (by decide) tf_X7_12 rfl rfl rfl ?_
    refine tg_getN 0 5 C0 dX7_readSum_92 (by decide) rfl rfl tu_X4 (by decide) tm_nwC_X7_98 rfl rfl rfl ?_
    refine tg_iload 3 C0 dX7_readSum_95 rfl ?_
    refine tg_iload_n 1 C0 dX7_readSum_97 rfl rfl ?_
    refine tg_iload_n 2 C0 dX7_readSum_98 rfl rfl ?_
    refine tg_callVi (As := [.int x12, .int x10, .int x11]) 1 3 C0 dX7_readSum_99 (c_X5_valueSum l x12 x10 x11 v13) rfl rfl (by decide) rfl rfl (tm_gV tl_X7_243 ti_X5_valueSum ts_X5_valueSum tn_X5 tc_X5_valueSum)  rfl rfl rfl rfl (by decide +kernel) ⟨by decide, by decide⟩ (Nat.le_of_ble_eq_true rfl) ⟨by decide, by decide⟩ (fun r15 v14 _ => ?_)
    exact tg_xiret C0 dX7_readSum_102 ⟨by decide, by decide⟩
  · refine tg_bipush (x := (-2)) C0 dX7_readSum_48 (by decide) ?_
    exact tg_xiret C0 dX7_readSum_50 ⟨by decide, by decide⟩
def f_X7_readSum_19 (x1 x2 x3 : Int32) (v : tmM) : Option (tmR) := f_X7_readSum_20 x1 x2 x3 0 v
set_option maxRecDepth 100000 in
set_option maxHeartbeats 4000000 in
theorem w_X7_readSum_19 {p : Program} {l : Launch} {e : Env} {s : State} {m : MethodId} {args : Array Value} {below : List Frame} {meth : Method} {c : Code} {D : va_G} {cy : Nat → ClassId} {ad : Nat → Nat} {A : Nat → Prop} {z : (tmR)} (C0 : tmC p s m args meth c cX7_readSum 6 (some .int) RX7 TMW tm_NWC D cy tm_shC ad 256 [] A) (hl : l.stackTraces = false) (hE : tmTh A s s.heap) (hout : ∀ x ∈ c.exceptionTable.toList, False) (x1 x2 x3 : Int32) (v : tmM) : tmG p l e ({ frames := 7, cells := 1, slots := 6, locals := 110 } : Room) s m args below meth c 0 0 (vx_MQ below (va_Qi (fun r u => z = ((0, r), u)) (tmAt tm_shC 256 D cy ad A) A) (tmXX tm_shC 256 D cy ad A 0 z) args s 1 6 A) 6 D cy tm_shC ad 256 [] A z 19 [(0, .ref (ad 247)), (1, .int x1), (2, .int x2), (3, .int x3)] [] v (f_X7_readSum_19 x1 x2 x3 v) := by
  unfold f_X7_readSum_19
  refine tg_iconst (x := 0) C0 dX7_readSum_19 (by decide) ?_
  exact w_X7_readSum_20 C0 hl hE hout x1 x2 x3 0 v
def f_X7_readSum (x1 x2 x3 : Int32) (v : tmM) : Option (tmR) := tm_cl (f_X7_isReader x1 v) fun r2 v1 => (if r2 = 0 then f_X7_readSum_19 x1 x2 x3 v1 else tm_cl (f_X7_isRange x2 x3 v1) fun r17 v16 => (if r17 = 0 then f_X7_readSum_19 x1 x2 x3 v16 else f_X7_readSum_20 x1 x2 x3 1 v16))
set_option maxRecDepth 100000 in
set_option maxHeartbeats 4000000 in
theorem w_X7_readSum {p : Program} {l : Launch} {e : Env} {s : State} {m : MethodId} {args : Array Value} {below : List Frame} {meth : Method} {c : Code} {D : va_G} {cy : Nat → ClassId} {ad : Nat → Nat} {A : Nat → Prop} {z : (tmR)} (C0 : tmC p s m args meth c cX7_readSum 6 (some .int) RX7 TMW tm_NWC D cy tm_shC ad 256 [] A) (hl : l.stackTraces = false) (hE : tmTh A s s.heap) (hout : ∀ x ∈ c.exceptionTable.toList, False) (x1 x2 x3 : Int32) (v : tmM) : tmG p l e ({ frames := 7, cells := 1, slots := 6, locals := 110 } : Room) s m args below meth c 0 0 (vx_MQ below (va_Qi (fun r u => z = ((0, r), u)) (tmAt tm_shC 256 D cy ad A) A) (tmXX tm_shC 256 D cy ad A 0 z) args s 1 6 A) 6 D cy tm_shC ad 256 [] A z 0 [(0, .ref (ad 247)), (1, .int x1), (2, .int x2), (3, .int x3)] [] v (f_X7_readSum x1 x2 x3 v) := by
  unfold f_X7_readSum
  refine tg_iload_n 1 C0 dX7_readSum_0 rfl rfl ?_
  refine tg_callSi (As := [.int x1]) 1 C0 dX7_readSum_1 (c_X7_isReader l x1 v) rfl rfl (tm_gc tc_X7_isReader) tl_X7_180 tn_X7 tst_X7_isReader  rfl rfl rfl rfl (by decide +kernel) ⟨by decide, by decide⟩ (Nat.le_of_ble_eq_true rfl) ⟨by decide, by decide⟩ (fun r2 v1 _ => ?_)
  refine tg_if_eq 19 C0 dX7_readSum_4 (by decide) (fun _ => ?_) (fun _ => ?_)
  · exact w_X7_readSum_19 C0 hl hE hout x1 x2 x3 v1
  · refine tg_iload_n 2 C0 dX7_readSum_7 rfl rfl ?_
    refine tg_iload_n 3 C0 dX7_readSum_8 rfl rfl ?_
    refine tg_callSi (As := [.int x2, .int x3]) 2 C0 dX7_readSum_9 (c_X7_isRange l x2 x3 v1) rfl rfl (tm_gc tc_X7_isRange) tl_X7_231 tn_X7 tst_X7_isRange  rfl rfl rfl rfl (by decide +kernel) ⟨by decide, by decide⟩ (Nat.le_of_ble_eq_true rfl) ⟨by decide, by decide⟩ (fun r17 v16 _ => ?_)
    refine tg_if_eq 19 C0 dX7_readSum_12 (by decide) (fun _ => ?_) (fun _ => ?_)
    · exact w_X7_readSum_19 C0 hl hE hout x1 x2 x3 v16
    · refine tg_iconst (x := 1) C0 dX7_readSum_15 (by decide) ?_
      refine tg_goto 20 C0 dX7_readSum_16 (by decide) ?_
      exact w_X7_readSum_20 C0 hl hE hout x1 x2 x3 1 v16
theorem c_X7_readSum (l : Launch) (hl : l.stackTraces = false) (x1 x2 x3 : Int32) (v : tmM) : tmXi tm_NWC tm_shC 256 l yX7_readSum (Cond.code yX7_readSum cX7_readSum 6 (some .int) :: TMW) ({ frames := 7, cells := 1, slots := 6, locals := 110 } : Room) (fun ad => [.ref (ad 247), .int x1, .int x2, .int x3]) v 1 6 (f_X7_readSum x1 x2 x3 v) :=
  tmXi.of (cc := cX7_readSum) (nL := 6) (by decide +kernel) rfl tm_NWC_ok (fun _ => Nat.le_of_ble_eq_true rfl) (fun p e s m args below meth c A D cy ad z C0 hE hout => w_X7_readSum C0 hl hE hout x1 x2 x3 v)
-- ----- X7_written
theorem dX7_written_0 : decode cX7_written 0 = .ok (.iload_n 1, 1) := by decide +kernel
theorem dX7_written_1 : decode cX7_written 1 = .ok (.invokestatic 123, 3) := by decide +kernel
theorem dX7_written_4 : decode cX7_written 4 = .ok (.invokestatic 114, 3) := by decide +kernel
theorem dX7_written_7 : decode cX7_written 7 = .ok (.aload_n 0, 1) := by decide +kernel
theorem dX7_written_8 : decode cX7_written 8 = .ok (.getfield 12, 3) := by decide +kernel
theorem dX7_written_11 : decode cX7_written 11 = .ok (.getfield 258, 3) := by decide +kernel
theorem dX7_written_14 : decode cX7_written 14 = .ok (.iload_n 1, 1) := by decide +kernel
theorem dX7_written_15 : decode cX7_written 15 = .ok (.iaload, 1) := by decide +kernel
theorem dX7_written_16 : decode cX7_written 16 = .ok (.ireturn, 1) := by decide +kernel
def f_X7_written (x1 : Int32) (v : tmM) : Option (tmR) := tm_cl (f_X7_isKey x1 v) fun r2 v1 => tm_cx (f_X7_requireIndex r2 v1) (fun _ v3 => tm_g (tm_ix x1 60) (some ((0, v3 18 x1.toNatClampNeg), v3))) 0
set_option maxRecDepth 100000 in
set_option maxHeartbeats 4000000 in
theorem w_X7_written {p : Program} {l : Launch} {e : Env} {s : State} {m : MethodId} {args : Array Value} {below : List Frame} {meth : Method} {c : Code} {D : va_G} {cy : Nat → ClassId} {ad : Nat → Nat} {A : Nat → Prop} {z : (tmR)} (C0 : tmC p s m args meth c cX7_written 2 (some .int) RX7 TMW tm_NWC D cy tm_shC ad 256 [] A) (hl : l.stackTraces = false) (hE : tmTh A s s.heap) (hout : ∀ x ∈ c.exceptionTable.toList, False) (x1 : Int32) (v : tmM) : tmG p l e ({ frames := 7, cells := 1, slots := 6, locals := 110 } : Room) s m args below meth c 0 0 (vx_MQ below (va_Qi (fun r u => z = ((0, r), u)) (tmAt tm_shC 256 D cy ad A) A) (tmXX tm_shC 256 D cy ad A 0 z) args s 1 6 A) 2 D cy tm_shC ad 256 [] A z 0 [(0, .ref (ad 247)), (1, .int x1)] [] v (f_X7_written x1 v) := by
  unfold f_X7_written
  refine tg_iload_n 1 C0 dX7_written_0 rfl rfl ?_
  refine tg_callSi (As := [.int x1]) 1 C0 dX7_written_1 (c_X7_isKey l x1 v) rfl rfl (tm_gc tc_X7_isKey) tl_X7_123 tn_X7 tst_X7_isKey  rfl rfl rfl rfl (by decide +kernel) ⟨by decide, by decide⟩ (Nat.le_of_ble_eq_true rfl) ⟨by decide, by decide⟩ (fun r2 v1 _ => ?_)
  refine tg_callSxi (As := [.int r2]) 1 C0 hE hout dX7_written_4 (c_X7_requireIndex l hl r2 v1) rfl rfl (tm_gS tl_X7_114 tst_X7_requireIndex tn_X7 tc_X7_requireIndex) rfl rfl rfl rfl (by decide +kernel) ⟨by decide, by decide⟩ (Nat.le_of_ble_eq_true rfl) ⟨by decide, by decide⟩ ⟨by decide, by decide⟩ (fun v3 _ => ?_)
  refine tg_aload_n 0 C0 dX7_written_7 rfl rfl ?_
  refine tg_get 247 0 C0 dX7_written_8 (by decide) rfl rfl tu_X7 (by decide) tf_X7_12 rfl rfl rfl ?_
  refine tg_getN 0 9 C0 dX7_written_11 (by decide) rfl rfl tu_X4 (by decide) tm_nwC_X7_258 rfl rfl rfl ?_
  refine tg_iload_n 1 C0 dX7_written_14 rfl rfl ?_
  refine tg_iald 18 C0 dX7_written_15 (by decide) rfl (fun _ => ?_)
  exact tg_xiret C0 dX7_written_16 ⟨by decide, by decide⟩
theorem c_X7_written (l : Launch) (hl : l.stackTraces = false) (x1 : Int32) (v : tmM) : tmXi tm_NWC tm_shC 256 l yX7_written (Cond.code yX7_written cX7_written 2 (some .int) :: TMW) ({ frames := 7, cells := 1, slots := 6, locals := 110 } : Room) (fun ad => [.ref (ad 247), .int x1]) v 1 6 (f_X7_written x1 v) :=
  tmXi.of (cc := cX7_written) (nL := 2) (by decide +kernel) rfl tm_NWC_ok (fun _ => Nat.le_of_ble_eq_true rfl) (fun p e s m args below meth c A D cy ad z C0 hE hout => w_X7_written C0 hl hE hout x1 v)
-- ----- X7_changed
theorem dX7_changed_0 : decode cX7_changed 0 = .ok (.iload_n 1, 1) := by decide +kernel
theorem dX7_changed_1 : decode cX7_changed 1 = .ok (.invokestatic 261, 3) := by decide +kernel
theorem dX7_changed_4 : decode cX7_changed 4 = .ok (.invokestatic 114, 3) := by decide +kernel
theorem dX7_changed_7 : decode cX7_changed 7 = .ok (.aload_n 0, 1) := by decide +kernel
theorem dX7_changed_8 : decode cX7_changed 8 = .ok (.getfield 264, 3) := by decide +kernel
theorem dX7_changed_11 : decode cX7_changed 11 = .ok (.iload_n 1, 1) := by decide +kernel
theorem dX7_changed_12 : decode cX7_changed 12 = .ok (.invokestatic 120, 3) := by decide +kernel
theorem dX7_changed_15 : decode cX7_changed 15 = .ok (.ifCond .eq 25, 3) := by decide +kernel
theorem dX7_changed_18 : decode cX7_changed 18 = .ok (.aload_n 0, 1) := by decide +kernel
theorem dX7_changed_19 : decode cX7_changed 19 = .ok (.getfield 12, 3) := by decide +kernel
theorem dX7_changed_22 : decode cX7_changed 22 = .ok (.getfield 98, 3) := by decide +kernel
theorem dX7_changed_25 : decode cX7_changed 25 = .ok (.aload_n 0, 1) := by decide +kernel
theorem dX7_changed_26 : decode cX7_changed 26 = .ok (.getfield 20, 3) := by decide +kernel
theorem dX7_changed_29 : decode cX7_changed 29 = .ok (.iload_n 1, 1) := by decide +kernel
theorem dX7_changed_30 : decode cX7_changed 30 = .ok (.aaload, 1) := by decide +kernel
theorem dX7_changed_31 : decode cX7_changed 31 = .ok (.getfield 98, 3) := by decide +kernel
theorem dX7_changed_34 : decode cX7_changed 34 = .ok (.invokevirtual 267, 3) := by decide +kernel
theorem dX7_changed_37 : decode cX7_changed 37 = .ok (.goto 4, 3) := by decide +kernel
theorem dX7_changed_40 : decode cX7_changed 40 = .ok (.iconst (-1), 1) := by decide +kernel
theorem dX7_changed_41 : decode cX7_changed 41 = .ok (.ireturn, 1) := by decide +kernel
theorem tc_X7_isSlot : Cond.code yX7_isSlot cX7_isSlot 1 (some .boolean) ∈ TMW := tm_in 1233 (by decide +kernel) (by decide +kernel)
theorem tl_X7_261 : Cond.methodLink RX7 261 yX7_isSlot ∈ TMW := tm_in 1231 (by decide +kernel) (by decide +kernel)
theorem tst_X7_isSlot : Cond.static yX7_isSlot ∈ TMW := tm_in 1232 (by decide +kernel) (by decide +kernel)
theorem tf_X7_264 : Cond.fieldLink RX7 264 "TableMove" (TX7 5).2.1 (TX7 5).2.2.1 ∈ TMW := tm_in 358 (by decide +kernel) (by decide +kernel)
theorem tf_X7_20 : Cond.fieldLink RX7 20 "TableMove" (TX7 4).2.1 (TX7 4).2.2.1 ∈ TMW := tm_in 357 (by decide +kernel) (by decide +kernel)
theorem tl_X7_267 : Cond.methodLink RX7 267 yX5_changesAgainst ∈ TMW := tm_in 1234 (by decide +kernel) (by decide +kernel)
theorem ti_X5_changesAgainst : Cond.instanceMethod yX5_changesAgainst ∈ TMW := tm_in 1235 (by decide +kernel) (by decide +kernel)
theorem ts_X5_changesAgainst : Cond.selects RX5 yX5_changesAgainst yX5_changesAgainst ∈ TMW := tm_in 1236 (by decide +kernel) (by decide +kernel)
theorem tc_X5_changesAgainst : Cond.code yX5_changesAgainst cX5_changesAgainst 5 (some .int) ∈ TMW := tm_in 1237 (by decide +kernel) (by decide +kernel)
def f_X7_changed (x1 : Int32) (v : tmM) : Option (tmR) := tm_cl (f_X7_isSlot x1 v) fun r2 v1 => tm_cx (f_X7_requireIndex r2 v1) (fun _ v3 => tm_cl (f_X7_has (v3 247 5) x1 v3) fun r5 v4 => (if r5 = 0 then some ((0, (-1)), v4) else tm_g (tm_ix x1 2) (tm_lt (([209, 228] : List Nat).getD x1.toNatClampNeg 0) fun q7 => tm_cl (f_X5_changesAgainst q7 v4) fun r10 v9 => some ((0, r10), v9)))) 0
set_option maxRecDepth 100000 in
set_option maxHeartbeats 4000000 in
theorem w_X7_changed {p : Program} {l : Launch} {e : Env} {s : State} {m : MethodId} {args : Array Value} {below : List Frame} {meth : Method} {c : Code} {D : va_G} {cy : Nat → ClassId} {ad : Nat → Nat} {A : Nat → Prop} {z : (tmR)} (C0 : tmC p s m args meth c cX7_changed 2 (some .int) RX7 TMW tm_NWC D cy tm_shC ad 256 [] A) (hl : l.stackTraces = false) (hE : tmTh A s s.heap) (hout : ∀ x ∈ c.exceptionTable.toList, False) (x1 : Int32) (v : tmM) : tmG p l e ({ frames := 7, cells := 1, slots := 6, locals := 110 } : Room) s m args below meth c 0 0 (vx_MQ below (va_Qi (fun r u => z = ((0, r), u)) (tmAt tm_shC 256 D cy ad A) A) (tmXX tm_shC 256 D cy ad A 0 z) args s 1 6 A) 2 D cy tm_shC ad 256 [] A z 0 [(0, .ref (ad 247)), (1, .int x1)] [] v (f_X7_changed x1 v) := by
  unfold f_X7_changed
  refine tg_iload_n 1 C0 dX7_changed_0 rfl rfl ?_
  refine tg_callSi (As := [.int x1]) 1 C0 dX7_changed_1 (c_X7_isSlot l x1 v) rfl rfl (tm_gc tc_X7_isSlot) tl_X7_261 tn_X7 tst_X7_isSlot  rfl rfl rfl rfl (by decide +kernel) ⟨by decide, by decide⟩ (Nat.le_of_ble_eq_true rfl) ⟨by decide, by decide⟩ (fun r2 v1 _ => ?_)
  refine tg_callSxi (As := [.int r2]) 1 C0 hE hout dX7_changed_4 (c_X7_requireIndex l hl r2 v1) rfl rfl (tm_gS tl_X7_114 tst_X7_requireIndex tn_X7 tc_X7_requireIndex) rfl rfl rfl rfl (by decide +kernel) ⟨by decide, by decide⟩ (Nat.le_of_ble_eq_true rfl) ⟨by decide, by decide⟩ ⟨by decide, by decide⟩ (fun v3 _ => ?_)
  refine tg_aload_n 0 C0 dX7_changed_7 rfl rfl ?_
  refine tg_get 247 5 C0 dX7_changed_8 (by decide) rfl rfl tu_X7 (by decide) tf_X7_264 rfl rfl rfl ?_
  refine tg_iload_n 1 C0 dX7_changed_11 rfl rfl ?_
  refine tg_callSi (As := [.int (v3 247 5), .int x1]) 2 C0 dX7_changed_12 (c_X7_has l (v3 247 5) x1 v3) rfl rfl (tm_gc tc_X7_has) tl_X7_120 tn_X7 tst_X7_has  rfl rfl rfl rfl (by decide +kernel) ⟨by decide, by decide⟩ (Nat.le_of_ble_eq_true rfl) ⟨by decide, by decide⟩ (fun r5 v4 _ => ?_)
  refine tg_if_eq 40 C0 dX7_changed_15 (by decide) (fun _ => ?_) (fun _ => ?_)
  · refine tg_iconst (x := (-1)) C0 dX7_changed_40 (by decide) ?_
    exact tg_xiret C0 dX7_changed_41 ⟨by decide, by decide⟩
  · refine tg_aload_n 0 C0 dX7_changed_18 rfl rfl ?_
    refine tg_get 247 0 C0 dX7_changed_19 (by decide) rfl rfl tu_X7 (by decide) tf_X7_12 rfl rfl rfl ?_
    refine tg_getN 0 5 C0 dX7_changed_22 (by decide) rfl rfl tu_X4 (by decide) tm_nwC_X7_98 rfl rfl rfl ?_
    refine tg_aload_n 0 C0 dX7_changed_25 rfl rfl ?_
    refine tg_get 247 4 C0 dX7_changed_26 (by decide) rfl rfl tu_X7 (by decide) tf_X7_20 rfl rfl rfl ?_
    refine tg_iload_n 1 C0 dX7_changed_29 rfl rfl ?_
    refine tg_aald 249 C0 dX7_changed_30 (by decide) rfl (by decide) rfl (fun q7 h6 e8 => ?_)
    have q7f := tm_all (P := tm_isS) h6 e8 (by decide +kernel)
    refine tg_getN q7 5 C0 dX7_changed_31 (tm_Sl 0 (by decide) q7f) (tm_S 0 (by decide) q7f) rfl tu_X4 (by decide) tm_nwC_X7_98 rfl rfl rfl ?_
    refine tg_callVi (As := [.ref (ad (q7 + 1))]) 1 1 C0 dX7_changed_34 (c_X5_changesAgainst l q7 q7f v4) rfl rfl (by decide) rfl rfl (tm_gV tl_X7_267 ti_X5_changesAgainst ts_X5_changesAgainst tn_X5 tc_X5_changesAgainst)  rfl rfl rfl rfl (by decide +kernel) ⟨by decide, by decide⟩ (Nat.le_of_ble_eq_true rfl) ⟨by decide, by decide⟩ (fun r10 v9 _ => ?_)
    refine tg_goto 41 C0 dX7_changed_37 (by decide) ?_
    exact tg_xiret C0 dX7_changed_41 ⟨by decide, by decide⟩
theorem c_X7_changed (l : Launch) (hl : l.stackTraces = false) (x1 : Int32) (v : tmM) : tmXi tm_NWC tm_shC 256 l yX7_changed (Cond.code yX7_changed cX7_changed 2 (some .int) :: TMW) ({ frames := 7, cells := 1, slots := 6, locals := 110 } : Room) (fun ad => [.ref (ad 247), .int x1]) v 1 6 (f_X7_changed x1 v) :=
  tmXi.of (cc := cX7_changed) (nL := 2) (by decide +kernel) rfl tm_NWC_ok (fun _ => Nat.le_of_ble_eq_true rfl) (fun p e s m args below meth c A D cy ad z C0 hE hout => w_X7_changed C0 hl hE hout x1 v)
-- ----- X7_eventsOf
theorem dX7_eventsOf_0 : decode cX7_eventsOf 0 = .ok (.iload_n 1, 1) := by decide +kernel
theorem dX7_eventsOf_1 : decode cX7_eventsOf 1 = .ok (.ifCond .lt 22, 3) := by decide +kernel
theorem dX7_eventsOf_4 : decode cX7_eventsOf 4 = .ok (.iload_n 1, 1) := by decide +kernel
theorem dX7_eventsOf_5 : decode cX7_eventsOf 5 = .ok (.bipush 9, 2) := by decide +kernel
theorem dX7_eventsOf_7 : decode cX7_eventsOf 7 = .ok (.if_icmp .ge 16, 3) := by decide +kernel
theorem dX7_eventsOf_10 : decode cX7_eventsOf 10 = .ok (.iload_n 2, 1) := by decide +kernel
theorem dX7_eventsOf_11 : decode cX7_eventsOf 11 = .ok (.ifCond .eq 8, 3) := by decide +kernel
theorem dX7_eventsOf_14 : decode cX7_eventsOf 14 = .ok (.iload_n 2, 1) := by decide +kernel
theorem dX7_eventsOf_15 : decode cX7_eventsOf 15 = .ok (.iconst 1, 1) := by decide +kernel
theorem dX7_eventsOf_16 : decode cX7_eventsOf 16 = .ok (.if_icmp .ne 7, 3) := by decide +kernel
theorem dX7_eventsOf_19 : decode cX7_eventsOf 19 = .ok (.iconst 1, 1) := by decide +kernel
theorem dX7_eventsOf_20 : decode cX7_eventsOf 20 = .ok (.goto 4, 3) := by decide +kernel
theorem dX7_eventsOf_23 : decode cX7_eventsOf 23 = .ok (.iconst 0, 1) := by decide +kernel
theorem dX7_eventsOf_24 : decode cX7_eventsOf 24 = .ok (.invokestatic 53, 3) := by decide +kernel
theorem dX7_eventsOf_27 : decode cX7_eventsOf 27 = .ok (.iload_n 2, 1) := by decide +kernel
theorem dX7_eventsOf_28 : decode cX7_eventsOf 28 = .ok (.ifCond .ne 17, 3) := by decide +kernel
theorem dX7_eventsOf_31 : decode cX7_eventsOf 31 = .ok (.aload_n 0, 1) := by decide +kernel
theorem dX7_eventsOf_32 : decode cX7_eventsOf 32 = .ok (.getfield 12, 3) := by decide +kernel
theorem dX7_eventsOf_35 : decode cX7_eventsOf 35 = .ok (.getfield 164, 3) := by decide +kernel
theorem dX7_eventsOf_38 : decode cX7_eventsOf 38 = .ok (.iload_n 1, 1) := by decide +kernel
theorem dX7_eventsOf_39 : decode cX7_eventsOf 39 = .ok (.invokevirtual 271, 3) := by decide +kernel
theorem dX7_eventsOf_42 : decode cX7_eventsOf 42 = .ok (.goto 14, 3) := by decide +kernel
theorem dX7_eventsOf_45 : decode cX7_eventsOf 45 = .ok (.aload_n 0, 1) := by decide +kernel
theorem dX7_eventsOf_46 : decode cX7_eventsOf 46 = .ok (.getfield 12, 3) := by decide +kernel
theorem dX7_eventsOf_49 : decode cX7_eventsOf 49 = .ok (.getfield 164, 3) := by decide +kernel
theorem dX7_eventsOf_52 : decode cX7_eventsOf 52 = .ok (.iload_n 1, 1) := by decide +kernel
theorem dX7_eventsOf_53 : decode cX7_eventsOf 53 = .ok (.invokevirtual 274, 3) := by decide +kernel
theorem dX7_eventsOf_56 : decode cX7_eventsOf 56 = .ok (.ireturn, 1) := by decide +kernel
theorem tl_X7_274 : Cond.methodLink RX7 274 yX1_latestOf ∈ TMW := tm_in 1249 (by decide +kernel) (by decide +kernel)
theorem ti_X1_latestOf : Cond.instanceMethod yX1_latestOf ∈ TMW := tm_in 1250 (by decide +kernel) (by decide +kernel)
theorem ts_X1_latestOf : Cond.selects RX1 yX1_latestOf yX1_latestOf ∈ TMW := tm_in 1251 (by decide +kernel) (by decide +kernel)
theorem tc_X1_latestOf : Cond.code yX1_latestOf cX1_latestOf 3 (some .int) ∈ TMW := tm_in 1252 (by decide +kernel) (by decide +kernel)
theorem tl_X7_271 : Cond.methodLink RX7 271 yX1_keptOf ∈ TMW := tm_in 1245 (by decide +kernel) (by decide +kernel)
theorem ti_X1_keptOf : Cond.instanceMethod yX1_keptOf ∈ TMW := tm_in 1246 (by decide +kernel) (by decide +kernel)
theorem ts_X1_keptOf : Cond.selects RX1 yX1_keptOf yX1_keptOf ∈ TMW := tm_in 1247 (by decide +kernel) (by decide +kernel)
theorem tc_X1_keptOf : Cond.code yX1_keptOf cX1_keptOf 4 (some .int) ∈ TMW := tm_in 1248 (by decide +kernel) (by decide +kernel)
def f_X7_eventsOf_24 (x1 x2 s0 : Int32) (v : tmM) : Option (tmR) := tm_cx (f_X7_requireArgument s0 v) (fun _ v1 => (if x2 = 0 then tm_cl (f_X1_keptOf x1 v1) fun r5 v4 => some ((0, r5), v4) else tm_cl (f_X1_latestOf x1 v1) fun r3 v2 => some ((0, r3), v2))) 0
set_option maxRecDepth 100000 in
set_option maxHeartbeats 4000000 in
theorem w_X7_eventsOf_24 {p : Program} {l : Launch} {e : Env} {s : State} {m : MethodId} {args : Array Value} {below : List Frame} {meth : Method} {c : Code} {D : va_G} {cy : Nat → ClassId} {ad : Nat → Nat} {A : Nat → Prop} {z : (tmR)} (C0 : tmC p s m args meth c cX7_eventsOf 3 (some .int) RX7 TMW tm_NWC D cy tm_shC ad 256 [] A) (hl : l.stackTraces = false) (hE : tmTh A s s.heap) (hout : ∀ x ∈ c.exceptionTable.toList, False) (x1 x2 s0 : Int32) (v : tmM) : tmG p l e ({ frames := 7, cells := 1, slots := 6, locals := 110 } : Room) s m args below meth c 0 0 (vx_MQ below (va_Qi (fun r u => z = ((0, r), u)) (tmAt tm_shC 256 D cy ad A) A) (tmXX tm_shC 256 D cy ad A 0 z) args s 1 6 A) 3 D cy tm_shC ad 256 [] A z 24 [(0, .ref (ad 247)), (1, .int x1), (2, .int x2)] [.int s0] v (f_X7_eventsOf_24 x1 x2 s0 v) := by
  unfold f_X7_eventsOf_24
  refine tg_callSxi (As := [.int s0]) 1 C0 hE hout dX7_eventsOf_24 (c_X7_requireArgument l hl s0 v) rfl rfl (tm_gS tl_X7_53 tst_X7_requireArgument tn_X7 tc_X7_requireArgument) rfl rfl rfl rfl (by decide +kernel) ⟨by decide, by decide⟩ (Nat.le_of_ble_eq_true rfl) ⟨by decide, by decide⟩ ⟨by decide, by decide⟩ (fun v1 _ => ?_)
  refine tg_iload_n 2 C0 dX7_eventsOf_27 rfl rfl ?_
  refine tg_if_ne 45 C0 dX7_eventsOf_28 (by decide) (fun _ => ?_) (fun _ => ?_)
  · refine tg_aload_n 0 C0 dX7_eventsOf_45 rfl rfl ?_
    refine tg_get 247 0 C0 dX7_eventsOf_46 (by decide) rfl rfl tu_X7 (by decide) tf_X7_12 rfl rfl rfl ?_
    refine tg_getN 0 7 C0 dX7_eventsOf_49 (by decide) rfl rfl tu_X4 (by decide) tm_nwC_X7_164 rfl rfl rfl ?_
    refine tg_iload_n 1 C0 dX7_eventsOf_52 rfl rfl ?_
    refine tg_callVi (As := [.int x1]) 10 1 C0 dX7_eventsOf_53 (c_X1_latestOf l x1 v1) rfl rfl (by decide) rfl rfl (tm_gV tl_X7_274 ti_X1_latestOf ts_X1_latestOf tn_X1 tc_X1_latestOf)  rfl rfl rfl rfl (by decide +kernel) ⟨by decide, by decide⟩ (Nat.le_of_ble_eq_true rfl) ⟨by decide, by decide⟩ (fun r3 v2 _ => ?_)
    exact tg_xiret C0 dX7_eventsOf_56 ⟨by decide, by decide⟩
  · refine tg_aload_n 0 C0 dX7_eventsOf_31 rfl rfl ?_
    refine tg_get 247 0 C0 dX7_eventsOf_32 (by decide) rfl rfl tu_X7 (by decide) tf_X7_12 rfl rfl rfl ?_
    refine tg_getN 0 7 C0 dX7_eventsOf_35 (by decide) rfl rfl tu_X4 (by decide) tm_nwC_X7_164 rfl rfl rfl ?_
    refine tg_iload_n 1 C0 dX7_eventsOf_38 rfl rfl ?_
    refine tg_callVi (As := [.int x1]) 10 1 C0 dX7_eventsOf_39 (c_X1_keptOf l x1 v1) rfl rfl (by decide) rfl rfl (tm_gV tl_X7_271 ti_X1_keptOf ts_X1_keptOf tn_X1 tc_X1_keptOf)  rfl rfl rfl rfl (by decide +kernel) ⟨by decide, by decide⟩ (Nat.le_of_ble_eq_true rfl) ⟨by decide, by decide⟩ (fun r5 v4 _ => ?_)
    refine tg_goto 56 C0 dX7_eventsOf_42 (by decide) ?_
    exact tg_xiret C0 dX7_eventsOf_56 ⟨by decide, by decide⟩
def f_X7_eventsOf_23 (x1 x2 : Int32) (v : tmM) : Option (tmR) := f_X7_eventsOf_24 x1 x2 0 v
set_option maxRecDepth 100000 in
set_option maxHeartbeats 4000000 in
theorem w_X7_eventsOf_23 {p : Program} {l : Launch} {e : Env} {s : State} {m : MethodId} {args : Array Value} {below : List Frame} {meth : Method} {c : Code} {D : va_G} {cy : Nat → ClassId} {ad : Nat → Nat} {A : Nat → Prop} {z : (tmR)} (C0 : tmC p s m args meth c cX7_eventsOf 3 (some .int) RX7 TMW tm_NWC D cy tm_shC ad 256 [] A) (hl : l.stackTraces = false) (hE : tmTh A s s.heap) (hout : ∀ x ∈ c.exceptionTable.toList, False) (x1 x2 : Int32) (v : tmM) : tmG p l e ({ frames := 7, cells := 1, slots := 6, locals := 110 } : Room) s m args below meth c 0 0 (vx_MQ below (va_Qi (fun r u => z = ((0, r), u)) (tmAt tm_shC 256 D cy ad A) A) (tmXX tm_shC 256 D cy ad A 0 z) args s 1 6 A) 3 D cy tm_shC ad 256 [] A z 23 [(0, .ref (ad 247)), (1, .int x1), (2, .int x2)] [] v (f_X7_eventsOf_23 x1 x2 v) := by
  unfold f_X7_eventsOf_23
  refine tg_iconst (x := 0) C0 dX7_eventsOf_23 (by decide) ?_
  exact w_X7_eventsOf_24 C0 hl hE hout x1 x2 0 v
def f_X7_eventsOf_19 (x1 x2 : Int32) (v : tmM) : Option (tmR) := f_X7_eventsOf_24 x1 x2 1 v
set_option maxRecDepth 100000 in
set_option maxHeartbeats 4000000 in
theorem w_X7_eventsOf_19 {p : Program} {l : Launch} {e : Env} {s : State} {m : MethodId} {args : Array Value} {below : List Frame} {meth : Method} {c : Code} {D : va_G} {cy : Nat → ClassId} {ad : Nat → Nat} {A : Nat → Prop} {z : (tmR)} (C0 : tmC p s m args meth c cX7_eventsOf 3 (some .int) RX7 TMW tm_NWC D cy tm_shC ad 256 [] A) (hl : l.stackTraces = false) (hE : tmTh A s s.heap) (hout : ∀ x ∈ c.exceptionTable.toList, False) (x1 x2 : Int32) (v : tmM) : tmG p l e ({ frames := 7, cells := 1, slots := 6, locals := 110 } : Room) s m args below meth c 0 0 (vx_MQ below (va_Qi (fun r u => z = ((0, r), u)) (tmAt tm_shC 256 D cy ad A) A) (tmXX tm_shC 256 D cy ad A 0 z) args s 1 6 A) 3 D cy tm_shC ad 256 [] A z 19 [(0, .ref (ad 247)), (1, .int x1), (2, .int x2)] [] v (f_X7_eventsOf_19 x1 x2 v) := by
  unfold f_X7_eventsOf_19
  refine tg_iconst (x := 1) C0 dX7_eventsOf_19 (by decide) ?_
  refine tg_goto 24 C0 dX7_eventsOf_20 (by decide) ?_
  exact w_X7_eventsOf_24 C0 hl hE hout x1 x2 1 v
def f_X7_eventsOf (x1 x2 : Int32) (v : tmM) : Option (tmR) := (if x1 < 0 then f_X7_eventsOf_23 x1 x2 v else (if 9 ≤ x1 then f_X7_eventsOf_23 x1 x2 v else (if x2 = 0 then f_X7_eventsOf_19 x1 x2 v else (if x2 = 1 then f_X7_eventsOf_19 x1 x2 v else f_X7_eventsOf_23 x1 x2 v))))
set_option maxRecDepth 100000 in
set_option maxHeartbeats 4000000 in
theorem w_X7_eventsOf {p : Program} {l : Launch} {e : Env} {s : State} {m : MethodId} {args : Array Value} {below : List Frame} {meth : Method} {c : Code} {D : va_G} {cy : Nat → ClassId} {ad : Nat → Nat} {A : Nat → Prop} {z : (tmR)} (C0 : tmC p s m args meth c cX7_eventsOf 3 (some .int) RX7 TMW tm_NWC D cy tm_shC ad 256 [] A) (hl : l.stackTraces = false) (hE : tmTh A s s.heap) (hout : ∀ x ∈ c.exceptionTable.toList, False) (x1 x2 : Int32) (v : tmM) : tmG p l e ({ frames := 7, cells := 1, slots := 6, locals := 110 } : Room) s m args below meth c 0 0 (vx_MQ below (va_Qi (fun r u => z = ((0, r), u)) (tmAt tm_shC 256 D cy ad A) A) (tmXX tm_shC 256 D cy ad A 0 z) args s 1 6 A) 3 D cy tm_shC ad 256 [] A z 0 [(0, .ref (ad 247)), (1, .int x1), (2, .int x2)] [] v (f_X7_eventsOf x1 x2 v) := by
  unfold f_X7_eventsOf
  refine tg_iload_n 1 C0 dX7_eventsOf_0 rfl rfl ?_
  refine tg_if_lt 23 C0 dX7_eventsOf_1 (by decide) (fun _ => ?_) (fun _ => ?_)
  · exact w_X7_eventsOf_23 C0 hl hE hout x1 x2 v
  · refine tg_iload_n 1 C0 dX7_eventsOf_4 rfl rfl ?_
    refine tg_bipush (x := 9) C0 dX7_eventsOf_5 (by decide) ?_
    refine tg_icmp_ge 23 C0 dX7_eventsOf_7 (by decide) (fun _ => ?_) (fun _ => ?_)
    · exact w_X7_eventsOf_23 C0 hl hE hout x1 x2 v
    · refine tg_iload_n 2 C0 dX7_eventsOf_10 rfl rfl ?_
      refine tg_if_eq 19 C0 dX7_eventsOf_11 (by decide) (fun _ => ?_) (fun _ => ?_)
      · exact w_X7_eventsOf_19 C0 hl hE hout x1 x2 v
      · refine tg_iload_n 2 C0 dX7_eventsOf_14 rfl rfl ?_
        refine tg_iconst (x := 1) C0 dX7_eventsOf_15 (by decide) ?_
        refine tg_icmp_ne 23 C0 dX7_eventsOf_16 (by decide) (fun _ => ?_) (fun _ => ?_)
        · exact w_X7_eventsOf_23 C0 hl hE hout x1 x2 v
        · exact w_X7_eventsOf_19 C0 hl hE hout x1 x2 v
theorem c_X7_eventsOf (l : Launch) (hl : l.stackTraces = false) (x1 x2 : Int32) (v : tmM) : tmXi tm_NWC tm_shC 256 l yX7_eventsOf (Cond.code yX7_eventsOf cX7_eventsOf 3 (some .int) :: TMW) ({ frames := 7, cells := 1, slots := 6, locals := 110 } : Room) (fun ad => [.ref (ad 247), .int x1, .int x2]) v 1 6 (f_X7_eventsOf x1 x2 v) :=
  tmXi.of (cc := cX7_eventsOf) (nL := 3) (by decide +kernel) rfl tm_NWC_ok (fun _ => Nat.le_of_ble_eq_true rfl) (fun p e s m args below meth c A D cy ad z C0 hE hout => w_X7_eventsOf C0 hl hE hout x1 x2 v)
-- ----- X7_save
theorem dX7_save_0 : decode cX7_save 0 = .ok (.iload_n 1, 1) := by decide +kernel
theorem dX7_save_1 : decode cX7_save 1 = .ok (.invokestatic 261, 3) := by decide +kernel
theorem dX7_save_4 : decode cX7_save 4 = .ok (.invokestatic 53, 3) := by decide +kernel
theorem dX7_save_7 : decode cX7_save 7 = .ok (.aload_n 0, 1) := by decide +kernel
theorem dX7_save_8 : decode cX7_save 8 = .ok (.getfield 20, 3) := by decide +kernel
theorem dX7_save_11 : decode cX7_save 11 = .ok (.iload_n 1, 1) := by decide +kernel
theorem dX7_save_12 : decode cX7_save 12 = .ok (.aaload, 1) := by decide +kernel
theorem dX7_save_13 : decode cX7_save 13 = .ok (.aload_n 0, 1) := by decide +kernel
theorem dX7_save_14 : decode cX7_save 14 = .ok (.getfield 12, 3) := by decide +kernel
theorem dX7_save_17 : decode cX7_save 17 = .ok (.invokevirtual 310, 3) := by decide +kernel
theorem dX7_save_20 : decode cX7_save 20 = .ok (.aload_n 0, 1) := by decide +kernel
theorem dX7_save_21 : decode cX7_save 21 = .ok (.dup, 1) := by decide +kernel
theorem dX7_save_22 : decode cX7_save 22 = .ok (.getfield 264, 3) := by decide +kernel
theorem dX7_save_25 : decode cX7_save 25 = .ok (.iconst 1, 1) := by decide +kernel
theorem dX7_save_26 : decode cX7_save 26 = .ok (.iload_n 1, 1) := by decide +kernel
theorem dX7_save_27 : decode cX7_save 27 = .ok (.ishl, 1) := by decide +kernel
theorem dX7_save_28 : decode cX7_save 28 = .ok (.ior, 1) := by decide +kernel
theorem dX7_save_29 : decode cX7_save 29 = .ok (.putfield 264, 3) := by decide +kernel
theorem dX7_save_32 : decode cX7_save 32 = .ok (.return_, 1) := by decide +kernel
def f_X7_save (x1 : Int32) (v : tmM) : Option (tmR) := tm_cl (f_X7_isSlot x1 v) fun r2 v1 => tm_cx (f_X7_requireArgument r2 v1) (fun _ v3 => tm_g (tm_ix x1 2) (tm_lt (([209, 228] : List Nat).getD x1.toNatClampNeg 0) fun q5 => tm_cl (f_X4_become q5 0 v3) fun _ v7 => tm_lt (tm_up v7 247 5 ((v7 247 5) ||| (1 <<< (x1 &&& 31)))) fun v9 => some ((0, 0), v9))) 0
set_option maxRecDepth 100000 in
set_option maxHeartbeats 4000000 in
theorem w_X7_save {p : Program} {l : Launch} {e : Env} {s : State} {m : MethodId} {args : Array Value} {below : List Frame} {meth : Method} {c : Code} {D : va_G} {cy : Nat → ClassId} {ad : Nat → Nat} {A : Nat → Prop} {z : (tmR)} (C0 : tmC p s m args meth c cX7_save 2 none RX7 TMW tm_NWC D cy tm_shC ad 256 [] A) (hl : l.stackTraces = false) (hE : tmTh A s s.heap) (hout : ∀ x ∈ c.exceptionTable.toList, False) (x1 : Int32) (v : tmM) : tmG p l e ({ frames := 7, cells := 1, slots := 6, locals := 110 } : Room) s m args below meth c 0 0 (vx_MQ below (va_Qv (fun u => z = ((0, 0), u)) (tmAt tm_shC 256 D cy ad A) A) (tmXX tm_shC 256 D cy ad A 0 z) args s 1 6 A) 2 D cy tm_shC ad 256 [] A z 0 [(0, .ref (ad 247)), (1, .int x1)] [] v (f_X7_save x1 v) := by
  unfold f_X7_save
  refine tg_iload_n 1 C0 dX7_save_0 rfl rfl ?_
  refine tg_callSi (As := [.int x1]) 1 C0 dX7_save_1 (c_X7_isSlot l x1 v) rfl rfl (tm_gc tc_X7_isSlot) tl_X7_261 tn_X7 tst_X7_isSlot  rfl rfl rfl rfl (by decide +kernel) ⟨by decide, by decide⟩ (Nat.le_of_ble_eq_true rfl) ⟨by decide, by decide⟩ (fun r2 v1 _ => ?_)
  refine tg_callSxv (As := [.int r2]) 1 C0 hE hout dX7_save_4 (c_X7_requireArgument l hl r2 v1) rfl rfl (tm_gS tl_X7_53 tst_X7_requireArgument tn_X7 tc_X7_requireArgument) rfl rfl rfl rfl (by decide +kernel) ⟨by decide, by decide⟩ (Nat.le_of_ble_eq_true rfl) ⟨by decide, by decide⟩ ⟨by decide, by decide⟩ (fun v3 _ => ?_)
  refine tg_aload_n 0 C0 dX7_save_7 rfl rfl ?_
  refine tg_get 247 4 C0 dX7_save_8 (by decide) rfl rfl tu_X7 (by decide) tf_X7_20 rfl rfl rfl ?_
  refine tg_iload_n 1 C0 dX7_save_11 rfl rfl ?_
  refine tg_aald 249 C0 dX7_save_12 (by decide) rfl (by decide) rfl (fun q5 h4 e6 => ?_)
  have q5f := tm_all (P := tm_isS) h4 e6 (by decide +kernel)
  refine tg_aload_n 0 C0 dX7_save_13 rfl rfl ?_
  refine tg_get 247 0 C0 dX7_save_14 (by decide) rfl rfl tu_X7 (by decide) tf_X7_12 rfl rfl rfl ?_
  refine tg_callVv (As := [.ref (ad 0)]) q5 1 C0 dX7_save_17 (c_X4_become l q5 0 q5f tm_S0 v3) rfl rfl (tm_Sl 0 (by decide) q5f) (tm_S 0 (by decide) q5f) rfl (tm_gV tl_X7_310 ti_X4_become ts_X4_become tn_X4 tc_X4_become)  rfl rfl rfl rfl (by decide +kernel) ⟨by decide, by decide⟩ (Nat.le_of_ble_eq_true rfl) ⟨by decide, by decide⟩ (fun v7 _ => ?_)
  refine tg_aload_n 0 C0 dX7_save_20 rfl rfl ?_
  refine tg_dup C0 dX7_save_21 rfl ?_
  refine tg_get 247 5 C0 dX7_save_22 (by decide) rfl rfl tu_X7 (by decide) tf_X7_264 rfl rfl rfl ?_
  refine tg_iconst (x := 1) C0 dX7_save_25 (by decide) ?_
  refine tg_iload_n 1 C0 dX7_save_26 rfl rfl ?_
  refine tg_ishl C0 dX7_save_27 ?_
  refine tg_ior C0 dX7_save_28 ?_
  refine tg_put 247 5 C0 dX7_save_29 (by decide) rfl rfl tu_X7 tyX7_ok nmX7 (by decide) tf_X7_264 rfl rfl rfl rfl rfl rfl ?_
  refine tg_letm (fun v9 _ => ?_)
  exact tg_xvret C0 dX7_save_32 ⟨by decide, by decide⟩
theorem c_X7_save (l : Launch) (hl : l.stackTraces = false) (x1 : Int32) (v : tmM) : tmXv tm_NWC tm_shC 256 l yX7_save (Cond.code yX7_save cX7_save 2 none :: TMW) ({ frames := 7, cells := 1, slots := 6, locals := 110 } : Room) (fun ad => [.ref (ad 247), .int x1]) v 1 6 (f_X7_save x1 v) :=
  tmXv.of (cc := cX7_save) (nL := 2) (by decide +kernel) rfl tm_NWC_ok (fun _ => Nat.le_of_ble_eq_true rfl) (fun p e s m args below meth c A D cy ad z C0 hE hout => w_X7_save C0 hl hE hout x1 v)
-- ----- X7_restore
theorem dX7_restore_0 : decode cX7_restore 0 = .ok (.iload_n 1, 1) := by decide +kernel
theorem dX7_restore_1 : decode cX7_restore 1 = .ok (.invokestatic 261, 3) := by decide +kernel
theorem dX7_restore_4 : decode cX7_restore 4 = .ok (.invokestatic 53, 3) := by decide +kernel
theorem dX7_restore_7 : decode cX7_restore 7 = .ok (.aload_n 0, 1) := by decide +kernel
theorem dX7_restore_8 : decode cX7_restore 8 = .ok (.getfield 264, 3) := by decide +kernel
theorem dX7_restore_11 : decode cX7_restore 11 = .ok (.iload_n 1, 1) := by decide +kernel
theorem dX7_restore_12 : decode cX7_restore 12 = .ok (.invokestatic 120, 3) := by decide +kernel
theorem dX7_restore_15 : decode cX7_restore 15 = .ok (.invokestatic 45, 3) := by decide +kernel
theorem dX7_restore_18 : decode cX7_restore 18 = .ok (.aload_n 0, 1) := by decide +kernel
theorem dX7_restore_19 : decode cX7_restore 19 = .ok (.getfield 12, 3) := by decide +kernel
theorem dX7_restore_22 : decode cX7_restore 22 = .ok (.aload_n 0, 1) := by decide +kernel
theorem dX7_restore_23 : decode cX7_restore 23 = .ok (.getfield 20, 3) := by decide +kernel
theorem dX7_restore_26 : decode cX7_restore 26 = .ok (.iload_n 1, 1) := by decide +kernel
theorem dX7_restore_27 : decode cX7_restore 27 = .ok (.aaload, 1) := by decide +kernel
theorem dX7_restore_28 : decode cX7_restore 28 = .ok (.invokevirtual 310, 3) := by decide +kernel
theorem dX7_restore_31 : decode cX7_restore 31 = .ok (.aload_n 0, 1) := by decide +kernel
theorem dX7_restore_32 : decode cX7_restore 32 = .ok (.iconst 0, 1) := by decide +kernel
theorem dX7_restore_33 : decode cX7_restore 33 = .ok (.putfield 173, 3) := by decide +kernel
theorem dX7_restore_36 : decode cX7_restore 36 = .ok (.return_, 1) := by decide +kernel
def f_X7_restore (x1 : Int32) (v : tmM) : Option (tmR) := tm_cl (f_X7_isSlot x1 v) fun r2 v1 => tm_cx (f_X7_requireArgument r2 v1) (fun _ v3 => tm_cl (f_X7_has (v3 247 5) x1 v3) fun r5 v4 => tm_cx (f_X7_requireState r5 v4) (fun _ v6 => tm_g (tm_ix x1 2) (tm_lt (([209, 228] : List Nat).getD x1.toNatClampNeg 0) fun q8 => tm_cl (f_X4_become 0 q8 v6) fun _ v10 => tm_lt (tm_up v10 247 3 0) fun v12 => some ((0, 0), v12))) 0) 0
set_option maxRecDepth 100000 in
set_option maxHeartbeats 4000000 in
theorem w_X7_restore {p : Program} {l : Launch} {e : Env} {s : State} {m : MethodId} {args : Array Value} {below : List Frame} {meth : Method} {c : Code} {D : va_G} {cy : Nat → ClassId} {ad : Nat → Nat} {A : Nat → Prop} {z : (tmR)} (C0 : tmC p s m args meth c cX7_restore 2 none RX7 TMW tm_NWC D cy tm_shC ad 256 [] A) (hl : l.stackTraces = false) (hE : tmTh A s s.heap) (hout : ∀ x ∈ c.exceptionTable.toList, False) (x1 : Int32) (v : tmM) : tmG p l e ({ frames := 7, cells := 2, slots := 12, locals := 110 } : Room) s m args below meth c 0 0 (vx_MQ below (va_Qv (fun u => z = ((0, 0), u)) (tmAt tm_shC 256 D cy ad A) A) (tmXX tm_shC 256 D cy ad A 0 z) args s 2 12 A) 2 D cy tm_shC ad 256 [] A z 0 [(0, .ref (ad 247)), (1, .int x1)] [] v (f_X7_restore x1 v) := by
  unfold f_X7_restore
  refine tg_iload_n 1 C0 dX7_restore_0 rfl rfl ?_
  refine tg_callSi (As := [.int x1]) 1 C0 dX7_restore_1 (c_X7_isSlot l x1 v) rfl rfl (tm_gc tc_X7_isSlot) tl_X7_261 tn_X7 tst_X7_isSlot  rfl rfl rfl rfl (by decide +kernel) ⟨by decide, by decide⟩ (Nat.le_of_ble_eq_true rfl) ⟨by decide, by decide⟩ (fun r2 v1 _ => ?_)
  refine tg_callSxv (As := [.int r2]) 1 C0 hE hout dX7_restore_4 (c_X7_requireArgument l hl r2 v1) rfl rfl (tm_gS tl_X7_53 tst_X7_requireArgument tn_X7 tc_X7_requireArgument) rfl rfl rfl rfl (by decide +kernel) ⟨by decide, by decide⟩ (Nat.le_of_ble_eq_true rfl) ⟨by decide, by decide⟩ ⟨by decide, by decide⟩ (fun v3 _ => ?_)
  refine tg_aload_n 0 C0 dX7_restore_7 rfl rfl ?_
  refine tg_get 247 5 C0 dX7_restore_8 (by decide) rfl rfl tu_X7 (by decide) tf_X7_264 rfl rfl rfl ?_
  refine tg_iload_n 1 C0 dX7_restore_11 rfl rfl ?_
  refine tg_callSi (As := [.int (v3 247 5), .int x1]) 2 C0 dX7_restore_12 (c_X7_has l (v3 247 5) x1 v3) rfl rfl (tm_gc tc_X7_has) tl_X7_120 tn_X7 tst_X7_has  rfl rfl rfl rfl (by decide +kernel) ⟨by decide, by decide⟩ (Nat.le_of_ble_eq_true rfl) ⟨by decide, by decide⟩ (fun r5 v4 _ => ?_)
  refine tg_callSxv (As := [.int r5]) 1 C0 hE hout dX7_restore_15 (c_X7_requireState l hl r5 v4) rfl rfl (tm_gS tl_X7_45 tst_X7_requireState tn_X7 tc_X7_requireState) rfl rfl rfl rfl (by decide +kernel) ⟨by decide, by decide⟩ (Nat.le_of_ble_eq_true rfl) ⟨by decide, by decide⟩ ⟨by decide, by decide⟩ (fun v6 _ => ?_)
  refine tg_aload_n 0 C0 dX7_restore_18 rfl rfl ?_
  refine tg_get 247 0 C0 dX7_restore_19 (by decide) rfl rfl tu_X7 (by decide) tf_X7_12 rfl rfl rfl ?_
  refine tg_aload_n 0 C0 dX7_restore_22 rfl rfl ?_
  refine tg_get 247 4 C0 dX7_restore_23 (by decide) rfl rfl tu_X7 (by decide) tf_X7_20 rfl rfl rfl ?_
  refine tg_iload_n 1 C0 dX7_restore_26 rfl rfl ?_
  refine tg_aald 249 C0 dX7_restore_27 (by decide) rfl (by decide) rfl (fun q8 h7 e9 => ?_)
  have q8f := tm_all (P := tm_isS) h7 e9 (by decide +kernel)
  refine tg_callVv (As := [.ref (ad q8)]) 0 1 C0 dX7_restore_28 (c_X4_become l 0 q8 tm_S0 q8f v6) rfl rfl (by decide) rfl rfl (tm_gV tl_X7_310 ti_X4_become ts_X4_become tn_X4 tc_X4_become)  rfl rfl rfl rfl (by decide +kernel) ⟨by decide, by decide⟩ (Nat.le_of_ble_eq_true rfl) ⟨by decide, by decide⟩ (fun v10 _ => ?_)
  refine tg_aload_n 0 C0 dX7_restore_31 rfl rfl ?_
  refine tg_iconst (x := 0) C0 dX7_restore_32 (by decide) ?_
  refine tg_put 247 3 C0 dX7_restore_33 (by decide) rfl rfl tu_X7 tyX7_ok nmX7 (by decide) tf_X7_173 rfl rfl rfl rfl rfl rfl ?_
  refine tg_letm (fun v12 _ => ?_)
  exact tg_xvret C0 dX7_restore_36 ⟨by decide, by decide⟩
theorem c_X7_restore (l : Launch) (hl : l.stackTraces = false) (x1 : Int32) (v : tmM) : tmXv tm_NWC tm_shC 256 l yX7_restore (Cond.code yX7_restore cX7_restore 2 none :: TMW) ({ frames := 7, cells := 2, slots := 12, locals := 110 } : Room) (fun ad => [.ref (ad 247), .int x1]) v 2 12 (f_X7_restore x1 v) :=
  tmXv.of (cc := cX7_restore) (nL := 2) (by decide +kernel) rfl tm_NWC_ok (fun _ => Nat.le_of_ble_eq_true rfl) (fun p e s m args below meth c A D cy ad z C0 hE hout => w_X7_restore C0 hl hE hout x1 v)
-- ----- J6_bitCount_0f7a4
theorem dJ6_bitCount_0f7a4_0 : decode cJ6_bitCount_0f7a4 0 = .ok (.iload_n 0, 1) := by decide +kernel
theorem dJ6_bitCount_0f7a4_1 : decode cJ6_bitCount_0f7a4 1 = .ok (.iload_n 0, 1) := by decide +kernel
theorem dJ6_bitCount_0f7a4_2 : decode cJ6_bitCount_0f7a4 2 = .ok (.iconst 1, 1) := by decide +kernel
theorem dJ6_bitCount_0f7a4_3 : decode cJ6_bitCount_0f7a4 3 = .ok (.iushr, 1) := by decide +kernel
theorem dJ6_bitCount_0f7a4_4 : decode cJ6_bitCount_0f7a4 4 = .ok (.ldc_w 265, 3) := by decide +kernel
theorem dJ6_bitCount_0f7a4_7 : decode cJ6_bitCount_0f7a4 7 = .ok (.iand, 1) := by decide +kernel
theorem dJ6_bitCount_0f7a4_8 : decode cJ6_bitCount_0f7a4 8 = .ok (.isub, 1) := by decide +kernel
theorem dJ6_bitCount_0f7a4_9 : decode cJ6_bitCount_0f7a4 9 = .ok (.istore_n 0, 1) := by decide +kernel
theorem dJ6_bitCount_0f7a4_10 : decode cJ6_bitCount_0f7a4 10 = .ok (.iload_n 0, 1) := by decide +kernel
theorem dJ6_bitCount_0f7a4_11 : decode cJ6_bitCount_0f7a4 11 = .ok (.ldc_w 266, 3) := by decide +kernel
theorem dJ6_bitCount_0f7a4_14 : decode cJ6_bitCount_0f7a4 14 = .ok (.iand, 1) := by decide +kernel
theorem dJ6_bitCount_0f7a4_15 : decode cJ6_bitCount_0f7a4 15 = .ok (.iload_n 0, 1) := by decide +kernel
theorem dJ6_bitCount_0f7a4_16 : decode cJ6_bitCount_0f7a4 16 = .ok (.iconst 2, 1) := by decide +kernel
theorem dJ6_bitCount_0f7a4_17 : decode cJ6_bitCount_0f7a4 17 = .ok (.iushr, 1) := by decide +kernel
theorem dJ6_bitCount_0f7a4_18 : decode cJ6_bitCount_0f7a4 18 = .ok (.ldc_w 266, 3) := by decide +kernel
theorem dJ6_bitCount_0f7a4_21 : decode cJ6_bitCount_0f7a4 21 = .ok (.iand, 1) := by decide +kernel
theorem dJ6_bitCount_0f7a4_22 : decode cJ6_bitCount_0f7a4 22 = .ok (.iadd, 1) := by decide +kernel
theorem dJ6_bitCount_0f7a4_23 : decode cJ6_bitCount_0f7a4 23 = .ok (.istore_n 0, 1) := by decide +kernel
theorem dJ6_bitCount_0f7a4_24 : decode cJ6_bitCount_0f7a4 24 = .ok (.iload_n 0, 1) := by decide +kernel
theorem dJ6_bitCount_0f7a4_25 : decode cJ6_bitCount_0f7a4 25 = .ok (.iload_n 0, 1) := by decide +kernel
theorem dJ6_bitCount_0f7a4_26 : decode cJ6_bitCount_0f7a4 26 = .ok (.iconst 4, 1) := by decide +kernel
theorem dJ6_bitCount_0f7a4_27 : decode cJ6_bitCount_0f7a4 27 = .ok (.iushr, 1) := by decide +kernel
theorem dJ6_bitCount_0f7a4_28 : decode cJ6_bitCount_0f7a4 28 = .ok (.iadd, 1) := by decide +kernel
theorem dJ6_bitCount_0f7a4_29 : decode cJ6_bitCount_0f7a4 29 = .ok (.ldc_w 267, 3) := by decide +kernel
theorem dJ6_bitCount_0f7a4_32 : decode cJ6_bitCount_0f7a4 32 = .ok (.iand, 1) := by decide +kernel
theorem dJ6_bitCount_0f7a4_33 : decode cJ6_bitCount_0f7a4 33 = .ok (.istore_n 0, 1) := by decide +kernel
theorem dJ6_bitCount_0f7a4_34 : decode cJ6_bitCount_0f7a4 34 = .ok (.iload_n 0, 1) := by decide +kernel
theorem dJ6_bitCount_0f7a4_35 : decode cJ6_bitCount_0f7a4 35 = .ok (.iload_n 0, 1) := by decide +kernel
theorem dJ6_bitCount_0f7a4_36 : decode cJ6_bitCount_0f7a4 36 = .ok (.bipush 8, 2) := by decide +kernel
theorem dJ6_bitCount_0f7a4_38 : decode cJ6_bitCount_0f7a4 38 = .ok (.iushr, 1) := by decide +kernel
theorem dJ6_bitCount_0f7a4_39 : decode cJ6_bitCount_0f7a4 39 = .ok (.iadd, 1) := by decide +kernel
theorem dJ6_bitCount_0f7a4_40 : decode cJ6_bitCount_0f7a4 40 = .ok (.istore_n 0, 1) := by decide +kernel
theorem dJ6_bitCount_0f7a4_41 : decode cJ6_bitCount_0f7a4 41 = .ok (.iload_n 0, 1) := by decide +kernel
theorem dJ6_bitCount_0f7a4_42 : decode cJ6_bitCount_0f7a4 42 = .ok (.iload_n 0, 1) := by decide +kernel
theorem dJ6_bitCount_0f7a4_43 : decode cJ6_bitCount_0f7a4 43 = .ok (.bipush 16, 2) := by decide +kernel
theorem dJ6_bitCount_0f7a4_45 : decode cJ6_bitCount_0f7a4 45 = .ok (.iushr, 1) := by decide +kernel
theorem dJ6_bitCount_0f7a4_46 : decode cJ6_bitCount_0f7a4 46 = .ok (.iadd, 1) := by decide +kernel
theorem dJ6_bitCount_0f7a4_47 : decode cJ6_bitCount_0f7a4 47 = .ok (.istore_n 0, 1) := by decide +kernel
theorem dJ6_bitCount_0f7a4_48 : decode cJ6_bitCount_0f7a4 48 = .ok (.iload_n 0, 1) := by decide +kernel
theorem dJ6_bitCount_0f7a4_49 : decode cJ6_bitCount_0f7a4 49 = .ok (.bipush 63, 2) := by decide +kernel
theorem dJ6_bitCount_0f7a4_51 : decode cJ6_bitCount_0f7a4 51 = .ok (.iand, 1) := by decide +kernel
theorem dJ6_bitCount_0f7a4_52 : decode cJ6_bitCount_0f7a4 52 = .ok (.ireturn, 1) := by decide +kernel
theorem tk_J6_265 : Cond.constant RJ6 265 1431655765 ∈ TMW := tm_in 986 (by decide +kernel) (by decide +kernel)
theorem tk_J6_266 : Cond.constant RJ6 266 858993459 ∈ TMW := tm_in 987 (by decide +kernel) (by decide +kernel)
theorem tk_J6_267 : Cond.constant RJ6 267 252645135 ∈ TMW := tm_in 988 (by decide +kernel) (by decide +kernel)
def f_J6_bitCount_0f7a4 (x0 : Int32) (v : tmM) : Option (Int32 × tmM) := tm_lt (x0 - (((x0.toUInt32 >>> ((1 : Int32).toUInt32 &&& Int32.toUInt32 31)).toInt32) &&& 1431655765)) fun y1 => tm_lt ((y1 &&& 858993459) + (((y1.toUInt32 >>> ((2 : Int32).toUInt32 &&& Int32.toUInt32 31)).toInt32) &&& 858993459)) fun y2 => tm_lt ((y2 + ((y2.toUInt32 >>> ((4 : Int32).toUInt32 &&& Int32.toUInt32 31)).toInt32)) &&& 252645135) fun y3 => tm_lt (y3 + ((y3.toUInt32 >>> ((8 : Int32).toUInt32 &&& Int32.toUInt32 31)).toInt32)) fun y4 => tm_lt (y4 + ((y4.toUInt32 >>> ((16 : Int32).toUInt32 &&& Int32.toUInt32 31)).toInt32)) fun y5 => some (y5 &&& 63, v)
set_option maxRecDepth 100000 in
set_option maxHeartbeats 4000000 in
theorem w_J6_bitCount_0f7a4 {p : Program} {l : Launch} {e : Env} {s : State} {m : MethodId} {args : Array Value} {below : List Frame} {meth : Method} {c : Code} {D : va_G} {cy : Nat → ClassId} {ad : Nat → Nat} {A : Nat → Prop} {z : (Int32 × tmM)} (C0 : tmC p s m args meth c cJ6_bitCount_0f7a4 1 (some .int) RJ6 TMW tm_NWC D cy tm_shC ad 256 [] A) (x0 : Int32) (v : tmM) : tmG p l e ({ frames := 0, cells := 0, slots := 0, locals := 0 } : Room) s m args below meth c 0 0 (MQ below (va_Qi (fun r u => z = (r, u)) (tmAt tm_shC 256 D cy ad A) A) args s 0 0 A) 1 D cy tm_shC ad 256 [] A z 0 [(0, .int x0)] [] v (f_J6_bitCount_0f7a4 x0 v) := by
  unfold f_J6_bitCount_0f7a4
  refine tg_iload_n 0 C0 dJ6_bitCount_0f7a4_0 rfl rfl ?_
  refine tg_iload_n 0 C0 dJ6_bitCount_0f7a4_1 rfl rfl ?_
  refine tg_iconst (x := 1) C0 dJ6_bitCount_0f7a4_2 (by decide) ?_
  refine tg_iushr C0 dJ6_bitCount_0f7a4_3 ?_
  refine tg_ldcw C0 dJ6_bitCount_0f7a4_4 tk_J6_265 ?_
  refine tg_iand C0 dJ6_bitCount_0f7a4_7 ?_
  refine tg_isub C0 dJ6_bitCount_0f7a4_8 ?_
  refine tg_leti (fun y1 _ => ?_)
  refine tg_istore_n [(0, .int y1)] C0 dJ6_bitCount_0f7a4_9 rfl (by decide) rfl ?_
  refine tg_iload_n 0 C0 dJ6_bitCount_0f7a4_10 rfl rfl ?_
  refine tg_ldcw C0 dJ6_bitCount_0f7a4_11 tk_J6_266 ?_
  refine tg_iand C0 dJ6_bitCount_0f7a4_14 ?_
  refine tg_iload_n 0 C0 dJ6_bitCount_0f7a4_15 rfl rfl ?_
  refine tg_iconst (x := 2) C0 dJ6_bitCount_0f7a4_16 (by decide) ?_
  refine tg_iushr C0 dJ6_bitCount_0f7a4_17 ?_
  refine tg_ldcw C0 dJ6_bitCount_0f7a4_18 tk_J6_266 ?_
  refine tg_iand C0 dJ6_bitCount_0f7a4_21 ?_
  refine tg_iadd C0 dJ6_bitCount_0f7a4_22 ?_
  refine tg_leti (fun y2 _ => ?_)
  refine tg_istore_n [(0, .int y2)] C0 dJ6_bitCount_0f7a4_23 rfl (by decide) rfl ?_
  refine tg_iload_n 0 C0 dJ6_bitCount_0f7a4_24 rfl rfl ?_
  refine tg_iload_n 0 C0 dJ6_bitCount_0f7a4_25 rfl rfl ?_
  refine tg_iconst (x := 4) C0 dJ6_bitCount_0f7a4_26 (by decide) ?_
  refine tg_iushr C0 dJ6_bitCount_0f7a4_27 ?_
  refine tg_iadd C0 dJ6_bitCount_0f7a4_28 ?_
  refine tg_ldcw C0 dJ6_bitCount_0f7a4_29 tk_J6_267 ?_
  refine tg_iand C0 dJ6_bitCount_0f7a4_32 ?_
  refine tg_leti (fun y3 _ => ?_)
  refine tg_istore_n [(0, .int y3)] C0 dJ6_bitCount_0f7a4_33 rfl (by decide) rfl ?_
  refine tg_iload_n 0 C0 dJ6_bitCount_0f7a4_34 rfl rfl ?_
  refine tg_iload_n 0 C0 dJ6_bitCount_0f7a4_35 rfl rfl ?_
  refine tg_bipush (x := 8) C0 dJ6_bitCount_0f7a4_36 (by decide) ?_
  refine tg_iushr C0 dJ6_bitCount_0f7a4_38 ?_
  refine tg_iadd C0 dJ6_bitCount_0f7a4_39 ?_
  refine tg_leti (fun y4 _ => ?_)
  refine tg_istore_n [(0, .int y4)] C0 dJ6_bitCount_0f7a4_40 rfl (by decide) rfl ?_
  refine tg_iload_n 0 C0 dJ6_bitCount_0f7a4_41 rfl rfl ?_
  refine tg_iload_n 0 C0 dJ6_bitCount_0f7a4_42 rfl rfl ?_
  refine tg_bipush (x := 16) C0 dJ6_bitCount_0f7a4_43 (by decide) ?_
  refine tg_iushr C0 dJ6_bitCount_0f7a4_45 ?_
  refine tg_iadd C0 dJ6_bitCount_0f7a4_46 ?_
  refine tg_leti (fun y5 _ => ?_)
  refine tg_istore_n [(0, .int y5)] C0 dJ6_bitCount_0f7a4_47 rfl (by decide) rfl ?_
  refine tg_iload_n 0 C0 dJ6_bitCount_0f7a4_48 rfl rfl ?_
  refine tg_bipush (x := 63) C0 dJ6_bitCount_0f7a4_49 (by decide) ?_
  refine tg_iand C0 dJ6_bitCount_0f7a4_51 ?_
  exact tg_iret C0 dJ6_bitCount_0f7a4_52
theorem c_J6_bitCount_0f7a4 (l : Launch) (x0 : Int32) (v : tmM) : tmMi tm_NWC tm_shC 256 l yJ6_bitCount_0f7a4 (Cond.code yJ6_bitCount_0f7a4 cJ6_bitCount_0f7a4 1 (some .int) :: TMW) ({ frames := 0, cells := 0, slots := 0, locals := 0 } : Room) (fun ad => [.int x0]) v (f_J6_bitCount_0f7a4 x0 v) :=
  tmMi.of (cc := cJ6_bitCount_0f7a4) (nL := 1) (by decide +kernel) rfl tm_NWC_ok (fun _ => Nat.le_of_ble_eq_true rfl) (fun p e s m args below meth c A D cy ad z C0 => w_J6_bitCount_0f7a4 C0 x0 v)
-- ----- X7_count
theorem dX7_count_0 : decode cX7_count 0 = .ok (.iload_n 1, 1) := by decide +kernel
theorem dX7_count_1 : decode cX7_count 1 = .ok (.ifCond .lt 13, 3) := by decide +kernel
theorem dX7_count_4 : decode cX7_count 4 = .ok (.iload_n 1, 1) := by decide +kernel
theorem dX7_count_5 : decode cX7_count 5 = .ok (.bipush 15, 2) := by decide +kernel
theorem dX7_count_7 : decode cX7_count 7 = .ok (.if_icmp .ge 7, 3) := by decide +kernel
theorem dX7_count_10 : decode cX7_count 10 = .ok (.iconst 1, 1) := by decide +kernel
theorem dX7_count_11 : decode cX7_count 11 = .ok (.goto 4, 3) := by decide +kernel
theorem dX7_count_14 : decode cX7_count 14 = .ok (.iconst 0, 1) := by decide +kernel
theorem dX7_count_15 : decode cX7_count 15 = .ok (.invokestatic 53, 3) := by decide +kernel
theorem dX7_count_18 : decode cX7_count 18 = .ok (.iload_n 1, 1) := by decide +kernel
theorem dX7_count_19 : decode cX7_count 19 = .ok (.tableswitch 249 0 13 #[69, 77, 88, 99, 111, 123, 134, 145, 156, 167, 193, 204, 209, 229], 69) := by decide +kernel
theorem dX7_count_88 : decode cX7_count 88 = .ok (.aload_n 0, 1) := by decide +kernel
theorem dX7_count_89 : decode cX7_count 89 = .ok (.getfield 12, 3) := by decide +kernel
theorem dX7_count_92 : decode cX7_count 92 = .ok (.getfield 92, 3) := by decide +kernel
theorem dX7_count_95 : decode cX7_count 95 = .ok (.ireturn, 1) := by decide +kernel
theorem dX7_count_96 : decode cX7_count 96 = .ok (.aload_n 0, 1) := by decide +kernel
theorem dX7_count_97 : decode cX7_count 97 = .ok (.getfield 12, 3) := by decide +kernel
theorem dX7_count_100 : decode cX7_count 100 = .ok (.getfield 98, 3) := by decide +kernel
theorem dX7_count_103 : decode cX7_count 103 = .ok (.getfield 102, 3) := by decide +kernel
theorem dX7_count_106 : decode cX7_count 106 = .ok (.ireturn, 1) := by decide +kernel
theorem dX7_count_107 : decode cX7_count 107 = .ok (.aload_n 0, 1) := by decide +kernel
theorem dX7_count_108 : decode cX7_count 108 = .ok (.getfield 12, 3) := by decide +kernel
theorem dX7_count_111 : decode cX7_count 111 = .ok (.getfield 98, 3) := by decide +kernel
theorem dX7_count_114 : decode cX7_count 114 = .ok (.getfield 107, 3) := by decide +kernel
theorem dX7_count_117 : decode cX7_count 117 = .ok (.ireturn, 1) := by decide +kernel
theorem dX7_count_118 : decode cX7_count 118 = .ok (.aload_n 0, 1) := by decide +kernel
theorem dX7_count_119 : decode cX7_count 119 = .ok (.getfield 12, 3) := by decide +kernel
theorem dX7_count_122 : decode cX7_count 122 = .ok (.getfield 98, 3) := by decide +kernel
theorem dX7_count_125 : decode cX7_count 125 = .ok (.iconst 0, 1) := by decide +kernel
theorem dX7_count_126 : decode cX7_count 126 = .ok (.invokevirtual 130, 3) := by decide +kernel
theorem dX7_count_129 : decode cX7_count 129 = .ok (.ireturn, 1) := by decide +kernel
theorem dX7_count_130 : decode cX7_count 130 = .ok (.aload_n 0, 1) := by decide +kernel
theorem dX7_count_131 : decode cX7_count 131 = .ok (.getfield 12, 3) := by decide +kernel
theorem dX7_count_134 : decode cX7_count 134 = .ok (.getfield 98, 3) := by decide +kernel
theorem dX7_count_137 : decode cX7_count 137 = .ok (.iconst 1, 1) := by decide +kernel
theorem dX7_count_138 : decode cX7_count 138 = .ok (.invokevirtual 130, 3) := by decide +kernel
theorem dX7_count_141 : decode cX7_count 141 = .ok (.ireturn, 1) := by decide +kernel
theorem dX7_count_142 : decode cX7_count 142 = .ok (.aload_n 0, 1) := by decide +kernel
theorem dX7_count_143 : decode cX7_count 143 = .ok (.getfield 12, 3) := by decide +kernel
theorem dX7_count_146 : decode cX7_count 146 = .ok (.getfield 134, 3) := by decide +kernel
theorem dX7_count_149 : decode cX7_count 149 = .ok (.invokestatic 137, 3) := by decide +kernel
theorem dX7_count_152 : decode cX7_count 152 = .ok (.ireturn, 1) := by decide +kernel
theorem dX7_count_153 : decode cX7_count 153 = .ok (.aload_n 0, 1) := by decide +kernel
theorem dX7_count_154 : decode cX7_count 154 = .ok (.getfield 12, 3) := by decide +kernel
theorem dX7_count_157 : decode cX7_count 157 = .ok (.getfield 142, 3) := by decide +kernel
theorem dX7_count_160 : decode cX7_count 160 = .ok (.invokestatic 137, 3) := by decide +kernel
theorem dX7_count_163 : decode cX7_count 163 = .ok (.ireturn, 1) := by decide +kernel
theorem dX7_count_164 : decode cX7_count 164 = .ok (.aload_n 0, 1) := by decide +kernel
theorem dX7_count_165 : decode cX7_count 165 = .ok (.getfield 12, 3) := by decide +kernel
theorem dX7_count_168 : decode cX7_count 168 = .ok (.getfield 145, 3) := by decide +kernel
theorem dX7_count_171 : decode cX7_count 171 = .ok (.getfield 149, 3) := by decide +kernel
theorem dX7_count_174 : decode cX7_count 174 = .ok (.ireturn, 1) := by decide +kernel
theorem dX7_count_175 : decode cX7_count 175 = .ok (.aload_n 0, 1) := by decide +kernel
theorem dX7_count_176 : decode cX7_count 176 = .ok (.getfield 12, 3) := by decide +kernel
theorem dX7_count_179 : decode cX7_count 179 = .ok (.getfield 152, 3) := by decide +kernel
theorem dX7_count_182 : decode cX7_count 182 = .ok (.invokestatic 137, 3) := by decide +kernel
theorem dX7_count_185 : decode cX7_count 185 = .ok (.ireturn, 1) := by decide +kernel
theorem dX7_count_186 : decode cX7_count 186 = .ok (.aload_n 0, 1) := by decide +kernel
theorem dX7_count_187 : decode cX7_count 187 = .ok (.getfield 12, 3) := by decide +kernel
theorem dX7_count_190 : decode cX7_count 190 = .ok (.getfield 92, 3) := by decide +kernel
theorem dX7_count_193 : decode cX7_count 193 = .ok (.iconst 2, 1) := by decide +kernel
theorem dX7_count_194 : decode cX7_count 194 = .ok (.if_icmp .ne 16, 3) := by decide +kernel
theorem dX7_count_197 : decode cX7_count 197 = .ok (.aload_n 0, 1) := by decide +kernel
theorem dX7_count_198 : decode cX7_count 198 = .ok (.getfield 12, 3) := by decide +kernel
theorem dX7_count_201 : decode cX7_count 201 = .ok (.getfield 155, 3) := by decide +kernel
theorem dX7_count_204 : decode cX7_count 204 = .ok (.getfield 159, 3) := by decide +kernel
theorem dX7_count_207 : decode cX7_count 207 = .ok (.goto 4, 3) := by decide +kernel
theorem dX7_count_210 : decode cX7_count 210 = .ok (.iconst 0, 1) := by decide +kernel
theorem dX7_count_211 : decode cX7_count 211 = .ok (.ireturn, 1) := by decide +kernel
theorem dX7_count_212 : decode cX7_count 212 = .ok (.aload_n 0, 1) := by decide +kernel
theorem dX7_count_213 : decode cX7_count 213 = .ok (.getfield 12, 3) := by decide +kernel
theorem dX7_count_216 : decode cX7_count 216 = .ok (.getfield 164, 3) := by decide +kernel
theorem dX7_count_219 : decode cX7_count 219 = .ok (.getfield 168, 3) := by decide +kernel
theorem dX7_count_222 : decode cX7_count 222 = .ok (.ireturn, 1) := by decide +kernel
theorem dX7_count_223 : decode cX7_count 223 = .ok (.aload_n 0, 1) := by decide +kernel
theorem dX7_count_224 : decode cX7_count 224 = .ok (.getfield 173, 3) := by decide +kernel
theorem dX7_count_227 : decode cX7_count 227 = .ok (.ireturn, 1) := by decide +kernel
theorem dX7_count_228 : decode cX7_count 228 = .ok (.aload_n 0, 1) := by decide +kernel
theorem dX7_count_229 : decode cX7_count 229 = .ok (.getfield 12, 3) := by decide +kernel
theorem dX7_count_232 : decode cX7_count 232 = .ok (.getfield 117, 3) := by decide +kernel
theorem dX7_count_235 : decode cX7_count 235 = .ok (.iconst 0, 1) := by decide +kernel
theorem dX7_count_236 : decode cX7_count 236 = .ok (.invokestatic 120, 3) := by decide +kernel
theorem dX7_count_239 : decode cX7_count 239 = .ok (.ifCond .eq 7, 3) := by decide +kernel
theorem dX7_count_242 : decode cX7_count 242 = .ok (.iconst 1, 1) := by decide +kernel
theorem dX7_count_243 : decode cX7_count 243 = .ok (.goto 4, 3) := by decide +kernel
theorem dX7_count_246 : decode cX7_count 246 = .ok (.iconst 0, 1) := by decide +kernel
theorem dX7_count_247 : decode cX7_count 247 = .ok (.ireturn, 1) := by decide +kernel
theorem dX7_count_248 : decode cX7_count 248 = .ok (.aload_n 0, 1) := by decide +kernel
theorem dX7_count_249 : decode cX7_count 249 = .ok (.getfield 12, 3) := by decide +kernel
theorem dX7_count_252 : decode cX7_count 252 = .ok (.getfield 117, 3) := by decide +kernel
theorem dX7_count_255 : decode cX7_count 255 = .ok (.iconst 1, 1) := by decide +kernel
theorem dX7_count_256 : decode cX7_count 256 = .ok (.invokestatic 120, 3) := by decide +kernel
theorem dX7_count_259 : decode cX7_count 259 = .ok (.ifCond .eq 7, 3) := by decide +kernel
theorem dX7_count_262 : decode cX7_count 262 = .ok (.iconst 1, 1) := by decide +kernel
theorem dX7_count_263 : decode cX7_count 263 = .ok (.goto 4, 3) := by decide +kernel
theorem dX7_count_266 : decode cX7_count 266 = .ok (.iconst 0, 1) := by decide +kernel
theorem dX7_count_267 : decode cX7_count 267 = .ok (.ireturn, 1) := by decide +kernel
theorem dX7_count_268 : decode cX7_count 268 = .ok (.aload_n 0, 1) := by decide +kernel
theorem dX7_count_269 : decode cX7_count 269 = .ok (.getfield 12, 3) := by decide +kernel
theorem dX7_count_272 : decode cX7_count 272 = .ok (.invokevirtual 176, 3) := by decide +kernel
theorem dX7_count_275 : decode cX7_count 275 = .ok (.ireturn, 1) := by decide +kernel
theorem tl_X7_130 : Cond.methodLink RX7 130 yX5_rowsOf ∈ TMW := tm_in 979 (by decide +kernel) (by decide +kernel)
theorem ti_X5_rowsOf : Cond.instanceMethod yX5_rowsOf ∈ TMW := tm_in 980 (by decide +kernel) (by decide +kernel)
theorem ts_X5_rowsOf : Cond.selects RX5 yX5_rowsOf yX5_rowsOf ∈ TMW := tm_in 981 (by decide +kernel) (by decide +kernel)
theorem tc_X5_rowsOf : Cond.code yX5_rowsOf cX5_rowsOf 4 (some .int) ∈ TMW := tm_in 982 (by decide +kernel) (by decide +kernel)
theorem tc_J6_bitCount_0f7a4 : Cond.code yJ6_bitCount_0f7a4 cJ6_bitCount_0f7a4 1 (some .int) ∈ TMW := tm_in 985 (by decide +kernel) (by decide +kernel)
theorem tl_X7_137 : Cond.methodLink RX7 137 yJ6_bitCount_0f7a4 ∈ TMW := tm_in 983 (by decide +kernel) (by decide +kernel)
theorem tn_J6 : Cond.initialized RJ6 ∈ TMW := tm_in 132 (by decide +kernel) (by decide +kernel)
theorem tst_J6_bitCount_0f7a4 : Cond.static yJ6_bitCount_0f7a4 ∈ TMW := tm_in 984 (by decide +kernel) (by decide +kernel)
theorem tl_X7_176 : Cond.methodLink RX7 176 yX4_leader ∈ TMW := tm_in 989 (by decide +kernel) (by decide +kernel)
def f_X7_count_15 (x1 s0 : Int32) (v : tmM) : Option (tmR) := tm_cx (f_X7_requireArgument s0 v) (fun _ v1 => (if x1 = 0 then some ((0, v1 0 0), v1) else if x1 = 1 then some ((0, v1 1 0), v1) else if x1 = 2 then some ((0, v1 1 1), v1) else if x1 = 3 then tm_cl (f_X5_rowsOf 0 v1) fun r6 v5 => some ((0, r6), v5) else if x1 = 4 then tm_cl (f_X5_rowsOf 1 v1) fun r9 v8 => some ((0, r9), v8) else if x1 = 5 then tm_cl (f_J6_bitCount_0f7a4 (v1 0 2) v1) fun r12 v11 => some ((0, r12), v11) else if x1 = 6 then tm_cl (f_J6_bitCount_0f7a4 (v1 0 3) v1) fun r15 v14 => some ((0, r15), v14) else if x1 = 7 then some ((0, v1 8 1), v1) else if x1 = 8 then tm_cl (f_J6_bitCount_0f7a4 (v1 0 4) v1) fun r19 v18 => some ((0, r19), v18) else if x1 = 9 then (if (v1 0 0) = 2 then some ((0, v1 13 1), v1) else some ((0, 0), v1)) else if x1 = 10 then some ((0, v1 10 2), v1) else if x1 = 11 then some ((0, v1 247 3), v1) else if x1 = 12 then tm_cl (f_X7_has (v1 0 1) 0 v1) fun r25 v24 => (if r25 = 0 then some ((0, 0), v24) else some ((0, 1), v24)) else if x1 = 13 then tm_cl (f_X7_has (v1 0 1) 1 v1) fun r28 v27 => (if r28 = 0 then some ((0, 0), v27) else some ((0, 1), v27)) else tm_cl (f_X4_leader v1) fun r31 v30 => some ((0, r31), v30))) 0
set_option maxRecDepth 100000 in
set_option maxHeartbeats 4000000 in
theorem w_X7_count_15 {p : Program} {l : Launch} {e : Env} {s : State} {m : MethodId} {args : Array Value} {below : List Frame} {meth : Method} {c : Code} {D : va_G} {cy : Nat → ClassId} {ad : Nat → Nat} {A : Nat → Prop} {z : (tmR)} (C0 : tmC p s m args meth c cX7_count 2 (some .int) RX7 TMW tm_NWC D cy tm_shC ad 256 [] A) (hl : l.stackTraces = false) (hE : tmTh A s s.heap) (hout : ∀ x ∈ c.exceptionTable.toList, False) (x1 s0 : Int32) (v : tmM) : tmG p l e ({ frames := 7, cells := 1, slots := 6, locals := 110 } : Room) s m args below meth c 0 0 (vx_MQ below (va_Qi (fun r u => z = ((0, r), u)) (tmAt tm_shC 256 D cy ad A) A) (tmXX tm_shC 256 D cy ad A 0 z) args s 1 6 A) 2 D cy tm_shC ad 256 [] A z 15 [(0, .ref (ad 247)), (1, .int x1)] [.int s0] v (f_X7_count_15 x1 s0 v) := by
  unfold f_X7_count_15
  refine tg_callSxi (As := [.int s0]) 1 C0 hE hout dX7_count_15 (c_X7_requireArgument l hl s0 v) rfl rfl (tm_gS tl_X7_53 tst_X7_requireArgument tn_X7 tc_X7_requireArgument) rfl rfl rfl rfl (by decide +kernel) ⟨by decide, by decide⟩ (Nat.le_of_ble_eq_true rfl) ⟨by decide, by decide⟩ ⟨by decide, by decide⟩ (fun v1 _ => ?_)
  refine tg_iload_n 1 C0 dX7_count_18 rfl rfl ?_
  refine tg_tab 0 (cst := 0) 88 tg_tab0 C0 dX7_count_19 (by decide) rfl (by decide) (by decide) (fun _ => ?_) (fun h2 => ?_)
  · refine tg_aload_n 0 C0 dX7_count_88 rfl rfl ?_
    refine tg_get 247 0 C0 dX7_count_89 (by decide) rfl rfl tu_X7 (by decide) tf_X7_12 rfl rfl rfl ?_
    refine tg_getN 0 0 C0 dX7_count_92 (by decide) rfl rfl tu_X4 (by decide) tm_nwC_X7_92 rfl rfl rfl ?_
    exact tg_xiret C0 dX7_count_95 ⟨by decide, by decide⟩
  refine tg_tab 1 (cst := 1) 96 h2 C0 dX7_count_19 (by decide) rfl (by decide) (by decide) (fun _ => ?_) (fun h3 => ?_)
  · refine tg_aload_n 0 C0 dX7_count_96 rfl rfl ?_
    refine tg_get 247 0 C0 dX7_count_97 (by decide) rfl rfl tu_X7 (by decide) tf_X7_12 rfl rfl rfl ?_
    refine tg_getN 0 5 C0 dX7_count_100 (by decide) rfl rfl tu_X4 (by decide) tm_nwC_X7_98 rfl rfl rfl ?_
    refine tg_getN 1 0 C0 dX7_count_103 (by decide) rfl rfl tu_X5 (by decide) tm_nwC_X7_102 rfl rfl rfl ?_
    exact tg_xiret C0 dX7_count_106 ⟨by decide, by decide⟩
  refine tg_tab 2 (cst := 2) 107 h3 C0 dX7_count_19 (by decide) rfl (by decide) (by decide) (fun _ => ?_) (fun h4 => ?_)
  · refine tg_aload_n 0 C0 dX7_count_107 rfl rfl ?_
    refine tg_get 247 0 C0 dX7_count_108 (by decide) rfl rfl tu_X7 (by decide) tf_X7_12 rfl rfl rfl ?_
    refine tg_getN 0 5 C0 dX7_count_111 (by decide) rfl rfl tu_X4 (by decide) tm_nwC_X7_98 rfl rfl rfl ?_
    refine tg_getN 1 1 C0 dX7_count_114 (by decide) rfl rfl tu_X5 (by decide) tm_nwC_X7_107 rfl rfl rfl ?_
    exact tg_xiret C0 dX7_count_117 ⟨by decide, by decide⟩
  refine tg_tab 3 (cst := 3) 118 h4 C0 dX7_count_19 (by decide) rfl (by decide) (by decide) (fun _ => ?_) (fun h7 => ?_)
  · refine tg_aload_n 0 C0 dX7_count_118 rfl rfl ?_
    refine tg_get 247 0 C0 dX7_count_119 (by decide) rfl rfl tu_X7 (by decide) tf_X7_12 rfl rfl rfl ?_
    refine tg_getN 0 5 C0 dX7_count_122 (by decide) rfl rfl tu_X4 (by decide) tm_nwC_X7_98 rfl rfl rfl ?_
    refine tg_iconst (x := 0) C0 dX7_count_125 (by decide) ?_
    refine tg_callVi (As := [.int 0]) 1 1 C0 dX7_count_126 (c_X5_rowsOf l 0 v1) rfl rfl (by decide) rfl rfl (tm_gV tl_X7_130 ti_X5_rowsOf ts_X5_rowsOf tn_X5 tc_X5_rowsOf)  rfl rfl rfl rfl (by decide +kernel) ⟨by decide, by decide⟩ (Nat.le_of_ble_eq_true rfl) ⟨by decide, by decide⟩ (fun r6 v5 _ => ?_)
    exact tg_xiret C0 dX7_count_129 ⟨by decide, by decide⟩
  refine tg_tab 4 (cst := 4) 130 h7 C0 dX7_count_19 (by decide) rfl (by decide) (by decide) (fun _ => ?_) (fun h10 => ?_)
  · refine tg_aload_n 0 C0 dX7_count_130 rfl rfl ?_
    refine tg_get 247 0 C0 dX7_count_131 (by decide) rfl rfl tu_X7 (by decide) tf_X7_12 rfl rfl rfl ?_
    refine tg_getN 0 5 C0 dX7_count_134 (by decide) rfl rfl tu_X4 (by decide) tm_nwC_X7_98 rfl rfl rfl ?_
    refine tg_iconst (x := 1) C0 dX7_count_137 (by decide) ?_
    refine tg_callVi (As := [.int 1]) 1 1 C0 dX7_count_138 (c_X5_rowsOf l 1 v1) rfl rfl (by decide) rfl rfl (tm_gV tl_X7_130 ti_X5_rowsOf ts_X5_rowsOf tn_X5 tc_X5_rowsOf)  rfl rfl rfl rfl (by decide +kernel) ⟨by decide, by decide⟩ (Nat.le_of_ble_eq_true rfl) ⟨by decide, by decide⟩ (fun r9 v8 _ => ?_)
    exact tg_xiret C0 dX7_count_141 ⟨by decide, by decide⟩
  refine tg_tab 5 (cst := 5) 142 h10 C0 dX7_count_19 (by decide) rfl (by decide) (by decide) (fun _ => ?_) (fun h13 => ?_)
  · refine tg_aload_n 0 C0 dX7_count_142 rfl rfl ?_
    refine tg_get 247 0 C0 dX7_count_143 (by decide) rfl rfl tu_X7 (by decide) tf_X7_12 rfl rfl rfl ?_
    refine tg_getN 0 2 C0 dX7_count_146 (by decide) rfl rfl tu_X4 (by decide) tm_nwC_X7_134 rfl rfl rfl ?_
    refine tg_callSi (As := [.int (v1 0 2)]) 1 C0 dX7_count_149 (c_J6_bitCount_0f7a4 l (v1 0 2) v1) rfl rfl (tm_gc tc_J6_bitCount_0f7a4) tl_X7_137 tn_J6 tst_J6_bitCount_0f7a4  rfl rfl rfl rfl (by decide +kernel) ⟨by decide, by decide⟩ (Nat.le_of_ble_eq_true rfl) ⟨by decide, by decide⟩ (fun r12 v11 _ => ?_)
    exact tg_xiret C0 dX7_count_152 ⟨by decide, by decide⟩
  refine tg_tab 6 (cst := 6) 153 h13 C0 dX7_count_19 (by decide) rfl (by decide) (by decide) (fun _ => ?_) (fun h16 => ?_)
  · refine tg_aload_n 0 C0 dX7_count_153 rfl rfl ?_
    refine tg_get 247 0 C0 dX7_count_154 (by decide) rfl rfl tu_X7 (by decide) tf_X7_12 rfl rfl rfl ?_
    refine tg_getN 0 3 C0 dX7_count_157 (by decide) rfl rfl tu_X4 (by decide) tm_nwC_X7_142 rfl rfl rfl ?_
    refine tg_callSi (As := [.int (v1 0 3)]) 1 C0 dX7_count_160 (c_J6_bitCount_0f7a4 l (v1 0 3) v1) rfl rfl (tm_gc tc_J6_bitCount_0f7a4) tl_X7_137 tn_J6 tst_J6_bitCount_0f7a4  rfl rfl rfl rfl (by decide +kernel) ⟨by decide, by decide⟩ (Nat.le_of_ble_eq_true rfl) ⟨by decide, by decide⟩ (fun r15 v14 _ => ?_)
    exact tg_xiret C0 dX7_count_163 ⟨by decide, by decide⟩
  refine tg_tab 7 (cst := 7) 164 h16 C0 dX7_count_19 (by decide) rfl (by decide) (by decide) (fun _ => ?_) (fun h17 => ?_)
  · refine tg_aload_n 0 C0 dX7_count_164 rfl rfl ?_
    refine tg_get 247 0 C0 dX7_count_165 (by decide) rfl rfl tu_X7 (by decide) tf_X7_12 rfl rfl rfl ?_
    refine tg_getN 0 6 C0 dX7_count_168 (by decide) rfl rfl tu_X4 (by decide) tm_nwC_X7_145 rfl rfl rfl ?_
    refine tg_getN 8 1 C0 dX7_count_171 (by decide) rfl rfl tu_X2 (by decide) tm_nwC_X7_149 rfl rfl rfl ?_
    exact tg_xiret C0 dX7_count_174 ⟨by decide, by decide⟩
  refine tg_tab 8 (cst := 8) 175 h17 C0 dX7_count_19 (by decide) rfl (by decide) (by decide) (fun _ => ?_) (fun h20 => ?_)
  · refine tg_aload_n 0 C0 dX7_count_175 rfl rfl ?_
    refine tg_get 247 0 C0 dX7_count_176 (by decide) rfl rfl tu_X7 (by decide) tf_X7_12 rfl rfl rfl ?_
    refine tg_getN 0 4 C0 dX7_count_179 (by decide) rfl rfl tu_X4 (by decide) tm_nwC_X7_152 rfl rfl rfl ?_
    refine tg_callSi (As := [.int (v1 0 4)]) 1 C0 dX7_count_182 (c_J6_bitCount_0f7a4 l (v1 0 4) v1) rfl rfl (tm_gc tc_J6_bitCount_0f7a4) tl_X7_137 tn_J6 tst_J6_bitCount_0f7a4  rfl rfl rfl rfl (by decide +kernel) ⟨by decide, by decide⟩ (Nat.le_of_ble_eq_true rfl) ⟨by decide, by decide⟩ (fun r19 v18 _ => ?_)
    exact tg_xiret C0 dX7_count_185 ⟨by decide, by decide⟩
  refine tg_tab 9 (cst := 9) 186 h20 C0 dX7_count_19 (by decide) rfl (by decide) (by decide) (fun _ => ?_) (fun h21 => ?_)
  · refine tg_aload_n 0 C0 dX7_count_186 rfl rfl ?_
    refine tg_get 247 0 C0 dX7_count_187 (by decide) rfl rfl tu_X7 (by decide) tf_X7_12 rfl rfl rfl ?_
    refine tg_getN 0 0 C0 dX7_count_190 (by decide) rfl rfl tu_X4 (by decide) tm_nwC_X7_92 rfl rfl rfl ?_
    refine tg_iconst (x := 2) C0 dX7_count_193 (by decide) ?_
    refine tg_icmp_ne 210 C0 dX7_count_194 (by decide) (fun _ => ?_) (fun _ => ?_)
    · refine tg_iconst (x := 0) C0 dX7_count_210 (by decide) ?_
      exact tg_xiret C0 dX7_count_211 ⟨by decide, by decide⟩
    · refine tg_aload_n 0 C0 dX7_count_197 rfl rfl ?_
      refine tg_get 247 0 C0 dX7_count_198 (by decide) rfl rfl tu_X7 (by decide) tf_X7_12 rfl rfl rfl ?_
      refine tg_getN 0 8 C0 dX7_count_201 (by decide) rfl rfl tu_X4 (by decide) tm_nwC_X7_155 rfl rfl rfl ?_
      refine tg_getN 13 1 C0 dX7_count_204 (by decide) rfl rfl tu_X6 (by decide) tm_nwC_X7_159 rfl rfl rfl ?_
      refine tg_goto 211 C0 dX7_count_207 (by decide) ?_
      exact tg_xiret C0 dX7_count_211 ⟨by decide, by decide⟩
  refine tg_tab 10 (cst := 10) 212 h21 C0 dX7_count_19 (by decide) rfl (by decide) (by decide) (fun _ => ?_) (fun h22 => ?_)
  · refine tg_aload_n 0 C0 dX7_count_212 rfl rfl ?_
    refine tg_get 247 0 C0 dX7_count_213 (by decide) rfl rfl tu_X7 (by decide) tf_X7_12 rfl rfl rfl ?_
    refine tg_getN 0 7 C0 dX7_count_216 (by decide) rfl rfl tu_X4 (by decide) tm_nwC_X7_164 rfl rfl rfl ?_
    refine tg_getN 10 2 C0 dX7_count_219 (by decide) rfl rfl tu_X1 (by decide) tm_nwC_X7_168 rfl rfl rfl ?_
    exact tg_xiret C0 dX7_count_222 ⟨by decide, by decide⟩
  refine tg_tab 11 (cst := 11) 223 h22 C0 dX7_count_19 (by decide) rfl (by decide) (by decide) (fun _ => ?_) (fun h23 => ?_)
  · refine tg_aload_n 0 C0 dX7_count_223 rfl rfl ?_
    refine tg_get 247 3 C0 dX7_count_224 (by decide) rfl rfl tu_X7 (by decide) tf_X7_173 rfl rfl rfl ?_
    exact tg_xiret C0 dX7_count_227 ⟨by decide, by decide⟩
  refine tg_tab 12 (cst := 12) 228 h23 C0 dX7_count_19 (by decide) rfl (by decide) (by decide) (fun _ => ?_) (fun h26 => ?_)
  · refine tg_aload_n 0 C0 dX7_count_228 rfl rfl ?_
    refine tg_get 247 0 C0 dX7_count_229 (by decide) rfl rfl tu_X7 (by decide) tf_X7_12 rfl rfl rfl ?_
    refine tg_getN 0 1 C0 dX7_count_232 (by decide) rfl rfl tu_X4 (by decide) tm_nwC_X7_117 rfl rfl rfl ?_
    refine tg_iconst (x := 0) C0 dX7_count_235 (by decide) ?_
    refine tg_callSi (As := [.int (v1 0 1), .int 0]) 2 C0 dX7_count_236 (c_X7_has l (v1 0 1) 0 v1) rfl rfl (tm_gc tc_X7_has) tl_X7_120 tn_X7 tst_X7_has  rfl rfl rfl rfl (by decide +kernel) ⟨by decide, by decide⟩ (Nat.le_of_ble_eq_true rfl) ⟨by decide, by decide⟩ (fun r25 v24 _ => ?_)
    refine tg_if_eq 246 C0 dX7_count_239 (by decide) (fun _ => ?_) (fun _ => ?_)
    · refine tg_iconst (x := 0) C0 dX7_count_246 (by decide) ?_
      exact tg_xiret C0 dX7_count_247 ⟨by decide, by decide⟩
    · refine tg_iconst (x := 1) C0 dX7_count_242 (by decide) ?_
      refine tg_goto 247 C0 dX7_count_243 (by decide) ?_
      exact tg_xiret C0 dX7_count_247 ⟨by decide, by decide⟩
  refine tg_tab 13 (cst := 13) 248 h26 C0 dX7_count_19 (by decide) rfl (by decide) (by decide) (fun _ => ?_) (fun h29 => ?_)
  · refine tg_aload_n 0 C0 dX7_count_248 rfl rfl ?_
    refine tg_get 247 0 C0 dX7_count_249 (by decide) rfl rfl tu_X7 (by decide) tf_X7_12 rfl rfl rfl ?_
    refine tg_getN 0 1 C0 dX7_count_252 (by decide) rfl rfl tu_X4 (by decide) tm_nwC_X7_117 rfl rfl rfl ?_
    refine tg_iconst (x := 1) C0 dX7_count_255 (by decide) ?_
    refine tg_callSi (As := [.int (v1 0 1), .int 1]) 2 C0 dX7_count_256 (c_X7_has l (v1 0 1) 1 v1) rfl rfl (tm_gc tc_X7_has) tl_X7_120 tn_X7 tst_X7_has  rfl rfl rfl rfl (by decide +kernel) ⟨by decide, by decide⟩ (Nat.le_of_ble_eq_true rfl) ⟨by decide, by decide⟩ (fun r28 v27 _ => ?_)
    refine tg_if_eq 266 C0 dX7_count_259 (by decide) (fun _ => ?_) (fun _ => ?_)
    · refine tg_iconst (x := 0) C0 dX7_count_266 (by decide) ?_
      exact tg_xiret C0 dX7_count_267 ⟨by decide, by decide⟩
    · refine tg_iconst (x := 1) C0 dX7_count_262 (by decide) ?_
      refine tg_goto 267 C0 dX7_count_263 (by decide) ?_
      exact tg_xiret C0 dX7_count_267 ⟨by decide, by decide⟩
  refine tg_tabO 14 268 h29 C0 dX7_count_19 (by decide) (by decide) ?_
  refine tg_aload_n 0 C0 dX7_count_268 rfl rfl ?_
  refine tg_get 247 0 C0 dX7_count_269 (by decide) rfl rfl tu_X7 (by decide) tf_X7_12 rfl rfl rfl ?_
  refine tg_callVi (As := []) 0 0 C0 dX7_count_272 (c_X4_leader l v1) rfl rfl (by decide) rfl rfl (tm_gV tl_X7_176 ti_X4_leader ts_X4_leader tn_X4 tc_X4_leader)  rfl rfl rfl rfl (by decide +kernel) ⟨by decide, by decide⟩ (Nat.le_of_ble_eq_true rfl) ⟨by decide, by decide⟩ (fun r31 v30 _ => ?_)
  exact tg_xiret C0 dX7_count_275 ⟨by decide, by decide⟩
def f_X7_count_14 (x1 : Int32) (v : tmM) : Option (tmR) := f_X7_count_15 x1 0 v
set_option maxRecDepth 100000 in
set_option maxHeartbeats 4000000 in
theorem w_X7_count_14 {p : Program} {l : Launch} {e : Env} {s : State} {m : MethodId} {args : Array Value} {below : List Frame} {meth : Method} {c : Code} {D : va_G} {cy : Nat → ClassId} {ad : Nat → Nat} {A : Nat → Prop} {z : (tmR)} (C0 : tmC p s m args meth c cX7_count 2 (some .int) RX7 TMW tm_NWC D cy tm_shC ad 256 [] A) (hl : l.stackTraces = false) (hE : tmTh A s s.heap) (hout : ∀ x ∈ c.exceptionTable.toList, False) (x1 : Int32) (v : tmM) : tmG p l e ({ frames := 7, cells := 1, slots := 6, locals := 110 } : Room) s m args below meth c 0 0 (vx_MQ below (va_Qi (fun r u => z = ((0, r), u)) (tmAt tm_shC 256 D cy ad A) A) (tmXX tm_shC 256 D cy ad A 0 z) args s 1 6 A) 2 D cy tm_shC ad 256 [] A z 14 [(0, .ref (ad 247)), (1, .int x1)] [] v (f_X7_count_14 x1 v) := by
  unfold f_X7_count_14
  refine tg_iconst (x := 0) C0 dX7_count_14 (by decide) ?_
  exact w_X7_count_15 C0 hl hE hout x1 0 v
def f_X7_count (x1 : Int32) (v : tmM) : Option (tmR) := (if x1 < 0 then f_X7_count_14 x1 v else (if 15 ≤ x1 then f_X7_count_14 x1 v else f_X7_count_15 x1 1 v))
set_option maxRecDepth 100000 in
set_option maxHeartbeats 4000000 in
theorem w_X7_count {p : Program} {l : Launch} {e : Env} {s : State} {m : MethodId} {args : Array Value} {below : List Frame} {meth : Method} {c : Code} {D : va_G} {cy : Nat → ClassId} {ad : Nat → Nat} {A : Nat → Prop} {z : (tmR)} (C0 : tmC p s m args meth c cX7_count 2 (some .int) RX7 TMW tm_NWC D cy tm_shC ad 256 [] A) (hl : l.stackTraces = false) (hE : tmTh A s s.heap) (hout : ∀ x ∈ c.exceptionTable.toList, False) (x1 : Int32) (v : tmM) : tmG p l e ({ frames := 7, cells := 1, slots := 6, locals := 110 } : Room) s m args below meth c 0 0 (vx_MQ below (va_Qi (fun r u => z = ((0, r), u)) (tmAt tm_shC 256 D cy ad A) A) (tmXX tm_shC 256 D cy ad A 0 z) args s 1 6 A) 2 D cy tm_shC ad 256 [] A z 0 [(0, .ref (ad 247)), (1, .int x1)] [] v (f_X7_count x1 v) := by
  unfold f_X7_count
  refine tg_iload_n 1 C0 dX7_count_0 rfl rfl ?_
  refine tg_if_lt 14 C0 dX7_count_1 (by decide) (fun _ => ?_) (fun _ => ?_)
  · exact w_X7_count_14 C0 hl hE hout x1 v
  · refine tg_iload_n 1 C0 dX7_count_4 rfl rfl ?_
    refine tg_bipush (x := 15) C0 dX7_count_5 (by decide) ?_
    refine tg_icmp_ge 14 C0 dX7_count_7 (by decide) (fun _ => ?_) (fun _ => ?_)
    · exact w_X7_count_14 C0 hl hE hout x1 v
    · refine tg_iconst (x := 1) C0 dX7_count_10 (by decide) ?_
      refine tg_goto 15 C0 dX7_count_11 (by decide) ?_
      exact w_X7_count_15 C0 hl hE hout x1 1 v
theorem c_X7_count (l : Launch) (hl : l.stackTraces = false) (x1 : Int32) (v : tmM) : tmXi tm_NWC tm_shC 256 l yX7_count (Cond.code yX7_count cX7_count 2 (some .int) :: TMW) ({ frames := 7, cells := 1, slots := 6, locals := 110 } : Room) (fun ad => [.ref (ad 247), .int x1]) v 1 6 (f_X7_count x1 v) :=
  tmXi.of (cc := cX7_count) (nL := 2) (by decide +kernel) rfl tm_NWC_ok (fun _ => Nat.le_of_ble_eq_true rfl) (fun p e s m args below meth c A D cy ad z C0 hE hout => w_X7_count C0 hl hE hout x1 v)
-- ----- X7_mean
theorem dX7_mean_0 : decode cX7_mean 0 = .ok (.iload_n 1, 1) := by decide +kernel
theorem dX7_mean_1 : decode cX7_mean 1 = .ok (.invokestatic 110, 3) := by decide +kernel
theorem dX7_mean_4 : decode cX7_mean 4 = .ok (.invokestatic 114, 3) := by decide +kernel
theorem dX7_mean_7 : decode cX7_mean 7 = .ok (.aload_n 0, 1) := by decide +kernel
theorem dX7_mean_8 : decode cX7_mean 8 = .ok (.getfield 12, 3) := by decide +kernel
theorem dX7_mean_11 : decode cX7_mean 11 = .ok (.getfield 98, 3) := by decide +kernel
theorem dX7_mean_14 : decode cX7_mean 14 = .ok (.iload_n 1, 1) := by decide +kernel
theorem dX7_mean_15 : decode cX7_mean 15 = .ok (.invokevirtual 130, 3) := by decide +kernel
theorem dX7_mean_18 : decode cX7_mean 18 = .ok (.aload_n 0, 1) := by decide +kernel
theorem dX7_mean_19 : decode cX7_mean 19 = .ok (.getfield 12, 3) := by decide +kernel
theorem dX7_mean_22 : decode cX7_mean 22 = .ok (.getfield 98, 3) := by decide +kernel
theorem dX7_mean_25 : decode cX7_mean 25 = .ok (.iload_n 1, 1) := by decide +kernel
theorem dX7_mean_26 : decode cX7_mean 26 = .ok (.invokevirtual 214, 3) := by decide +kernel
theorem dX7_mean_29 : decode cX7_mean 29 = .ok (.isub, 1) := by decide +kernel
theorem dX7_mean_30 : decode cX7_mean 30 = .ok (.istore_n 2, 1) := by decide +kernel
theorem dX7_mean_31 : decode cX7_mean 31 = .ok (.iload_n 2, 1) := by decide +kernel
theorem dX7_mean_32 : decode cX7_mean 32 = .ok (.ifCond .ne 7, 3) := by decide +kernel
theorem dX7_mean_35 : decode cX7_mean 35 = .ok (.ldc2_w 253, 3) := by decide +kernel
theorem dX7_mean_38 : decode cX7_mean 38 = .ok (.dreturn, 1) := by decide +kernel
theorem dX7_mean_39 : decode cX7_mean 39 = .ok (.aload_n 0, 1) := by decide +kernel
theorem dX7_mean_40 : decode cX7_mean 40 = .ok (.getfield 12, 3) := by decide +kernel
theorem dX7_mean_43 : decode cX7_mean 43 = .ok (.getfield 98, 3) := by decide +kernel
theorem dX7_mean_46 : decode cX7_mean 46 = .ok (.iload_n 1, 1) := by decide +kernel
theorem dX7_mean_47 : decode cX7_mean 47 = .ok (.iconst 0, 1) := by decide +kernel
theorem dX7_mean_48 : decode cX7_mean 48 = .ok (.bipush 59, 2) := by decide +kernel
theorem dX7_mean_50 : decode cX7_mean 50 = .ok (.invokevirtual 243, 3) := by decide +kernel
theorem dX7_mean_53 : decode cX7_mean 53 = .ok (.i2d, 1) := by decide +kernel
theorem dX7_mean_54 : decode cX7_mean 54 = .ok (.iload_n 2, 1) := by decide +kernel
theorem dX7_mean_55 : decode cX7_mean 55 = .ok (.i2d, 1) := by decide +kernel
theorem dX7_mean_56 : decode cX7_mean 56 = .ok (.ddiv, 1) := by decide +kernel
theorem dX7_mean_57 : decode cX7_mean 57 = .ok (.dreturn, 1) := by decide +kernel
theorem tk_X7_253 : Cond.constantDouble RX7 253 13830554455654793216 ∈ TMW := tm_in 1209 (by decide +kernel) (by decide +kernel)
def f_X7_mean (x1 : Int32) (v : tmM) : Option ((Nat × UInt64) × tmM) := tm_cl (f_X7_isSide x1 v) fun r2 v1 => tm_cx (f_X7_requireIndex r2 v1) (fun _ v3 => tm_cl (f_X5_rowsOf x1 v3) fun r5 v4 => tm_cl (f_X5_brokenCells x1 v4) fun r7 v6 => tm_lt (r5 - r7) fun y8 => (if y8 = 0 then some ((0, (13830554455654793216 : UInt64)), v6) else tm_cl (f_X5_valueSum x1 0 59 v6) fun r10 v9 => tm_g (tm_n64 (FP.ddiv (FP.i2d r10) (FP.i2d y8))) (some ((0, FP.ddiv (FP.i2d r10) (FP.i2d y8)), v9)))) 0
set_option maxRecDepth 100000 in
set_option maxHeartbeats 4000000 in
theorem w_X7_mean {p : Program} {l : Launch} {e : Env} {s : State} {m : MethodId} {args : Array Value} {below : List Frame} {meth : Method} {c : Code} {D : va_G} {cy : Nat → ClassId} {ad : Nat → Nat} {A : Nat → Prop} {z : ((Nat × UInt64) × tmM)} (C0 : tmC p s m args meth c cX7_mean 3 (some .double) RX7 TMW tm_NWC D cy tm_shC ad 256 [] A) (hl : l.stackTraces = false) (hE : tmTh A s s.heap) (hout : ∀ x ∈ c.exceptionTable.toList, False) (x1 : Int32) (v : tmM) : tmG p l e ({ frames := 7, cells := 1, slots := 6, locals := 110 } : Room) s m args below meth c 0 0 (vx_MQ below (va_Qd (fun r u => z = ((0, r), u)) (tmAt tm_shC 256 D cy ad A) A) (tmXX tm_shC 256 D cy ad A (0 : UInt64) z) args s 1 6 A) 3 D cy tm_shC ad 256 [] A z 0 [(0, .ref (ad 247)), (1, .int x1)] [] v (f_X7_mean x1 v) := by
  unfold f_X7_mean
  refine tg_iload_n 1 C0 dX7_mean_0 rfl rfl ?_
  refine tg_callSi (As := [.int x1]) 1 C0 dX7_mean_1 (c_X7_isSide l x1 v) rfl rfl (tm_gc tc_X7_isSide) tl_X7_110 tn_X7 tst_X7_isSide  rfl rfl rfl rfl (by decide +kernel) ⟨by decide, by decide⟩ (Nat.le_of_ble_eq_true rfl) ⟨by decide, by decide⟩ (fun r2 v1 _ => ?_)
  refine tg_callSxd (As := [.int r2]) 1 C0 hE hout dX7_mean_4 (c_X7_requireIndex l hl r2 v1) rfl rfl (tm_gS tl_X7_114 tst_X7_requireIndex tn_X7 tc_X7_requireIndex) rfl rfl rfl rfl (by decide +kernel) ⟨by decide, by decide⟩ (Nat.le_of_ble_eq_true rfl) ⟨by decide, by decide⟩ ⟨by decide, by decide⟩ (fun v3 _ => ?_)
  refine tg_aload_n 0 C0 dX7_mean_7 rfl rfl ?_
  refine tg_get 247 0 C0 dX7_mean_8 (by decide) rfl rfl tu_X7 (by decide) tf_X7_12 rfl rfl rfl ?_
  refine tg_getN 0 5 C0 dX7_mean_11 (by decide) rfl rfl tu_X4 (by decide) tm_nwC_X7_98 rfl rfl rfl ?_
  refine tg_iload_n 1 C0 dX7_mean_14 rfl rfl ?_
  refine tg_callVi (As := [.int x1]) 1 1 C0 dX7_mean_15 (c_X5_rowsOf l x1 v3) rfl rfl (by decide) rfl rfl (tm_gV tl_X7_130 ti_X5_rowsOf ts_X5_rowsOf tn_X5 tc_X5_rowsOf)  rfl rfl rfl rfl (by decide +kernel) ⟨by decide, by decide⟩ (Nat.le_of_ble_eq_true rfl) ⟨by decide, by decide⟩ (fun r5 v4 _ => ?_)
  refine tg_aload_n 0 C0 dX7_mean_18 rfl rfl ?_
  refine tg_get 247 0 C0 dX7_mean_19 (by decide) rfl rfl tu_X7 (by decide) tf_X7_12 rfl rfl rfl ?_
  refine tg_getN 0 5 C0 dX7_mean_22 (by decide) rfl rfl tu_X4 (by decide) tm_nwC_X7_98 rfl rfl rfl ?_
  refine tg_iload_n 1 C0 dX7_mean_25 rfl rfl ?_
  refine tg_callVi (As := [.int x1]) 1 1 C0 dX7_mean_26 (c_X5_brokenCells l x1 v4) rfl rfl (by decide) rfl rfl (tm_gV tl_X7_214 ti_X5_brokenCells ts_X5_brokenCells tn_X5 tc_X5_brokenCells)  rfl rfl rfl rfl (by decide +kernel) ⟨by decide, by decide⟩ (Nat.le_of_ble_eq_true rfl) ⟨by decide, by decide⟩ (fun r7 v6 _ => ?_)
  refine tg_isub C0 dX7_mean_29 ?_
  refine tg_leti (fun y8 _ => ?_)
  refine tg_istore_n [(2, .int y8), (0, .ref (ad 247)), (1, .int x1)] C0 dX7_mean_30 rfl (by decide) rfl ?_
  refine tg_iload_n 0 C0 dX7_mean_31 rfl rfl ?_
  refine tg_if_ne 39 C0 dX7_mean_32 (by decide) (fun _ => ?_) (fun _ => ?_)
  · refine tg_aload_n 1 C0 dX7_mean_39 rfl rfl ?_
    refine tg_get 247 0 C0 dX7_mean_40 (by decide) rfl rfl tu_X7 (by decide) tf_X7_12 rfl rfl rfl ?_
    refine tg_getN 0 5 C0 dX7_mean_43 (by decide) rfl rfl tu_X4 (by decide) tm_nwC_X7_98 rfl rfl rfl ?_
    refine tg_iload_n 2 C0 dX7_mean_46 rfl rfl ?_
    refine tg_iconst (x := 0) C0 dX7_mean_47 (by decide) ?_
    refine tg_bipush (x := 59) C0 dX7_mean_48 (by decide) ?_
    refine tg_callVi (As := [.int x1, .int 0, .int 59]) 1 3 C0 dX7_mean_50 (c_X5_valueSum l x1 0 59 v6) rfl rfl (by decide) rfl rfl (tm_gV tl_X7_243 ti_X5_valueSum ts_X5_valueSum tn_X5 tc_X5_valueSum)  rfl rfl rfl rfl (by decide +kernel) ⟨by decide, by decide⟩ (Nat.le_of_ble_eq_true rfl) ⟨by decide, by decide⟩ (fun r10 v9 _ => ?_)
    refine tg_i2d C0 dX7_mean_53 ?_
    refine tg_iload_n 0 C0 dX7_mean_54 rfl rfl ?_
    refine tg_i2d C0 dX7_mean_55 ?_
    refine tg_ddiv C0 dX7_mean_56 ?_
    exact tg_xdret C0 dX7_mean_57 ⟨by decide, by decide⟩
  · refine tg_ldc2d C0 dX7_mean_35 tk_X7_253 ?_
    exact tg_xdret C0 dX7_mean_38 ⟨by decide, by decide⟩
theorem c_X7_mean (l : Launch) (hl : l.stackTraces = false) (x1 : Int32) (v : tmM) : tmXd tm_NWC tm_shC 256 l yX7_mean (Cond.code yX7_mean cX7_mean 3 (some .double) :: TMW) ({ frames := 7, cells := 1, slots := 6, locals := 110 } : Room) (fun ad => [.ref (ad 247), .int x1]) v 1 6 (f_X7_mean x1 v) :=
  tmXd.of (cc := cX7_mean) (nL := 3) (by decide +kernel) rfl tm_NWC_ok (fun _ => Nat.le_of_ble_eq_true rfl) (fun p e s m args below meth c A D cy ad z C0 hE hout => w_X7_mean C0 hl hE hout x1 v)
-- ----- X7_agreement
theorem dX7_agreement_0 : decode cX7_agreement 0 = .ok (.iconst 0, 1) := by decide +kernel
theorem dX7_agreement_1 : decode cX7_agreement 1 = .ok (.istore_n 1, 1) := by decide +kernel
theorem dX7_agreement_2 : decode cX7_agreement 2 = .ok (.iconst 0, 1) := by decide +kernel
theorem dX7_agreement_3 : decode cX7_agreement 3 = .ok (.istore_n 2, 1) := by decide +kernel
theorem dX7_agreement_4 : decode cX7_agreement 4 = .ok (.iconst 0, 1) := by decide +kernel
theorem dX7_agreement_5 : decode cX7_agreement 5 = .ok (.istore_n 3, 1) := by decide +kernel
theorem dX7_agreement_6 : decode cX7_agreement 6 = .ok (.iload_n 3, 1) := by decide +kernel
theorem dX7_agreement_7 : decode cX7_agreement 7 = .ok (.bipush 60, 2) := by decide +kernel
theorem dX7_agreement_9 : decode cX7_agreement 9 = .ok (.if_icmp .ge 48, 3) := by decide +kernel
theorem dX7_agreement_12 : decode cX7_agreement 12 = .ok (.aload_n 0, 1) := by decide +kernel
theorem dX7_agreement_13 : decode cX7_agreement 13 = .ok (.getfield 12, 3) := by decide +kernel
theorem dX7_agreement_16 : decode cX7_agreement 16 = .ok (.getfield 98, 3) := by decide +kernel
theorem dX7_agreement_19 : decode cX7_agreement 19 = .ok (.iload_n 3, 1) := by decide +kernel
theorem dX7_agreement_20 : decode cX7_agreement 20 = .ok (.invokevirtual 255, 3) := by decide +kernel
theorem dX7_agreement_23 : decode cX7_agreement 23 = .ok (.ifCond .eq 28, 3) := by decide +kernel
theorem dX7_agreement_26 : decode cX7_agreement 26 = .ok (.iinc 1 1, 3) := by decide +kernel
theorem dX7_agreement_29 : decode cX7_agreement 29 = .ok (.iload_n 2, 1) := by decide +kernel
theorem dX7_agreement_30 : decode cX7_agreement 30 = .ok (.aload_n 0, 1) := by decide +kernel
theorem dX7_agreement_31 : decode cX7_agreement 31 = .ok (.getfield 12, 3) := by decide +kernel
theorem dX7_agreement_34 : decode cX7_agreement 34 = .ok (.getfield 98, 3) := by decide +kernel
theorem dX7_agreement_37 : decode cX7_agreement 37 = .ok (.iload_n 3, 1) := by decide +kernel
theorem dX7_agreement_38 : decode cX7_agreement 38 = .ok (.invokevirtual 211, 3) := by decide +kernel
theorem dX7_agreement_41 : decode cX7_agreement 41 = .ok (.ifCond .eq 7, 3) := by decide +kernel
theorem dX7_agreement_44 : decode cX7_agreement 44 = .ok (.iconst 0, 1) := by decide +kernel
theorem dX7_agreement_45 : decode cX7_agreement 45 = .ok (.goto 4, 3) := by decide +kernel
theorem dX7_agreement_48 : decode cX7_agreement 48 = .ok (.iconst 1, 1) := by decide +kernel
theorem dX7_agreement_49 : decode cX7_agreement 49 = .ok (.iadd, 1) := by decide +kernel
theorem dX7_agreement_50 : decode cX7_agreement 50 = .ok (.istore_n 2, 1) := by decide +kernel
theorem dX7_agreement_51 : decode cX7_agreement 51 = .ok (.iinc 3 1, 3) := by decide +kernel
theorem dX7_agreement_54 : decode cX7_agreement 54 = .ok (.goto (-48), 3) := by decide +kernel
theorem dX7_agreement_57 : decode cX7_agreement 57 = .ok (.iload_n 1, 1) := by decide +kernel
theorem dX7_agreement_58 : decode cX7_agreement 58 = .ok (.ifCond .ne 7, 3) := by decide +kernel
theorem dX7_agreement_61 : decode cX7_agreement 61 = .ok (.fconst 1, 1) := by decide +kernel
theorem dX7_agreement_62 : decode cX7_agreement 62 = .ok (.goto 8, 3) := by decide +kernel
theorem dX7_agreement_65 : decode cX7_agreement 65 = .ok (.iload_n 2, 1) := by decide +kernel
theorem dX7_agreement_66 : decode cX7_agreement 66 = .ok (.i2f, 1) := by decide +kernel
theorem dX7_agreement_67 : decode cX7_agreement 67 = .ok (.iload_n 1, 1) := by decide +kernel
theorem dX7_agreement_68 : decode cX7_agreement 68 = .ok (.i2f, 1) := by decide +kernel
theorem dX7_agreement_69 : decode cX7_agreement 69 = .ok (.fdiv, 1) := by decide +kernel
theorem dX7_agreement_70 : decode cX7_agreement 70 = .ok (.freturn, 1) := by decide +kernel
theorem tl_X7_255 : Cond.methodLink RX7 255 yX5_hasRowSomewhere ∈ TMW := tm_in 786 (by decide +kernel) (by decide +kernel)
theorem ti_X5_hasRowSomewhere : Cond.instanceMethod yX5_hasRowSomewhere ∈ TMW := tm_in 787 (by decide +kernel) (by decide +kernel)
theorem ts_X5_hasRowSomewhere : Cond.selects RX5 yX5_hasRowSomewhere yX5_hasRowSomewhere ∈ TMW := tm_in 788 (by decide +kernel) (by decide +kernel)
theorem tc_X5_hasRowSomewhere : Cond.code yX5_hasRowSomewhere cX5_hasRowSomewhere 2 (some .boolean) ∈ TMW := tm_in 789 (by decide +kernel) (by decide +kernel)
def f_X7_agreement_51 (K0 : Int32 → Int32 → tmM → Option (UInt32 × tmM)) (L : Int32 → Int32 → Int32 → tmM → Option (UInt32 × tmM)) (x1 x2 x3 : Int32) (v : tmM) : Option (UInt32 × tmM) := L x1 x2 (x3 + 1) v
set_option maxRecDepth 100000 in
set_option maxHeartbeats 4000000 in
theorem w_X7_agreement_51 {p : Program} {l : Launch} {e : Env} {s : State} {m : MethodId} {args : Array Value} {below : List Frame} {meth : Method} {c : Code} {D : va_G} {cy : Nat → ClassId} {ad : Nat → Nat} {A : Nat → Prop} {z : (UInt32 × tmM)} {K0 : Int32 → Int32 → tmM → Option (UInt32 × tmM)} {L : Int32 → Int32 → Int32 → tmM → Option (UInt32 × tmM)} (C0 : tmC p s m args meth c cX7_agreement 4 (some .float) RX7 TMW tm_NWC D cy tm_shC ad 256 [] A) (hK0 : ∀ (a1 a2 : Int32) (w : tmM), tmG p l e ({ frames := 2, cells := 0, slots := 0, locals := 46 } : Room) s m args below meth c 0 0 (MQ below (va_Qf (fun r u => z = (r, u)) (tmAt tm_shC 256 D cy ad A) A) args s 0 0 A) 4 D cy tm_shC ad 256 [] A z 57 [(1, .int a1), (2, .int a2)] [] w (K0 a1 a2 w)) (hL : ∀ (a1 a2 a3 : Int32) (w : tmM), tmG p l e ({ frames := 2, cells := 0, slots := 0, locals := 46 } : Room) s m args below meth c 0 0 (MQ below (va_Qf (fun r u => z = (r, u)) (tmAt tm_shC 256 D cy ad A) A) args s 0 0 A) 4 D cy tm_shC ad 256 [] A z 6 [(0, .ref (ad 247)), (1, .int a1), (2, .int a2), (3, .int a3)] [] w (L a1 a2 a3 w)) (x1 x2 x3 : Int32) (v : tmM) : tmG p l e ({ frames := 2, cells := 0, slots := 0, locals := 46 } : Room) s m args below meth c 0 0 (MQ below (va_Qf (fun r u => z = (r, u)) (tmAt tm_shC 256 D cy ad A) A) args s 0 0 A) 4 D cy tm_shC ad 256 [] A z 51 [(0, .ref (ad 247)), (1, .int x1), (2, .int x2), (3, .int x3)] [] v (f_X7_agreement_51 K0 L x1 x2 x3 v) := by
  unfold f_X7_agreement_51
  refine tg_iinc [(3, .int (x3 + 1)), (0, .ref (ad 247)), (1, .int x1), (2, .int x2)] 3 C0 dX7_agreement_51 rfl rfl (by decide) rfl ?_
  refine tg_goto 6 C0 dX7_agreement_54 (by decide) ?_
  refine tg_sub [1, 2, 3, 0] rfl ?_
  exact hL x1 x2 (x3 + 1) v
def f_X7_agreement_49 (K0 : Int32 → Int32 → tmM → Option (UInt32 × tmM)) (L : Int32 → Int32 → Int32 → tmM → Option (UInt32 × tmM)) (x1 x3 s0 s1 : Int32) (v : tmM) : Option (UInt32 × tmM) := tm_lt (s1 + s0) fun y5 => f_X7_agreement_51 K0 L x1 y5 x3 v
set_option maxRecDepth 100000 in
set_option maxHeartbeats 4000000 in
theorem w_X7_agreement_49 {p : Program} {l : Launch} {e : Env} {s : State} {m : MethodId} {args : Array Value} {below : List Frame} {meth : Method} {c : Code} {D : va_G} {cy : Nat → ClassId} {ad : Nat → Nat} {A : Nat → Prop} {z : (UInt32 × tmM)} {K0 : Int32 → Int32 → tmM → Option (UInt32 × tmM)} {L : Int32 → Int32 → Int32 → tmM → Option (UInt32 × tmM)} (C0 : tmC p s m args meth c cX7_agreement 4 (some .float) RX7 TMW tm_NWC D cy tm_shC ad 256 [] A) (hK0 : ∀ (a1 a2 : Int32) (w : tmM), tmG p l e ({ frames := 2, cells := 0, slots := 0, locals := 46 } : Room) s m args below meth c 0 0 (MQ below (va_Qf (fun r u => z = (r, u)) (tmAt tm_shC 256 D cy ad A) A) args s 0 0 A) 4 D cy tm_shC ad 256 [] A z 57 [(1, .int a1), (2, .int a2)] [] w (K0 a1 a2 w)) (hL : ∀ (a1 a2 a3 : Int32) (w : tmM), tmG p l e ({ frames := 2, cells := 0, slots := 0, locals := 46 } : Room) s m args below meth c 0 0 (MQ below (va_Qf (fun r u => z = (r, u)) (tmAt tm_shC 256 D cy ad A) A) args s 0 0 A) 4 D cy tm_shC ad 256 [] A z 6 [(0, .ref (ad 247)), (1, .int a1), (2, .int a2), (3, .int a3)] [] w (L a1 a2 a3 w)) (x1 x3 s0 s1 : Int32) (v : tmM) : tmG p l e ({ frames := 2, cells := 0, slots := 0, locals := 46 } : Room) s m args below meth c 0 0 (MQ below (va_Qf (fun r u => z = (r, u)) (tmAt tm_shC 256 D cy ad A) A) args s 0 0 A) 4 D cy tm_shC ad 256 [] A z 49 [(0, .ref (ad 247)), (1, .int x1), (3, .int x3)] [.int s0, .int s1] v (f_X7_agreement_49 K0 L x1 x3 s0 s1 v) := by
  unfold f_X7_agreement_49
  refine tg_iadd C0 dX7_agreement_49 ?_
  refine tg_leti (fun y5 _ => ?_)
  refine tg_istore_n [(2, .int y5), (0, .ref (ad 247)), (1, .int x1), (3, .int x3)] C0 dX7_agreement_50 rfl (by decide) rfl ?_
  refine tg_sub [1, 2, 0, 3] rfl ?_
  exact w_X7_agreement_51 C0 hK0 hL x1 y5 x3 v
def f_X7_agreement_6b (K0 : Int32 → Int32 → tmM → Option (UInt32 × tmM)) (L : Int32 → Int32 → Int32 → tmM → Option (UInt32 × tmM)) (x1 x2 x3 : Int32) (v : tmM) : Option (UInt32 × tmM) := (if 60 ≤ x3 then K0 x1 x2 v else tm_cl (f_X5_hasRowSomewhere x3 v) fun r2 v1 => (if r2 = 0 then f_X7_agreement_51 K0 L x1 x2 x3 v1 else tm_cl (f_X5_differ x3 v1) fun r4 v3 => (if r4 = 0 then f_X7_agreement_49 K0 L (x1 + 1) x3 1 x2 v3 else f_X7_agreement_49 K0 L (x1 + 1) x3 0 x2 v3)))
set_option maxRecDepth 100000 in
set_option maxHeartbeats 4000000 in
theorem w_X7_agreement_6b {p : Program} {l : Launch} {e : Env} {s : State} {m : MethodId} {args : Array Value} {below : List Frame} {meth : Method} {c : Code} {D : va_G} {cy : Nat → ClassId} {ad : Nat → Nat} {A : Nat → Prop} {z : (UInt32 × tmM)} {K0 : Int32 → Int32 → tmM → Option (UInt32 × tmM)} {L : Int32 → Int32 → Int32 → tmM → Option (UInt32 × tmM)} (C0 : tmC p s m args meth c cX7_agreement 4 (some .float) RX7 TMW tm_NWC D cy tm_shC ad 256 [] A) (hK0 : ∀ (a1 a2 : Int32) (w : tmM), tmG p l e ({ frames := 2, cells := 0, slots := 0, locals := 46 } : Room) s m args below meth c 0 0 (MQ below (va_Qf (fun r u => z = (r, u)) (tmAt tm_shC 256 D cy ad A) A) args s 0 0 A) 4 D cy tm_shC ad 256 [] A z 57 [(1, .int a1), (2, .int a2)] [] w (K0 a1 a2 w)) (hL : ∀ (a1 a2 a3 : Int32) (w : tmM), tmG p l e ({ frames := 2, cells := 0, slots := 0, locals := 46 } : Room) s m args below meth c 0 0 (MQ below (va_Qf (fun r u => z = (r, u)) (tmAt tm_shC 256 D cy ad A) A) args s 0 0 A) 4 D cy tm_shC ad 256 [] A z 6 [(0, .ref (ad 247)), (1, .int a1), (2, .int a2), (3, .int a3)] [] w (L a1 a2 a3 w)) (x1 x2 x3 : Int32) (v : tmM) : tmG p l e ({ frames := 2, cells := 0, slots := 0, locals := 46 } : Room) s m args below meth c 0 0 (MQ below (va_Qf (fun r u => z = (r, u)) (tmAt tm_shC 256 D cy ad A) A) args s 0 0 A) 4 D cy tm_shC ad 256 [] A z 6 [(0, .ref (ad 247)), (1, .int x1), (2, .int x2), (3, .int x3)] [] v (f_X7_agreement_6b K0 L x1 x2 x3 v) := by
  unfold f_X7_agreement_6b
  refine tg_iload_n 3 C0 dX7_agreement_6 rfl rfl ?_
  refine tg_bipush (x := 60) C0 dX7_agreement_7 (by decide) ?_
  refine tg_icmp_ge 57 C0 dX7_agreement_9 (by decide) (fun _ => ?_) (fun _ => ?_)
  · refine tg_sub [1, 2] rfl ?_
    exact hK0 x1 x2 v
  · refine tg_aload_n 0 C0 dX7_agreement_12 rfl rfl ?_
    refine tg_get 247 0 C0 dX7_agreement_13 (by decide) rfl rfl tu_X7 (by decide) tf_X7_12 rfl rfl rfl ?_
    refine tg_getN 0 5 C0 dX7_agreement_16 (by decide) rfl rfl tu_X4 (by decide) tm_nwC_X7_98 rfl rfl rfl ?_
    refine tg_iload_n 3 C0 dX7_agreement_19 rfl rfl ?_
    refine tg_callVi (As := [.int x3]) 1 1 C0 dX7_agreement_20 (c_X5_hasRowSomewhere l x3 v) rfl rfl (by decide) rfl rfl (tm_gV tl_X7_255 ti_X5_hasRowSomewhere ts_X5_hasRowSomewhere tn_X5 tc_X5_hasRowSomewhere)  rfl rfl rfl rfl (by decide +kernel) ⟨by decide, by decide⟩ (Nat.le_of_ble_eq_true rfl) ⟨by decide, by decide⟩ (fun r2 v1 _ => ?_)
    refine tg_if_eq 51 C0 dX7_agreement_23 (by decide) (fun _ => ?_) (fun _ => ?_)
    · exact w_X7_agreement_51 C0 hK0 hL x1 x2 x3 v1
    · refine tg_iinc [(1, .int (x1 + 1)), (0, .ref (ad 247)), (2, .int x2), (3, .int x3)] 1 C0 dX7_agreement_26 rfl rfl (by decide) rfl ?_
      refine tg_iload_n 2 C0 dX7_agreement_29 rfl rfl ?_
      refine tg_aload_n 1 C0 dX7_agreement_30 rfl rfl ?_
      refine tg_get 247 0 C0 dX7_agreement_31 (by decide) rfl rfl tu_X7 (by decide) tf_X7_12 rfl rfl rfl ?_
      refine tg_getN 0 5 C0 dX7_agreement_34 (by decide) rfl rfl tu_X4 (by decide) tm_nwC_X7_98 rfl rfl rfl ?_
      refine tg_iload_n 3 C0 dX7_agreement_37 rfl rfl ?_
      refine tg_callVi (As := [.int x3]) 1 1 C0 dX7_agreement_38 (c_X5_differ l x3 v1) rfl rfl (by decide) rfl rfl (tm_gV tl_X7_211 ti_X5_differ ts_X5_differ tn_X5 tc_X5_differ)  rfl rfl rfl rfl (by decide +kernel) ⟨by decide, by decide⟩ (Nat.le_of_ble_eq_true rfl) ⟨by decide, by decide⟩ (fun r4 v3 _ => ?_)
      refine tg_if_eq 48 C0 dX7_agreement_41 (by decide) (fun _ => ?_) (fun _ => ?_)
      · refine tg_iconst (x := 1) C0 dX7_agreement_48 (by decide) ?_
        refine tg_sub [1, 0, 3] rfl ?_
        exact w_X7_agreement_49 C0 hK0 hL (x1 + 1) x3 1 x2 v3
      · refine tg_iconst (x := 0) C0 dX7_agreement_44 (by decide) ?_
        refine tg_goto 49 C0 dX7_agreement_45 (by decide) ?_
        refine tg_sub [1, 0, 3] rfl ?_
        exact w_X7_agreement_49 C0 hK0 hL (x1 + 1) x3 0 x2 v3
def f_X7_agreement_6 (K0 : Int32 → Int32 → tmM → Option (UInt32 × tmM)) : Nat → Int32 → Int32 → Int32 → tmM → Option (UInt32 × tmM)
  | 0 => fun _ _ _ _ => none
  | n + 1 => f_X7_agreement_6b K0 (f_X7_agreement_6 K0 n)
theorem w_X7_agreement_6 {p : Program} {l : Launch} {e : Env} {s : State} {m : MethodId} {args : Array Value} {below : List Frame} {meth : Method} {c : Code} {D : va_G} {cy : Nat → ClassId} {ad : Nat → Nat} {A : Nat → Prop} {z : (UInt32 × tmM)} {K0 : Int32 → Int32 → tmM → Option (UInt32 × tmM)} (C0 : tmC p s m args meth c cX7_agreement 4 (some .float) RX7 TMW tm_NWC D cy tm_shC ad 256 [] A) (hK0 : ∀ (a1 a2 : Int32) (w : tmM), tmG p l e ({ frames := 2, cells := 0, slots := 0, locals := 46 } : Room) s m args below meth c 0 0 (MQ below (va_Qf (fun r u => z = (r, u)) (tmAt tm_shC 256 D cy ad A) A) args s 0 0 A) 4 D cy tm_shC ad 256 [] A z 57 [(1, .int a1), (2, .int a2)] [] w (K0 a1 a2 w)) (nn : Nat) : ∀ (x1 x2 x3 : Int32) (v : tmM), tmG p l e ({ frames := 2, cells := 0, slots := 0, locals := 46 } : Room) s m args below meth c 0 0 (MQ below (va_Qf (fun r u => z = (r, u)) (tmAt tm_shC 256 D cy ad A) A) args s 0 0 A) 4 D cy tm_shC ad 256 [] A z 6 [(0, .ref (ad 247)), (1, .int x1), (2, .int x2), (3, .int x3)] [] v (f_X7_agreement_6 K0 nn x1 x2 x3 v) := by
  induction nn with
  | zero => intro _ _ _ _; exact tg_none
  | succ n ih => intro x1 x2 x3 v; exact w_X7_agreement_6b C0 hK0 ih x1 x2 x3 v
def f_X7_agreement (v : tmM) : Option (UInt32 × tmM) := f_X7_agreement_6 (fun x6 x7 v8 => (if x6 = 0 then some (FP.fconst1, v8) else tm_g (tm_n32 (FP.fdiv (FP.i2f x7) (FP.i2f x6))) (some (FP.fdiv (FP.i2f x7) (FP.i2f x6), v8)))) 10000 0 0 0 v
set_option maxRecDepth 100000 in
set_option maxHeartbeats 4000000 in
theorem w_X7_agreement {p : Program} {l : Launch} {e : Env} {s : State} {m : MethodId} {args : Array Value} {below : List Frame} {meth : Method} {c : Code} {D : va_G} {cy : Nat → ClassId} {ad : Nat → Nat} {A : Nat → Prop} {z : (UInt32 × tmM)} (C0 : tmC p s m args meth c cX7_agreement 4 (some .float) RX7 TMW tm_NWC D cy tm_shC ad 256 [] A) (v : tmM) : tmG p l e ({ frames := 2, cells := 0, slots := 0, locals := 46 } : Room) s m args below meth c 0 0 (MQ below (va_Qf (fun r u => z = (r, u)) (tmAt tm_shC 256 D cy ad A) A) args s 0 0 A) 4 D cy tm_shC ad 256 [] A z 0 [(0, .ref (ad 247))] [] v (f_X7_agreement v) := by
  unfold f_X7_agreement
  refine tg_iconst (x := 0) C0 dX7_agreement_0 (by decide) ?_
  refine tg_istore_n [(1, .int 0), (0, .ref (ad 247))] C0 dX7_agreement_1 rfl (by decide) rfl ?_
  refine tg_iconst (x := 0) C0 dX7_agreement_2 (by decide) ?_
  refine tg_istore_n [(2, .int 0), (1, .int 0), (0, .ref (ad 247))] C0 dX7_agreement_3 rfl (by decide) rfl ?_
  refine tg_iconst (x := 0) C0 dX7_agreement_4 (by decide) ?_
  refine tg_istore_n [(3, .int 0), (2, .int 0), (1, .int 0), (0, .ref (ad 247))] C0 dX7_agreement_5 rfl (by decide) rfl ?_
  refine tg_sub [3, 2, 1, 0] rfl ?_
  refine w_X7_agreement_6 C0 (fun x6 x7 v8 => ?_) 10000 0 0 0 v
  refine tg_iload_n 0 C0 dX7_agreement_57 rfl rfl ?_
  refine tg_if_ne 65 C0 dX7_agreement_58 (by decide) (fun _ => ?_) (fun _ => ?_)
  · refine tg_iload_n 1 C0 dX7_agreement_65 rfl rfl ?_
    refine tg_i2f C0 dX7_agreement_66 ?_
    refine tg_iload_n 0 C0 dX7_agreement_67 rfl rfl ?_
    refine tg_i2f C0 dX7_agreement_68 ?_
    refine tg_fdiv C0 dX7_agreement_69 ?_
    exact tg_fret C0 dX7_agreement_70
  · refine tg_fconst1 C0 dX7_agreement_61 ?_
    refine tg_goto 70 C0 dX7_agreement_62 (by decide) ?_
    exact tg_fret C0 dX7_agreement_70
theorem c_X7_agreement (l : Launch) (v : tmM) : tmMf tm_NWC tm_shC 256 l yX7_agreement (Cond.code yX7_agreement cX7_agreement 4 (some .float) :: TMW) ({ frames := 2, cells := 0, slots := 0, locals := 46 } : Room) (fun ad => [.ref (ad 247)]) v (f_X7_agreement v) :=
  tmMf.of (cc := cX7_agreement) (nL := 4) (by decide +kernel) rfl tm_NWC_ok (fun _ => Nat.le_of_ble_eq_true rfl) (fun p e s m args below meth c A D cy ad z C0 => w_X7_agreement C0 v)
