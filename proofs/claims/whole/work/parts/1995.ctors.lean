set_option maxRecDepth 512
-- ----- X1_init
theorem dX1_init_0 : decode cX1_init 0 = .ok (.aload_n 0, 1) := by decide +kernel
theorem dX1_init_1 : decode cX1_init 1 = .ok (.invokespecial 3, 3) := by decide +kernel
theorem dX1_init_4 : decode cX1_init 4 = .ok (.aload_n 0, 1) := by decide +kernel
theorem dX1_init_5 : decode cX1_init 5 = .ok (.bipush 30, 2) := by decide +kernel
theorem dX1_init_7 : decode cX1_init 7 = .ok (.newarray .int, 2) := by decide +kernel
theorem dX1_init_9 : decode cX1_init 9 = .ok (.putfield 9, 3) := by decide +kernel
theorem dX1_init_12 : decode cX1_init 12 = .ok (.aload_n 0, 1) := by decide +kernel
theorem dX1_init_13 : decode cX1_init 13 = .ok (.bipush 30, 2) := by decide +kernel
theorem dX1_init_15 : decode cX1_init 15 = .ok (.newarray .int, 2) := by decide +kernel
theorem dX1_init_17 : decode cX1_init 17 = .ok (.putfield 15, 3) := by decide +kernel
theorem dX1_init_20 : decode cX1_init 20 = .ok (.return_, 1) := by decide +kernel
theorem tl_X1_3 : Cond.methodLink RX1 3 Lib.objectInit ∈ TMW := tm_in 199 (by decide +kernel) (by decide +kernel)
theorem ti_obj : Cond.instanceMethod Lib.objectInit ∈ TMW := tm_in 143 (by decide +kernel) (by decide +kernel)
theorem tc_obj : Cond.code Lib.objectInit ⟨#[0xb1]⟩ 1 none ∈ TMW := tm_in 144 (by decide +kernel) (by decide +kernel)
theorem tac0 : Cond.arrayClass .int ∈ TMW := tm_in 176 (by decide +kernel) (by decide +kernel)
def k0_X1 (h0 : Nat) : va_W := [(h0, .inr (4, [.null, .null, .int 0]))]
def k1_X1 (cy : Nat → ClassId) (h0 : Nat) (u : Nat → Nat) : va_W := [(h0, .inr (4, [.ref (u 1), .ref (u 2), .int 0])), ((u 1), .inl (cy 0, 30, .inl (fun _ => 0))), ((u 2), .inl (cy 0, 30, .inl (fun _ => 0)))]
set_option maxRecDepth 100000 in
theorem w_X1_init {p : Program} {l : Launch} {e : Env} {s : State} {m : MethodId} {args : Array Value} {below : List Frame} {meth : Method} {c : Code} {D : va_G} {cy : Nat → ClassId} {A : Nat → Prop} {adK adV adE : Nat → Nat} {tC h0 : Nat} (C0 : tmC p s m args meth c cX1_init 1 none RX1 TMW tm_NWC D cy tm_s0 tm_a0 0 (k0_X1 h0) A) (hE : tnE adK adV adE tC A s s.heap) (hin : meth.name = "<init>") : tmG p l e ({ frames := 1, cells := 2, slots := 60, locals := 12 }) s m args below meth c 0 0 (MQ below (va_Qv (fun _ : Nat → Nat => True) (fun u t => va_P D vwCl (k1_X1 cy h0 u) t.heap ∧ va_D A (k1_X1 cy h0 u)) A) args s 2 60 A) 1 D cy tm_s0 tm_a0 0 (k0_X1 h0) A () 0 [(0, .ref h0)] [] tm_v0 (some ()) := by
  refine tg_aload_n 0 C0 dX1_init_0 rfl rfl ?_
  refine tn_obj C0 dX1_init_1 tl_X1_3 ti_obj tc_obj (Nat.le_of_ble_eq_true rfl) (Nat.le_of_ble_eq_true rfl) ?_
  refine tg_aload_n 0 C0 dX1_init_4 rfl rfl ?_
  refine tg_bipush (x := 30) C0 dX1_init_5 (by decide) ?_
  refine tn_newi 0 30 C0 dX1_init_7 (by decide) rfl tac0 rfl (by decide) (by decide) ⟨Nat.le_of_ble_eq_true rfl, Nat.le_of_ble_eq_true rfl⟩ (fun q1 C0 => ?_)
  refine tn_putF (X' := ([(h0, .inr (4, [.ref q1, .null, .int 0])), (q1, .inl (cy 0, 30, .inl (fun _ => 0)))] : va_W)) 0 0 C0 dX1_init_9 hin rfl rfl tu_X1 tyX1_ok nmX1 (by decide) tf_X1_9 rfl rfl rfl rfl rfl rfl (Nat.le_of_ble_eq_true rfl) rfl (fun C0 => ?_)
  refine tg_aload_n 0 C0 dX1_init_12 rfl rfl ?_
  refine tg_bipush (x := 30) C0 dX1_init_13 (by decide) ?_
  refine tn_newi 0 30 C0 dX1_init_15 (by decide) rfl tac0 rfl (by decide) (by decide) ⟨Nat.le_of_ble_eq_true rfl, Nat.le_of_ble_eq_true rfl⟩ (fun q2 C0 => ?_)
  refine tn_putF (X' := ([(h0, .inr (4, [.ref q1, .ref q2, .int 0])), (q1, .inl (cy 0, 30, .inl (fun _ => 0))), (q2, .inl (cy 0, 30, .inl (fun _ => 0)))] : va_W)) 0 1 C0 dX1_init_17 hin rfl rfl tu_X1 tyX1_ok nmX1 (by decide) tf_X1_15 rfl rfl rfl rfl rfl rfl (Nat.le_of_ble_eq_true rfl) rfl (fun C0 => ?_)
  exact tn_vret (fun k => ([h0, q1, q2] : List Nat).getD k 0) C0 rfl dX1_init_20 ⟨Nat.le_of_ble_eq_true rfl, Nat.le_of_ble_eq_true rfl⟩
theorem c_X1_init (l : Launch) {adK adV adE : Nat → Nat} {tC : Nat} : tnK tm_NWC l adK adV adE tC yX1_init (Cond.code yX1_init cX1_init 1 none :: TMW) ({ frames := 1, cells := 2, slots := 60, locals := 12 }) [] k0_X1 k1_X1 2 60 :=
  tnK.of (by decide +kernel) rfl tm_NWC_ok (fun _ => Nat.le_of_ble_eq_true rfl) (fun p e s m args below meth c A D cy h0 C0 hE hin => w_X1_init C0 hE hin)
-- ----- X2_init
theorem dX2_init_0 : decode cX2_init 0 = .ok (.aload_n 0, 1) := by decide +kernel
theorem dX2_init_1 : decode cX2_init 1 = .ok (.invokespecial 3, 3) := by decide +kernel
theorem dX2_init_4 : decode cX2_init 4 = .ok (.aload_n 0, 1) := by decide +kernel
theorem dX2_init_5 : decode cX2_init 5 = .ok (.bipush 60, 2) := by decide +kernel
theorem dX2_init_7 : decode cX2_init 7 = .ok (.newarray .int, 2) := by decide +kernel
theorem dX2_init_9 : decode cX2_init 9 = .ok (.putfield 9, 3) := by decide +kernel
theorem dX2_init_12 : decode cX2_init 12 = .ok (.return_, 1) := by decide +kernel
theorem tl_X2_3 : Cond.methodLink RX2 3 Lib.objectInit ∈ TMW := tm_in 182 (by decide +kernel) (by decide +kernel)
def k0_X2 (h0 : Nat) : va_W := [(h0, .inr (5, [.null, .int 0]))]
def k1_X2 (cy : Nat → ClassId) (h0 : Nat) (u : Nat → Nat) : va_W := [(h0, .inr (5, [.ref (u 1), .int 0])), ((u 1), .inl (cy 0, 60, .inl (fun _ => 0)))]
set_option maxRecDepth 100000 in
theorem w_X2_init {p : Program} {l : Launch} {e : Env} {s : State} {m : MethodId} {args : Array Value} {below : List Frame} {meth : Method} {c : Code} {D : va_G} {cy : Nat → ClassId} {A : Nat → Prop} {adK adV adE : Nat → Nat} {tC h0 : Nat} (C0 : tmC p s m args meth c cX2_init 1 none RX2 TMW tm_NWC D cy tm_s0 tm_a0 0 (k0_X2 h0) A) (hE : tnE adK adV adE tC A s s.heap) (hin : meth.name = "<init>") : tmG p l e ({ frames := 1, cells := 1, slots := 60, locals := 12 }) s m args below meth c 0 0 (MQ below (va_Qv (fun _ : Nat → Nat => True) (fun u t => va_P D vwCl (k1_X2 cy h0 u) t.heap ∧ va_D A (k1_X2 cy h0 u)) A) args s 1 60 A) 1 D cy tm_s0 tm_a0 0 (k0_X2 h0) A () 0 [(0, .ref h0)] [] tm_v0 (some ()) := by
  refine tg_aload_n 0 C0 dX2_init_0 rfl rfl ?_
  refine tn_obj C0 dX2_init_1 tl_X2_3 ti_obj tc_obj (Nat.le_of_ble_eq_true rfl) (Nat.le_of_ble_eq_true rfl) ?_
  refine tg_aload_n 0 C0 dX2_init_4 rfl rfl ?_
  refine tg_bipush (x := 60) C0 dX2_init_5 (by decide) ?_
  refine tn_newi 0 60 C0 dX2_init_7 (by decide) rfl tac0 rfl (by decide) (by decide) ⟨Nat.le_of_ble_eq_true rfl, Nat.le_of_ble_eq_true rfl⟩ (fun q1 C0 => ?_)
  refine tn_putF (X' := ([(h0, .inr (5, [.ref q1, .int 0])), (q1, .inl (cy 0, 60, .inl (fun _ => 0)))] : va_W)) 0 0 C0 dX2_init_9 hin rfl rfl tu_X2 tyX2_ok nmX2 (by decide) tf_X2_9 rfl rfl rfl rfl rfl rfl (Nat.le_of_ble_eq_true rfl) rfl (fun C0 => ?_)
  exact tn_vret (fun k => ([h0, q1] : List Nat).getD k 0) C0 rfl dX2_init_12 ⟨Nat.le_of_ble_eq_true rfl, Nat.le_of_ble_eq_true rfl⟩
theorem c_X2_init (l : Launch) {adK adV adE : Nat → Nat} {tC : Nat} : tnK tm_NWC l adK adV adE tC yX2_init (Cond.code yX2_init cX2_init 1 none :: TMW) ({ frames := 1, cells := 1, slots := 60, locals := 12 }) [] k0_X2 k1_X2 1 60 :=
  tnK.of (by decide +kernel) rfl tm_NWC_ok (fun _ => Nat.le_of_ble_eq_true rfl) (fun p e s m args below meth c A D cy h0 C0 hE hin => w_X2_init C0 hE hin)
-- ----- X3_init
theorem dX3_init_0 : decode cX3_init 0 = .ok (.aload_n 0, 1) := by decide +kernel
theorem dX3_init_1 : decode cX3_init 1 = .ok (.invokespecial 3, 3) := by decide +kernel
theorem dX3_init_4 : decode cX3_init 4 = .ok (.aload_n 0, 1) := by decide +kernel
theorem dX3_init_5 : decode cX3_init 5 = .ok (.sipush 600, 3) := by decide +kernel
theorem dX3_init_8 : decode cX3_init 8 = .ok (.newarray .char, 2) := by decide +kernel
theorem dX3_init_10 : decode cX3_init 10 = .ok (.putfield 9, 3) := by decide +kernel
theorem dX3_init_13 : decode cX3_init 13 = .ok (.aload_n 0, 1) := by decide +kernel
theorem dX3_init_14 : decode cX3_init 14 = .ok (.bipush 30, 2) := by decide +kernel
theorem dX3_init_16 : decode cX3_init 16 = .ok (.newarray .int, 2) := by decide +kernel
theorem dX3_init_18 : decode cX3_init 18 = .ok (.putfield 15, 3) := by decide +kernel
theorem dX3_init_21 : decode cX3_init 21 = .ok (.aload_n 0, 1) := by decide +kernel
theorem dX3_init_22 : decode cX3_init 22 = .ok (.bipush 30, 2) := by decide +kernel
theorem dX3_init_24 : decode cX3_init 24 = .ok (.newarray .int, 2) := by decide +kernel
theorem dX3_init_26 : decode cX3_init 26 = .ok (.putfield 19, 3) := by decide +kernel
theorem dX3_init_29 : decode cX3_init 29 = .ok (.aload_n 0, 1) := by decide +kernel
theorem dX3_init_30 : decode cX3_init 30 = .ok (.bipush 30, 2) := by decide +kernel
theorem dX3_init_32 : decode cX3_init 32 = .ok (.newarray .int, 2) := by decide +kernel
theorem dX3_init_34 : decode cX3_init 34 = .ok (.putfield 22, 3) := by decide +kernel
theorem dX3_init_37 : decode cX3_init 37 = .ok (.aload_n 0, 1) := by decide +kernel
theorem dX3_init_38 : decode cX3_init 38 = .ok (.iconst (-1), 1) := by decide +kernel
theorem dX3_init_39 : decode cX3_init 39 = .ok (.putfield 25, 3) := by decide +kernel
theorem dX3_init_42 : decode cX3_init 42 = .ok (.return_, 1) := by decide +kernel
theorem tl_X3_3 : Cond.methodLink RX3 3 Lib.objectInit ∈ TMW := tm_in 276 (by decide +kernel) (by decide +kernel)
theorem tac1 : Cond.arrayClass .char ∈ TMW := tm_in 319 (by decide +kernel) (by decide +kernel)
def k0_X3 (h0 : Nat) : va_W := [(h0, .inr (6, [.null, .int 0, .null, .null, .null, .int 0, .int 0, .int 0, .int 0, .int 0, .int 0]))]
def k1_X3 (cy : Nat → ClassId) (h0 : Nat) (u : Nat → Nat) : va_W := [(h0, .inr (6, [.ref (u 1), .int 0, .ref (u 2), .ref (u 3), .ref (u 4), .int 0, .int 0, .int (-1), .int 0, .int 0, .int 0])), ((u 1), .inl (cy 1, 600, .inl (fun _ => 0))), ((u 2), .inl (cy 0, 30, .inl (fun _ => 0))), ((u 3), .inl (cy 0, 30, .inl (fun _ => 0))), ((u 4), .inl (cy 0, 30, .inl (fun _ => 0)))]
set_option maxRecDepth 100000 in
theorem w_X3_init {p : Program} {l : Launch} {e : Env} {s : State} {m : MethodId} {args : Array Value} {below : List Frame} {meth : Method} {c : Code} {D : va_G} {cy : Nat → ClassId} {A : Nat → Prop} {adK adV adE : Nat → Nat} {tC h0 : Nat} (C0 : tmC p s m args meth c cX3_init 1 none RX3 TMW tm_NWC D cy tm_s0 tm_a0 0 (k0_X3 h0) A) (hE : tnE adK adV adE tC A s s.heap) (hin : meth.name = "<init>") : tmG p l e ({ frames := 1, cells := 4, slots := 690, locals := 12 }) s m args below meth c 0 0 (MQ below (va_Qv (fun _ : Nat → Nat => True) (fun u t => va_P D vwCl (k1_X3 cy h0 u) t.heap ∧ va_D A (k1_X3 cy h0 u)) A) args s 4 690 A) 1 D cy tm_s0 tm_a0 0 (k0_X3 h0) A () 0 [(0, .ref h0)] [] tm_v0 (some ()) := by
  refine tg_aload_n 0 C0 dX3_init_0 rfl rfl ?_
  refine tn_obj C0 dX3_init_1 tl_X3_3 ti_obj tc_obj (Nat.le_of_ble_eq_true rfl) (Nat.le_of_ble_eq_true rfl) ?_
  refine tg_aload_n 0 C0 dX3_init_4 rfl rfl ?_
  refine tg_sipush (x := 600) C0 dX3_init_5 (by decide) ?_
  refine tn_newi 1 600 C0 dX3_init_8 (by decide) rfl tac1 rfl (by decide) (by decide) ⟨Nat.le_of_ble_eq_true rfl, Nat.le_of_ble_eq_true rfl⟩ (fun q1 C0 => ?_)
  refine tn_putF (X' := ([(h0, .inr (6, [.ref q1, .int 0, .null, .null, .null, .int 0, .int 0, .int 0, .int 0, .int 0, .int 0])), (q1, .inl (cy 1, 600, .inl (fun _ => 0)))] : va_W)) 0 0 C0 dX3_init_10 hin rfl rfl tu_X3 tyX3_ok nmX3 (by decide) tf_X3_9 rfl rfl rfl rfl rfl rfl (Nat.le_of_ble_eq_true rfl) rfl (fun C0 => ?_)
  refine tg_aload_n 0 C0 dX3_init_13 rfl rfl ?_
  refine tg_bipush (x := 30) C0 dX3_init_14 (by decide) ?_
  refine tn_newi 0 30 C0 dX3_init_16 (by decide) rfl tac0 rfl (by decide) (by decide) ⟨Nat.le_of_ble_eq_true rfl, Nat.le_of_ble_eq_true rfl⟩ (fun q2 C0 => ?_)
  refine tn_putF (X' := ([(h0, .inr (6, [.ref q1, .int 0, .ref q2, .null, .null, .int 0, .int 0, .int 0, .int 0, .int 0, .int 0])), (q1, .inl (cy 1, 600, .inl (fun _ => 0))), (q2, .inl (cy 0, 30, .inl (fun _ => 0)))] : va_W)) 0 2 C0 dX3_init_18 hin rfl rfl tu_X3 tyX3_ok nmX3 (by decide) tf_X3_15 rfl rfl rfl rfl rfl rfl (Nat.le_of_ble_eq_true rfl) rfl (fun C0 => ?_)
  refine tg_aload_n 0 C0 dX3_init_21 rfl rfl ?_
  refine tg_bipush (x := 30) C0 dX3_init_22 (by decide) ?_
  refine tn_newi 0 30 C0 dX3_init_24 (by decide) rfl tac0 rfl (by decide) (by decide) ⟨Nat.le_of_ble_eq_true rfl, Nat.le_of_ble_eq_true rfl⟩ (fun q3 C0 => ?_)
  refine tn_putF (X' := ([(h0, .inr (6, [.ref q1, .int 0, .ref q2, .ref q3, .null, .int 0, .int 0, .int 0, .int 0, .int 0, .int 0])), (q1, .inl (cy 1, 600, .inl (fun _ => 0))), (q2, .inl (cy 0, 30, .inl (fun _ => 0))), (q3, .inl (cy 0, 30, .inl (fun _ => 0)))] : va_W)) 0 3 C0 dX3_init_26 hin rfl rfl tu_X3 tyX3_ok nmX3 (by decide) tf_X3_19 rfl rfl rfl rfl rfl rfl (Nat.le_of_ble_eq_true rfl) rfl (fun C0 => ?_)
  refine tg_aload_n 0 C0 dX3_init_29 rfl rfl ?_
  refine tg_bipush (x := 30) C0 dX3_init_30 (by decide) ?_
  refine tn_newi 0 30 C0 dX3_init_32 (by decide) rfl tac0 rfl (by decide) (by decide) ⟨Nat.le_of_ble_eq_true rfl, Nat.le_of_ble_eq_true rfl⟩ (fun q4 C0 => ?_)
  refine tn_putF (X' := ([(h0, .inr (6, [.ref q1, .int 0, .ref q2, .ref q3, .ref q4, .int 0, .int 0, .int 0, .int 0, .int 0, .int 0])), (q1, .inl (cy 1, 600, .inl (fun _ => 0))), (q2, .inl (cy 0, 30, .inl (fun _ => 0))), (q3, .inl (cy 0, 30, .inl (fun _ => 0))), (q4, .inl (cy 0, 30, .inl (fun _ => 0)))] : va_W)) 0 4 C0 dX3_init_34 hin rfl rfl tu_X3 tyX3_ok nmX3 (by decide) tf_X3_22 rfl rfl rfl rfl rfl rfl (Nat.le_of_ble_eq_true rfl) rfl (fun C0 => ?_)
  refine tg_aload_n 0 C0 dX3_init_37 rfl rfl ?_
  refine tg_iconst (x := -1) C0 dX3_init_38 (by decide) ?_
  refine tn_put (X' := ([(h0, .inr (6, [.ref q1, .int 0, .ref q2, .ref q3, .ref q4, .int 0, .int 0, .int (-1), .int 0, .int 0, .int 0])), (q1, .inl (cy 1, 600, .inl (fun _ => 0))), (q2, .inl (cy 0, 30, .inl (fun _ => 0))), (q3, .inl (cy 0, 30, .inl (fun _ => 0))), (q4, .inl (cy 0, 30, .inl (fun _ => 0)))] : va_W)) 0 7 C0 dX3_init_39 rfl rfl tu_X3 tyX3_ok nmX3 (by decide) tf_X3_25 rfl rfl rfl rfl rfl (Nat.le_of_ble_eq_true rfl) rfl (fun C0 => ?_)
  exact tn_vret (fun k => ([h0, q1, q2, q3, q4] : List Nat).getD k 0) C0 rfl dX3_init_42 ⟨Nat.le_of_ble_eq_true rfl, Nat.le_of_ble_eq_true rfl⟩
theorem c_X3_init (l : Launch) {adK adV adE : Nat → Nat} {tC : Nat} : tnK tm_NWC l adK adV adE tC yX3_init (Cond.code yX3_init cX3_init 1 none :: TMW) ({ frames := 1, cells := 4, slots := 690, locals := 12 }) [] k0_X3 k1_X3 4 690 :=
  tnK.of (by decide +kernel) rfl tm_NWC_ok (fun _ => Nat.le_of_ble_eq_true rfl) (fun p e s m args below meth c A D cy h0 C0 hE hin => w_X3_init C0 hE hin)
-- ----- X6_init
theorem dX6_init_0 : decode cX6_init 0 = .ok (.aload_n 0, 1) := by decide +kernel
theorem dX6_init_1 : decode cX6_init 1 = .ok (.invokespecial 3, 3) := by decide +kernel
theorem dX6_init_4 : decode cX6_init 4 = .ok (.aload_n 0, 1) := by decide +kernel
theorem dX6_init_5 : decode cX6_init 5 = .ok (.iconst 3, 1) := by decide +kernel
theorem dX6_init_6 : decode cX6_init 6 = .ok (.bipush 20, 2) := by decide +kernel
theorem dX6_init_8 : decode cX6_init 8 = .ok (.multianewarray 9 2, 4) := by decide +kernel
theorem dX6_init_12 : decode cX6_init 12 = .ok (.putfield 11, 3) := by decide +kernel
theorem dX6_init_15 : decode cX6_init 15 = .ok (.return_, 1) := by decide +kernel
theorem tl_X6_3 : Cond.methodLink RX6 3 Lib.objectInit ∈ TMW := tm_in 218 (by decide +kernel) (by decide +kernel)
theorem tcl_X6_9 : Cond.classLink RX6 9 "[[I" ∈ TMW := tm_in 219 (by decide +kernel) (by decide +kernel)
def k0_X6 (h0 : Nat) : va_W := [(h0, .inr (9, [.null, .int 0]))]
def k1_X6 (cy : Nat → ClassId) (h0 : Nat) (u : Nat → Nat) : va_W := [(h0, .inr (9, [.ref (u 1), .int 0])), ((u 1), .inl (cy 5, 3, .inr (.inr (.inr (.inr (fun i => ([u 2, u 3, u 4] : List Nat)[i]?)))))), ((u 2), .inl (cy 0, 20, .inl (fun _ => 0))), ((u 3), .inl (cy 0, 20, .inl (fun _ => 0))), ((u 4), .inl (cy 0, 20, .inl (fun _ => 0)))]
set_option maxRecDepth 100000 in
theorem w_X6_init {p : Program} {l : Launch} {e : Env} {s : State} {m : MethodId} {args : Array Value} {below : List Frame} {meth : Method} {c : Code} {D : va_G} {cy : Nat → ClassId} {A : Nat → Prop} {adK adV adE : Nat → Nat} {tC h0 : Nat} (C0 : tmC p s m args meth c cX6_init 1 none RX6 TMW tm_NWC D cy tm_s0 tm_a0 0 (k0_X6 h0) A) (hE : tnE adK adV adE tC A s s.heap) (hin : meth.name = "<init>") : tmG p l e ({ frames := 1, cells := 4, slots := 63, locals := 12 }) s m args below meth c 0 0 (MQ below (va_Qv (fun _ : Nat → Nat => True) (fun u t => va_P D vwCl (k1_X6 cy h0 u) t.heap ∧ va_D A (k1_X6 cy h0 u)) A) args s 4 63 A) 1 D cy tm_s0 tm_a0 0 (k0_X6 h0) A () 0 [(0, .ref h0)] [] tm_v0 (some ()) := by
  refine tg_aload_n 0 C0 dX6_init_0 rfl rfl ?_
  refine tn_obj C0 dX6_init_1 tl_X6_3 ti_obj tc_obj (Nat.le_of_ble_eq_true rfl) (Nat.le_of_ble_eq_true rfl) ?_
  refine tg_aload_n 0 C0 dX6_init_4 rfl rfl ?_
  refine tg_iconst (x := 3) C0 dX6_init_5 (by decide) ?_
  refine tg_bipush (x := 20) C0 dX6_init_6 (by decide) ?_
  refine tn_mna 3 20 C0 hE dX6_init_8 tcl_X6_9 tac0 rfl (by decide) rfl (by decide) (by decide) ⟨Nat.le_of_ble_eq_true rfl, Nat.le_of_ble_eq_true rfl⟩ (fun q1 rq1 C0 => ?_)
  refine tn_putF (X' := ([(h0, .inr (9, [.ref q1, .int 0])), (q1, .inl (cy 5, 3, .inr (.inr (.inr (.inr (fun i => ([rq1 0, rq1 1, rq1 2] : List Nat)[i]?)))))), ((rq1 0), .inl (cy 0, 20, .inl (fun _ => 0))), ((rq1 1), .inl (cy 0, 20, .inl (fun _ => 0))), ((rq1 2), .inl (cy 0, 20, .inl (fun _ => 0)))] : va_W)) 0 0 C0 dX6_init_12 hin rfl rfl tu_X6 tyX6_ok nmX6 (by decide) tf_X6_11 rfl rfl rfl rfl rfl rfl (Nat.le_of_ble_eq_true rfl) rfl (fun C0 => ?_)
  exact tn_vret (fun k => ([h0, q1, (rq1 0), (rq1 1), (rq1 2)] : List Nat).getD k 0) C0 rfl dX6_init_15 ⟨Nat.le_of_ble_eq_true rfl, Nat.le_of_ble_eq_true rfl⟩
theorem c_X6_init (l : Launch) {adK adV adE : Nat → Nat} {tC : Nat} : tnK tm_NWC l adK adV adE tC yX6_init (Cond.code yX6_init cX6_init 1 none :: TMW) ({ frames := 1, cells := 4, slots := 63, locals := 12 }) [] k0_X6 k1_X6 4 63 :=
  tnK.of (by decide +kernel) rfl tm_NWC_ok (fun _ => Nat.le_of_ble_eq_true rfl) (fun p e s m args below meth c A D cy h0 C0 hE hin => w_X6_init C0 hE hin)
-- ----- X5_init
theorem dX5_init_0 : decode cX5_init 0 = .ok (.aload_n 0, 1) := by decide +kernel
theorem dX5_init_1 : decode cX5_init 1 = .ok (.invokespecial 3, 3) := by decide +kernel
theorem dX5_init_4 : decode cX5_init 4 = .ok (.aload_n 0, 1) := by decide +kernel
theorem dX5_init_5 : decode cX5_init 5 = .ok (.iconst 0, 1) := by decide +kernel
theorem dX5_init_6 : decode cX5_init 6 = .ok (.putfield 9, 3) := by decide +kernel
theorem dX5_init_9 : decode cX5_init 9 = .ok (.aload_n 0, 1) := by decide +kernel
theorem dX5_init_10 : decode cX5_init 10 = .ok (.iconst 2, 1) := by decide +kernel
theorem dX5_init_11 : decode cX5_init 11 = .ok (.bipush 60, 2) := by decide +kernel
theorem dX5_init_13 : decode cX5_init 13 = .ok (.multianewarray 15 2, 4) := by decide +kernel
theorem dX5_init_17 : decode cX5_init 17 = .ok (.putfield 17, 3) := by decide +kernel
theorem dX5_init_20 : decode cX5_init 20 = .ok (.aload_n 0, 1) := by decide +kernel
theorem dX5_init_21 : decode cX5_init 21 = .ok (.iconst 2, 1) := by decide +kernel
theorem dX5_init_22 : decode cX5_init 22 = .ok (.bipush 60, 2) := by decide +kernel
theorem dX5_init_24 : decode cX5_init 24 = .ok (.multianewarray 15 2, 4) := by decide +kernel
theorem dX5_init_28 : decode cX5_init 28 = .ok (.putfield 20, 3) := by decide +kernel
theorem dX5_init_31 : decode cX5_init 31 = .ok (.iconst 0, 1) := by decide +kernel
theorem dX5_init_32 : decode cX5_init 32 = .ok (.istore_n 1, 1) := by decide +kernel
theorem dX5_init_33 : decode cX5_init 33 = .ok (.iload_n 1, 1) := by decide +kernel
theorem dX5_init_34 : decode cX5_init 34 = .ok (.iconst 2, 1) := by decide +kernel
theorem dX5_init_35 : decode cX5_init 35 = .ok (.if_icmp .ge 41, 3) := by decide +kernel
theorem dX5_init_38 : decode cX5_init 38 = .ok (.iconst 0, 1) := by decide +kernel
theorem dX5_init_39 : decode cX5_init 39 = .ok (.istore_n 2, 1) := by decide +kernel
theorem dX5_init_40 : decode cX5_init 40 = .ok (.iload_n 2, 1) := by decide +kernel
theorem dX5_init_41 : decode cX5_init 41 = .ok (.bipush 60, 2) := by decide +kernel
theorem dX5_init_43 : decode cX5_init 43 = .ok (.if_icmp .ge 27, 3) := by decide +kernel
theorem dX5_init_46 : decode cX5_init 46 = .ok (.aload_n 0, 1) := by decide +kernel
theorem dX5_init_47 : decode cX5_init 47 = .ok (.getfield 17, 3) := by decide +kernel
theorem dX5_init_50 : decode cX5_init 50 = .ok (.iload_n 1, 1) := by decide +kernel
theorem dX5_init_51 : decode cX5_init 51 = .ok (.aaload, 1) := by decide +kernel
theorem dX5_init_52 : decode cX5_init 52 = .ok (.iload_n 2, 1) := by decide +kernel
theorem dX5_init_53 : decode cX5_init 53 = .ok (.iconst (-1), 1) := by decide +kernel
theorem dX5_init_54 : decode cX5_init 54 = .ok (.iastore, 1) := by decide +kernel
theorem dX5_init_55 : decode cX5_init 55 = .ok (.aload_n 0, 1) := by decide +kernel
theorem dX5_init_56 : decode cX5_init 56 = .ok (.getfield 20, 3) := by decide +kernel
theorem dX5_init_59 : decode cX5_init 59 = .ok (.iload_n 1, 1) := by decide +kernel
theorem dX5_init_60 : decode cX5_init 60 = .ok (.aaload, 1) := by decide +kernel
theorem dX5_init_61 : decode cX5_init 61 = .ok (.iload_n 2, 1) := by decide +kernel
theorem dX5_init_62 : decode cX5_init 62 = .ok (.iconst (-1), 1) := by decide +kernel
theorem dX5_init_63 : decode cX5_init 63 = .ok (.iastore, 1) := by decide +kernel
theorem dX5_init_64 : decode cX5_init 64 = .ok (.iinc 2 1, 3) := by decide +kernel
theorem dX5_init_67 : decode cX5_init 67 = .ok (.goto (-27), 3) := by decide +kernel
theorem dX5_init_70 : decode cX5_init 70 = .ok (.iinc 1 1, 3) := by decide +kernel
theorem dX5_init_73 : decode cX5_init 73 = .ok (.goto (-40), 3) := by decide +kernel
theorem dX5_init_76 : decode cX5_init 76 = .ok (.return_, 1) := by decide +kernel
theorem tl_X5_3 : Cond.methodLink RX5 3 Lib.objectInit ∈ TMW := tm_in 156 (by decide +kernel) (by decide +kernel)
theorem tcl_X5_15 : Cond.classLink RX5 15 "[[I" ∈ TMW := tm_in 157 (by decide +kernel) (by decide +kernel)
def tn_m1 (n : Nat) : Nat → Int32 := fun t => if t < n then -1 else 0
theorem tn_m1s (j : Nat) (hj : j < 60) : upd (tn_m1 j) (nI j).toNatClampNeg (-1) = tn_m1 (j + 1) := by
  rw [nI_clamp (by omega)]
  funext t
  show (if t = j then -1 else if t < j then -1 else 0) = if t < j + 1 then (-1 : Int32) else 0
  by_cases h : t = j
  · rw [if_pos h, if_pos (by omega)]
  · rw [if_neg h]
    by_cases h2 : t < j
    · rw [if_pos h2, if_pos (by omega)]
    · rw [if_neg h2, if_neg (by omega)]
theorem tn_m10 : tn_m1 0 = fun _ => 0 := rfl
def k0_X5 (h0 : Nat) : va_W := [(h0, .inr (8, [.int 0, .int 0, .null, .null]))]
def k1_X5 (cy : Nat → ClassId) (h0 : Nat) (u : Nat → Nat) : va_W := ([(h0, .inr (8, [.int 0, .int 0, .ref (u 1), .ref (u 4)])), ((u 1), .inl (cy 5, 2, .inr (.inr (.inr (.inr (fun i => ([u 2, u 3] : List Nat)[i]?)))))), ((u 2), .inl (cy 0, 60, .inl (tn_m1 60))), ((u 3), .inl (cy 0, 60, .inl (tn_m1 60))), ((u 4), .inl (cy 5, 2, .inr (.inr (.inr (.inr (fun i => ([u 5, u 6] : List Nat)[i]?)))))), ((u 5), .inl (cy 0, 60, .inl (tn_m1 60))), ((u 6), .inl (cy 0, 60, .inl (tn_m1 60)))] : va_W)
theorem tn_X5_loop0 {p : Program} {l : Launch} {e : Env} {s : State} {m : MethodId} {args : Array Value} {below : List Frame} {meth : Method} {c : Code} {D : va_G} {cy : Nat → ClassId} {A : Nat → Prop} {h0 q1 q2 : Nat} {rq1 rq2 : Nat → Nat} {R : Room} {cells slots : Nat} {Q : State → Prop} (hk : tmC p s m args meth c cX5_init 3 none RX5 TMW tm_NWC D cy tm_s0 tm_a0 0 (([(h0, .inr (8, [.int 0, .int 0, .ref q1, .ref q2])), (q1, .inl (cy 5, 2, .inr (.inr (.inr (.inr (fun i => ([rq1 0, rq1 1] : List Nat)[i]?)))))), ((rq1 0), .inl (cy 0, 60, .inl (tn_m1 60))), ((rq1 1), .inl (cy 0, 60, .inl (tn_m1 0))), (q2, .inl (cy 5, 2, .inr (.inr (.inr (.inr (fun i => ([rq2 0, rq2 1] : List Nat)[i]?)))))), ((rq2 0), .inl (cy 0, 60, .inl (tn_m1 60))), ((rq2 1), .inl (cy 0, 60, .inl (tn_m1 0)))] : va_W)) A → tmG p l e R s m args below meth c cells slots Q 3 D cy tm_s0 tm_a0 0 (([(h0, .inr (8, [.int 0, .int 0, .ref q1, .ref q2])), (q1, .inl (cy 5, 2, .inr (.inr (.inr (.inr (fun i => ([rq1 0, rq1 1] : List Nat)[i]?)))))), ((rq1 0), .inl (cy 0, 60, .inl (tn_m1 60))), ((rq1 1), .inl (cy 0, 60, .inl (tn_m1 0))), (q2, .inl (cy 5, 2, .inr (.inr (.inr (.inr (fun i => ([rq2 0, rq2 1] : List Nat)[i]?)))))), ((rq2 0), .inl (cy 0, 60, .inl (tn_m1 60))), ((rq2 1), .inl (cy 0, 60, .inl (tn_m1 0)))] : va_W)) A () 70 [(2, .int (nI 60)), (0, .ref h0), (1, .int 0)] [] tm_v0 (some ())) : ∀ d j : Nat, d + j = 60 → tmC p s m args meth c cX5_init 3 none RX5 TMW tm_NWC D cy tm_s0 tm_a0 0 (([(h0, .inr (8, [.int 0, .int 0, .ref q1, .ref q2])), (q1, .inl (cy 5, 2, .inr (.inr (.inr (.inr (fun i => ([rq1 0, rq1 1] : List Nat)[i]?)))))), ((rq1 0), .inl (cy 0, 60, .inl (tn_m1 j))), ((rq1 1), .inl (cy 0, 60, .inl (tn_m1 0))), (q2, .inl (cy 5, 2, .inr (.inr (.inr (.inr (fun i => ([rq2 0, rq2 1] : List Nat)[i]?)))))), ((rq2 0), .inl (cy 0, 60, .inl (tn_m1 j))), ((rq2 1), .inl (cy 0, 60, .inl (tn_m1 0)))] : va_W)) A → tmG p l e R s m args below meth c cells slots Q 3 D cy tm_s0 tm_a0 0 (([(h0, .inr (8, [.int 0, .int 0, .ref q1, .ref q2])), (q1, .inl (cy 5, 2, .inr (.inr (.inr (.inr (fun i => ([rq1 0, rq1 1] : List Nat)[i]?)))))), ((rq1 0), .inl (cy 0, 60, .inl (tn_m1 j))), ((rq1 1), .inl (cy 0, 60, .inl (tn_m1 0))), (q2, .inl (cy 5, 2, .inr (.inr (.inr (.inr (fun i => ([rq2 0, rq2 1] : List Nat)[i]?)))))), ((rq2 0), .inl (cy 0, 60, .inl (tn_m1 j))), ((rq2 1), .inl (cy 0, 60, .inl (tn_m1 0)))] : va_W)) A () 40 [(2, .int (nI j)), (0, .ref h0), (1, .int 0)] [] tm_v0 (some ()) := by
  intro d
  induction d with
  | zero =>
    intro j hj C0
    rw [show j = 60 by omega] at C0 ⊢
    refine tg_iload_n 0 C0 dX5_init_40 rfl rfl ?_
    refine tg_bipush (x := 60) C0 dX5_init_41 (by decide) ?_
    refine tg_eq (r := if (60 : Int32) ≤ nI 60 then some () else some ()) (by split <;> rfl) ?_
    refine tg_icmp_ge 70 C0 dX5_init_43 (by decide) (fun _ => hk C0) (fun h => absurd (by decide : (60 : Int32) ≤ nI 60) h)
  | succ d ih =>
    intro j hj C0
    have hi : tm_ix (nI j) 60 = true := decide_eq_true (by rw [nI_clamp (by omega)]; exact fun h => h.elim (fun h => nI_pos (by omega) h) (fun h => by omega))
    refine tg_iload_n 0 C0 dX5_init_40 rfl rfl ?_
    refine tg_bipush (x := 60) C0 dX5_init_41 (by decide) ?_
    refine tg_eq (r := if (60 : Int32) ≤ nI j then some () else some ()) (by split <;> rfl) ?_
    refine tg_icmp_ge 70 C0 dX5_init_43 (by decide) (fun h => absurd (show nI 60 ≤ nI j from h) (Int32.not_le.mpr (nI_lt (a := j) (b := 60) (by omega) (by omega)))) (fun _ => ?_)
    refine tg_aload_n 1 C0 dX5_init_46 rfl rfl ?_
    refine tn_get 0 2 C0 dX5_init_47 rfl rfl tu_X5 (by decide) tf_X5_17 rfl rfl ?_
    refine tg_iload_n 2 C0 dX5_init_50 rfl rfl ?_
    refine tn_aald 1 5 C0 dX5_init_51 rfl (by decide) rfl (by decide) rfl ?_
    refine tg_iload_n 0 C0 dX5_init_52 rfl rfl ?_
    refine tg_iconst (x := -1) C0 dX5_init_53 (by decide) ?_
    refine tn_iast (X' := ([(h0, .inr (8, [.int 0, .int 0, .ref q1, .ref q2])), (q1, .inl (cy 5, 2, .inr (.inr (.inr (.inr (fun i => ([rq1 0, rq1 1] : List Nat)[i]?)))))), ((rq1 0), .inl (cy 0, 60, .inl (tn_m1 (j + 1)))), ((rq1 1), .inl (cy 0, 60, .inl (tn_m1 0))), (q2, .inl (cy 5, 2, .inr (.inr (.inr (.inr (fun i => ([rq2 0, rq2 1] : List Nat)[i]?)))))), ((rq2 0), .inl (cy 0, 60, .inl (tn_m1 j))), ((rq2 1), .inl (cy 0, 60, .inl (tn_m1 0)))] : va_W)) 2 C0 dX5_init_54 rfl hi (by rw [tn_m1s j (by omega)]; rfl) (fun C0 => ?_)
    refine tg_aload_n 1 C0 dX5_init_55 rfl rfl ?_
    refine tn_get 0 3 C0 dX5_init_56 rfl rfl tu_X5 (by decide) tf_X5_20 rfl rfl ?_
    refine tg_iload_n 2 C0 dX5_init_59 rfl rfl ?_
    refine tn_aald 4 5 C0 dX5_init_60 rfl (by decide) rfl (by decide) rfl ?_
    refine tg_iload_n 0 C0 dX5_init_61 rfl rfl ?_
    refine tg_iconst (x := -1) C0 dX5_init_62 (by decide) ?_
    refine tn_iast (X' := ([(h0, .inr (8, [.int 0, .int 0, .ref q1, .ref q2])), (q1, .inl (cy 5, 2, .inr (.inr (.inr (.inr (fun i => ([rq1 0, rq1 1] : List Nat)[i]?)))))), ((rq1 0), .inl (cy 0, 60, .inl (tn_m1 (j + 1)))), ((rq1 1), .inl (cy 0, 60, .inl (tn_m1 0))), (q2, .inl (cy 5, 2, .inr (.inr (.inr (.inr (fun i => ([rq2 0, rq2 1] : List Nat)[i]?)))))), ((rq2 0), .inl (cy 0, 60, .inl (tn_m1 (j + 1)))), ((rq2 1), .inl (cy 0, 60, .inl (tn_m1 0)))] : va_W)) 5 C0 dX5_init_63 rfl hi (by rw [tn_m1s j (by omega)]; rfl) (fun C0 => ?_)
    refine tg_iinc [(2, .int (nI (j + 1))), (0, .ref h0), (1, .int 0)] 0 C0 dX5_init_64 rfl (nI_succ j).symm (by decide) rfl ?_
    · refine tg_goto 40 C0 dX5_init_67 (by decide) ?_
      exact ih (j + 1) (by omega) C0
theorem tn_X5_loop1 {p : Program} {l : Launch} {e : Env} {s : State} {m : MethodId} {args : Array Value} {below : List Frame} {meth : Method} {c : Code} {D : va_G} {cy : Nat → ClassId} {A : Nat → Prop} {h0 q1 q2 : Nat} {rq1 rq2 : Nat → Nat} {R : Room} {cells slots : Nat} {Q : State → Prop} (hk : tmC p s m args meth c cX5_init 3 none RX5 TMW tm_NWC D cy tm_s0 tm_a0 0 (([(h0, .inr (8, [.int 0, .int 0, .ref q1, .ref q2])), (q1, .inl (cy 5, 2, .inr (.inr (.inr (.inr (fun i => ([rq1 0, rq1 1] : List Nat)[i]?)))))), ((rq1 0), .inl (cy 0, 60, .inl (tn_m1 60))), ((rq1 1), .inl (cy 0, 60, .inl (tn_m1 60))), (q2, .inl (cy 5, 2, .inr (.inr (.inr (.inr (fun i => ([rq2 0, rq2 1] : List Nat)[i]?)))))), ((rq2 0), .inl (cy 0, 60, .inl (tn_m1 60))), ((rq2 1), .inl (cy 0, 60, .inl (tn_m1 60)))] : va_W)) A → tmG p l e R s m args below meth c cells slots Q 3 D cy tm_s0 tm_a0 0 (([(h0, .inr (8, [.int 0, .int 0, .ref q1, .ref q2])), (q1, .inl (cy 5, 2, .inr (.inr (.inr (.inr (fun i => ([rq1 0, rq1 1] : List Nat)[i]?)))))), ((rq1 0), .inl (cy 0, 60, .inl (tn_m1 60))), ((rq1 1), .inl (cy 0, 60, .inl (tn_m1 60))), (q2, .inl (cy 5, 2, .inr (.inr (.inr (.inr (fun i => ([rq2 0, rq2 1] : List Nat)[i]?)))))), ((rq2 0), .inl (cy 0, 60, .inl (tn_m1 60))), ((rq2 1), .inl (cy 0, 60, .inl (tn_m1 60)))] : va_W)) A () 70 [(2, .int (nI 60)), (0, .ref h0), (1, .int 1)] [] tm_v0 (some ())) : ∀ d j : Nat, d + j = 60 → tmC p s m args meth c cX5_init 3 none RX5 TMW tm_NWC D cy tm_s0 tm_a0 0 (([(h0, .inr (8, [.int 0, .int 0, .ref q1, .ref q2])), (q1, .inl (cy 5, 2, .inr (.inr (.inr (.inr (fun i => ([rq1 0, rq1 1] : List Nat)[i]?)))))), ((rq1 0), .inl (cy 0, 60, .inl (tn_m1 60))), ((rq1 1), .inl (cy 0, 60, .inl (tn_m1 j))), (q2, .inl (cy 5, 2, .inr (.inr (.inr (.inr (fun i => ([rq2 0, rq2 1] : List Nat)[i]?)))))), ((rq2 0), .inl (cy 0, 60, .inl (tn_m1 60))), ((rq2 1), .inl (cy 0, 60, .inl (tn_m1 j)))] : va_W)) A → tmG p l e R s m args below meth c cells slots Q 3 D cy tm_s0 tm_a0 0 (([(h0, .inr (8, [.int 0, .int 0, .ref q1, .ref q2])), (q1, .inl (cy 5, 2, .inr (.inr (.inr (.inr (fun i => ([rq1 0, rq1 1] : List Nat)[i]?)))))), ((rq1 0), .inl (cy 0, 60, .inl (tn_m1 60))), ((rq1 1), .inl (cy 0, 60, .inl (tn_m1 j))), (q2, .inl (cy 5, 2, .inr (.inr (.inr (.inr (fun i => ([rq2 0, rq2 1] : List Nat)[i]?)))))), ((rq2 0), .inl (cy 0, 60, .inl (tn_m1 60))), ((rq2 1), .inl (cy 0, 60, .inl (tn_m1 j)))] : va_W)) A () 40 [(2, .int (nI j)), (0, .ref h0), (1, .int 1)] [] tm_v0 (some ()) := by
  intro d
  induction d with
  | zero =>
    intro j hj C0
    rw [show j = 60 by omega] at C0 ⊢
    refine tg_iload_n 0 C0 dX5_init_40 rfl rfl ?_
    refine tg_bipush (x := 60) C0 dX5_init_41 (by decide) ?_
    refine tg_eq (r := if (60 : Int32) ≤ nI 60 then some () else some ()) (by split <;> rfl) ?_
    refine tg_icmp_ge 70 C0 dX5_init_43 (by decide) (fun _ => hk C0) (fun h => absurd (by decide : (60 : Int32) ≤ nI 60) h)
  | succ d ih =>
    intro j hj C0
    have hi : tm_ix (nI j) 60 = true := decide_eq_true (by rw [nI_clamp (by omega)]; exact fun h => h.elim (fun h => nI_pos (by omega) h) (fun h => by omega))
    refine tg_iload_n 0 C0 dX5_init_40 rfl rfl ?_
    refine tg_bipush (x := 60) C0 dX5_init_41 (by decide) ?_
    refine tg_eq (r := if (60 : Int32) ≤ nI j then some () else some ()) (by split <;> rfl) ?_
    refine tg_icmp_ge 70 C0 dX5_init_43 (by decide) (fun h => absurd (show nI 60 ≤ nI j from h) (Int32.not_le.mpr (nI_lt (a := j) (b := 60) (by omega) (by omega)))) (fun _ => ?_)
    refine tg_aload_n 1 C0 dX5_init_46 rfl rfl ?_
    refine tn_get 0 2 C0 dX5_init_47 rfl rfl tu_X5 (by decide) tf_X5_17 rfl rfl ?_
    refine tg_iload_n 2 C0 dX5_init_50 rfl rfl ?_
    refine tn_aald 1 5 C0 dX5_init_51 rfl (by decide) rfl (by decide) rfl ?_
    refine tg_iload_n 0 C0 dX5_init_52 rfl rfl ?_
    refine tg_iconst (x := -1) C0 dX5_init_53 (by decide) ?_
    refine tn_iast (X' := ([(h0, .inr (8, [.int 0, .int 0, .ref q1, .ref q2])), (q1, .inl (cy 5, 2, .inr (.inr (.inr (.inr (fun i => ([rq1 0, rq1 1] : List Nat)[i]?)))))), ((rq1 0), .inl (cy 0, 60, .inl (tn_m1 60))), ((rq1 1), .inl (cy 0, 60, .inl (tn_m1 (j + 1)))), (q2, .inl (cy 5, 2, .inr (.inr (.inr (.inr (fun i => ([rq2 0, rq2 1] : List Nat)[i]?)))))), ((rq2 0), .inl (cy 0, 60, .inl (tn_m1 60))), ((rq2 1), .inl (cy 0, 60, .inl (tn_m1 j)))] : va_W)) 3 C0 dX5_init_54 rfl hi (by rw [tn_m1s j (by omega)]; rfl) (fun C0 => ?_)
    refine tg_aload_n 1 C0 dX5_init_55 rfl rfl ?_
    refine tn_get 0 3 C0 dX5_init_56 rfl rfl tu_X5 (by decide) tf_X5_20 rfl rfl ?_
    refine tg_iload_n 2 C0 dX5_init_59 rfl rfl ?_
    refine tn_aald 4 5 C0 dX5_init_60 rfl (by decide) rfl (by decide) rfl ?_
    refine tg_iload_n 0 C0 dX5_init_61 rfl rfl ?_
    refine tg_iconst (x := -1) C0 dX5_init_62 (by decide) ?_
    refine tn_iast (X' := ([(h0, .inr (8, [.int 0, .int 0, .ref q1, .ref q2])), (q1, .inl (cy 5, 2, .inr (.inr (.inr (.inr (fun i => ([rq1 0, rq1 1] : List Nat)[i]?)))))), ((rq1 0), .inl (cy 0, 60, .inl (tn_m1 60))), ((rq1 1), .inl (cy 0, 60, .inl (tn_m1 (j + 1)))), (q2, .inl (cy 5, 2, .inr (.inr (.inr (.inr (fun i => ([rq2 0, rq2 1] : List Nat)[i]?)))))), ((rq2 0), .inl (cy 0, 60, .inl (tn_m1 60))), ((rq2 1), .inl (cy 0, 60, .inl (tn_m1 (j + 1))))] : va_W)) 6 C0 dX5_init_63 rfl hi (by rw [tn_m1s j (by omega)]; rfl) (fun C0 => ?_)
    refine tg_iinc [(2, .int (nI (j + 1))), (0, .ref h0), (1, .int 1)] 0 C0 dX5_init_64 rfl (nI_succ j).symm (by decide) rfl ?_
    · refine tg_goto 40 C0 dX5_init_67 (by decide) ?_
      exact ih (j + 1) (by omega) C0
set_option maxRecDepth 100000 in
theorem w_X5_init {p : Program} {l : Launch} {e : Env} {s : State} {m : MethodId} {args : Array Value} {below : List Frame} {meth : Method} {c : Code} {D : va_G} {cy : Nat → ClassId} {A : Nat → Prop} {adK adV adE : Nat → Nat} {tC h0 : Nat} (C0 : tmC p s m args meth c cX5_init 3 none RX5 TMW tm_NWC D cy tm_s0 tm_a0 0 (k0_X5 h0) A) (hE : tnE adK adV adE tC A s s.heap) (hin : meth.name = "<init>") : tmG p l e ({ frames := 1, cells := 6, slots := 244, locals := 12 }) s m args below meth c 0 0 (MQ below (va_Qv (fun _ : Nat → Nat => True) (fun u t => va_P D vwCl (k1_X5 cy h0 u) t.heap ∧ va_D A (k1_X5 cy h0 u)) A) args s 6 244 A) 3 D cy tm_s0 tm_a0 0 (k0_X5 h0) A () 0 [(0, .ref h0)] [] tm_v0 (some ()) := by
  refine tg_aload_n 0 C0 dX5_init_0 rfl rfl ?_
  refine tn_obj C0 dX5_init_1 tl_X5_3 ti_obj tc_obj (Nat.le_of_ble_eq_true rfl) (Nat.le_of_ble_eq_true rfl) ?_
  refine tg_aload_n 0 C0 dX5_init_4 rfl rfl ?_
  refine tg_iconst (x := 0) C0 dX5_init_5 (by decide) ?_
  refine tn_put (X' := ([(h0, .inr (8, [.int 0, .int 0, .null, .null]))] : va_W)) 0 0 C0 dX5_init_6 rfl rfl tu_X5 tyX5_ok nmX5 (by decide) tf_X5_9 rfl rfl rfl rfl rfl (Nat.le_of_ble_eq_true rfl) rfl (fun C0 => ?_)
  refine tg_aload_n 0 C0 dX5_init_9 rfl rfl ?_
  refine tg_iconst (x := 2) C0 dX5_init_10 (by decide) ?_
  refine tg_bipush (x := 60) C0 dX5_init_11 (by decide) ?_
  refine tn_mna 2 60 C0 hE dX5_init_13 tcl_X5_15 tac0 rfl (by decide) rfl (by decide) (by decide) ⟨Nat.le_of_ble_eq_true rfl, Nat.le_of_ble_eq_true rfl⟩ (fun q1 rq1 C0 => ?_)
  refine tn_putF (X' := ([(h0, .inr (8, [.int 0, .int 0, .ref q1, .null])), (q1, .inl (cy 5, 2, .inr (.inr (.inr (.inr (fun i => ([rq1 0, rq1 1] : List Nat)[i]?)))))), ((rq1 0), .inl (cy 0, 60, .inl (fun _ => 0))), ((rq1 1), .inl (cy 0, 60, .inl (fun _ => 0)))] : va_W)) 0 2 C0 dX5_init_17 hin rfl rfl tu_X5 tyX5_ok nmX5 (by decide) tf_X5_17 rfl rfl rfl rfl rfl rfl (Nat.le_of_ble_eq_true rfl) rfl (fun C0 => ?_)
  refine tg_aload_n 0 C0 dX5_init_20 rfl rfl ?_
  refine tg_iconst (x := 2) C0 dX5_init_21 (by decide) ?_
  refine tg_bipush (x := 60) C0 dX5_init_22 (by decide) ?_
  refine tn_mna 2 60 C0 hE dX5_init_24 tcl_X5_15 tac0 rfl (by decide) rfl (by decide) (by decide) ⟨Nat.le_of_ble_eq_true rfl, Nat.le_of_ble_eq_true rfl⟩ (fun q2 rq2 C0 => ?_)
  refine tn_putF (X' := ([(h0, .inr (8, [.int 0, .int 0, .ref q1, .ref q2])), (q1, .inl (cy 5, 2, .inr (.inr (.inr (.inr (fun i => ([rq1 0, rq1 1] : List Nat)[i]?)))))), ((rq1 0), .inl (cy 0, 60, .inl (fun _ => 0))), ((rq1 1), .inl (cy 0, 60, .inl (fun _ => 0))), (q2, .inl (cy 5, 2, .inr (.inr (.inr (.inr (fun i => ([rq2 0, rq2 1] : List Nat)[i]?)))))), ((rq2 0), .inl (cy 0, 60, .inl (fun _ => 0))), ((rq2 1), .inl (cy 0, 60, .inl (fun _ => 0)))] : va_W)) 0 3 C0 dX5_init_28 hin rfl rfl tu_X5 tyX5_ok nmX5 (by decide) tf_X5_20 rfl rfl rfl rfl rfl rfl (Nat.le_of_ble_eq_true rfl) rfl (fun C0 => ?_)
  refine tg_iconst (x := 0) C0 dX5_init_31 (by decide) ?_
  refine tg_istore_n [(1, .int 0), (0, .ref h0)] C0 dX5_init_32 rfl (by decide) rfl ?_
  refine tg_iload_n 0 C0 dX5_init_33 rfl rfl ?_
  refine tg_iconst (x := 2) C0 dX5_init_34 (by decide) ?_
  refine tg_eq (r := if (2 : Int32) ≤ 0 then some () else some ()) (by split <;> rfl) ?_
  refine tg_icmp_ge 76 C0 dX5_init_35 (by decide) (fun h => absurd h (by decide)) (fun _ => ?_)
  refine tg_iconst (x := 0) C0 dX5_init_38 (by decide) ?_
  refine tg_istore_n [(2, .int 0), (1, .int 0), (0, .ref h0)] C0 dX5_init_39 rfl (by decide) rfl ?_
  refine tg_sub (lv' := [(2, .int (nI 0)), (0, .ref h0), (1, .int 0)]) [0, 2, 1] rfl ?_
  refine tn_X5_loop0 (fun C0 => ?_) 60 0 rfl C0
  refine tg_iinc [(1, .int 1), (2, .int (nI 60)), (0, .ref h0)] 2 C0 dX5_init_70 rfl (by decide) (by decide) rfl ?_
  refine tg_goto 33 C0 dX5_init_73 (by decide) ?_
  refine tg_iload_n 0 C0 dX5_init_33 rfl rfl ?_
  refine tg_iconst (x := 2) C0 dX5_init_34 (by decide) ?_
  refine tg_eq (r := if (2 : Int32) ≤ 1 then some () else some ()) (by split <;> rfl) ?_
  refine tg_icmp_ge 76 C0 dX5_init_35 (by decide) (fun h => absurd h (by decide)) (fun _ => ?_)
  refine tg_iconst (x := 0) C0 dX5_init_38 (by decide) ?_
  refine tg_istore_n [(2, .int 0), (1, .int 1), (0, .ref h0)] C0 dX5_init_39 rfl (by decide) rfl ?_
  refine tg_sub (lv' := [(2, .int (nI 0)), (0, .ref h0), (1, .int 1)]) [0, 2, 1] rfl ?_
  refine tn_X5_loop1 (fun C0 => ?_) 60 0 rfl C0
  refine tg_iinc [(1, .int 2), (2, .int (nI 60)), (0, .ref h0)] 2 C0 dX5_init_70 rfl (by decide) (by decide) rfl ?_
  refine tg_goto 33 C0 dX5_init_73 (by decide) ?_
  refine tg_iload_n 0 C0 dX5_init_33 rfl rfl ?_
  refine tg_iconst (x := 2) C0 dX5_init_34 (by decide) ?_
  refine tg_eq (r := if (2 : Int32) ≤ 2 then some () else some ()) (by split <;> rfl) ?_
  refine tg_icmp_ge 76 C0 dX5_init_35 (by decide) (fun _ => ?_) (fun h => absurd (by decide : (2 : Int32) ≤ 2) h)
  exact tn_vret (fun k => ([h0, q1, rq1 0, rq1 1, q2, rq2 0, rq2 1] : List Nat).getD k 0) C0 rfl dX5_init_76 ⟨Nat.le_of_ble_eq_true rfl, Nat.le_of_ble_eq_true rfl⟩
theorem c_X5_init (l : Launch) {adK adV adE : Nat → Nat} {tC : Nat} : tnK tm_NWC l adK adV adE tC yX5_init (Cond.code yX5_init cX5_init 3 none :: TMW) ({ frames := 1, cells := 6, slots := 244, locals := 12 }) [] k0_X5 k1_X5 6 244 :=
  tnK.of (by decide +kernel) rfl tm_NWC_ok (fun _ => Nat.le_of_ble_eq_true rfl) (fun p e s m args below meth c A D cy h0 C0 hE hin => w_X5_init C0 hE hin)
-- ----- X4_init
theorem dX4_init_0 : decode cX4_init 0 = .ok (.aload_n 0, 1) := by decide +kernel
theorem dX4_init_1 : decode cX4_init 1 = .ok (.invokespecial 3, 3) := by decide +kernel
theorem dX4_init_4 : decode cX4_init 4 = .ok (.aload_n 0, 1) := by decide +kernel
theorem dX4_init_5 : decode cX4_init 5 = .ok (.iconst 0, 1) := by decide +kernel
theorem dX4_init_6 : decode cX4_init 6 = .ok (.putfield 9, 3) := by decide +kernel
theorem dX4_init_9 : decode cX4_init 9 = .ok (.aload_n 0, 1) := by decide +kernel
theorem dX4_init_10 : decode cX4_init 10 = .ok (.iconst 3, 1) := by decide +kernel
theorem dX4_init_11 : decode cX4_init 11 = .ok (.putfield 15, 3) := by decide +kernel
theorem dX4_init_14 : decode cX4_init 14 = .ok (.aload_n 0, 1) := by decide +kernel
theorem dX4_init_15 : decode cX4_init 15 = .ok (.new 18, 3) := by decide +kernel
theorem dX4_init_18 : decode cX4_init 18 = .ok (.dup, 1) := by decide +kernel
theorem dX4_init_19 : decode cX4_init 19 = .ok (.invokespecial 20, 3) := by decide +kernel
theorem dX4_init_22 : decode cX4_init 22 = .ok (.putfield 21, 3) := by decide +kernel
theorem dX4_init_25 : decode cX4_init 25 = .ok (.aload_n 0, 1) := by decide +kernel
theorem dX4_init_26 : decode cX4_init 26 = .ok (.new 25, 3) := by decide +kernel
theorem dX4_init_29 : decode cX4_init 29 = .ok (.dup, 1) := by decide +kernel
theorem dX4_init_30 : decode cX4_init 30 = .ok (.invokespecial 27, 3) := by decide +kernel
theorem dX4_init_33 : decode cX4_init 33 = .ok (.putfield 28, 3) := by decide +kernel
theorem dX4_init_36 : decode cX4_init 36 = .ok (.aload_n 0, 1) := by decide +kernel
theorem dX4_init_37 : decode cX4_init 37 = .ok (.new 32, 3) := by decide +kernel
theorem dX4_init_40 : decode cX4_init 40 = .ok (.dup, 1) := by decide +kernel
theorem dX4_init_41 : decode cX4_init 41 = .ok (.invokespecial 34, 3) := by decide +kernel
theorem dX4_init_44 : decode cX4_init 44 = .ok (.putfield 35, 3) := by decide +kernel
theorem dX4_init_47 : decode cX4_init 47 = .ok (.aload_n 0, 1) := by decide +kernel
theorem dX4_init_48 : decode cX4_init 48 = .ok (.new 39, 3) := by decide +kernel
theorem dX4_init_51 : decode cX4_init 51 = .ok (.dup, 1) := by decide +kernel
theorem dX4_init_52 : decode cX4_init 52 = .ok (.invokespecial 41, 3) := by decide +kernel
theorem dX4_init_55 : decode cX4_init 55 = .ok (.putfield 42, 3) := by decide +kernel
theorem dX4_init_58 : decode cX4_init 58 = .ok (.aload_n 0, 1) := by decide +kernel
theorem dX4_init_59 : decode cX4_init 59 = .ok (.bipush 60, 2) := by decide +kernel
theorem dX4_init_61 : decode cX4_init 61 = .ok (.newarray .int, 2) := by decide +kernel
theorem dX4_init_63 : decode cX4_init 63 = .ok (.putfield 46, 3) := by decide +kernel
theorem dX4_init_66 : decode cX4_init 66 = .ok (.return_, 1) := by decide +kernel
theorem tl_X4_3 : Cond.methodLink RX4 3 Lib.objectInit ∈ TMW := tm_in 150 (by decide +kernel) (by decide +kernel)
theorem tcl_X4_18 : Cond.classLink RX4 18 RX5 ∈ TMW := tm_in 151 (by decide +kernel) (by decide +kernel)
theorem tin_X5 : Cond.instantiable RX5 4 ∈ TMW := tm_in 152 (by decide +kernel) (by decide +kernel)
theorem tc_X5_init : Cond.code yX5_init cX5_init 3 none ∈ TMW := tm_in 155 (by decide +kernel) (by decide +kernel)
theorem tl_X4_20 : Cond.methodLink RX4 20 yX5_init ∈ TMW := tm_in 153 (by decide +kernel) (by decide +kernel)
theorem ti_X5_init : Cond.instanceMethod yX5_init ∈ TMW := tm_in 154 (by decide +kernel) (by decide +kernel)
theorem tcl_X4_25 : Cond.classLink RX4 25 RX2 ∈ TMW := tm_in 177 (by decide +kernel) (by decide +kernel)
theorem tin_X2 : Cond.instantiable RX2 2 ∈ TMW := tm_in 178 (by decide +kernel) (by decide +kernel)
theorem tc_X2_init : Cond.code yX2_init cX2_init 1 none ∈ TMW := tm_in 181 (by decide +kernel) (by decide +kernel)
theorem ti_X2_init : Cond.instanceMethod yX2_init ∈ TMW := tm_in 180 (by decide +kernel) (by decide +kernel)
theorem tcl_X4_32 : Cond.classLink RX4 32 RX1 ∈ TMW := tm_in 194 (by decide +kernel) (by decide +kernel)
theorem tin_X1 : Cond.instantiable RX1 3 ∈ TMW := tm_in 195 (by decide +kernel) (by decide +kernel)
theorem tc_X1_init : Cond.code yX1_init cX1_init 1 none ∈ TMW := tm_in 198 (by decide +kernel) (by decide +kernel)
theorem ti_X1_init : Cond.instanceMethod yX1_init ∈ TMW := tm_in 197 (by decide +kernel) (by decide +kernel)
theorem tcl_X4_39 : Cond.classLink RX4 39 RX6 ∈ TMW := tm_in 213 (by decide +kernel) (by decide +kernel)
theorem tin_X6 : Cond.instantiable RX6 2 ∈ TMW := tm_in 214 (by decide +kernel) (by decide +kernel)
theorem tc_X6_init : Cond.code yX6_init cX6_init 1 none ∈ TMW := tm_in 217 (by decide +kernel) (by decide +kernel)
theorem ti_X6_init : Cond.instanceMethod yX6_init ∈ TMW := tm_in 216 (by decide +kernel) (by decide +kernel)
def k0_X4 (h0 : Nat) : va_W := [(h0, .inr (7, [.int 0, .int 0, .int 0, .int 0, .int 0, .null, .null, .null, .null, .null]))]
def k1_X4 (cy : Nat → ClassId) (h0 : Nat) (u : Nat → Nat) : va_W := [(h0, .inr (7, [.int 0, .int 3, .int 0, .int 0, .int 0, .ref (u 1), .ref (u 8), .ref (u 10), .ref (u 13), .ref (u 18)])),
  (u 1, .inr (8, [.int 0, .int 0, .ref (u 2), .ref (u 5)])), (u 2, .inl (cy 5, 2, .inr (.inr (.inr (.inr (fun i => ([u 3, u 4] : List Nat)[i]?)))))), (u 3, .inl (cy 0, 60, .inl (tn_m1 60))), (u 4, .inl (cy 0, 60, .inl (tn_m1 60))), (u 5, .inl (cy 5, 2, .inr (.inr (.inr (.inr (fun i => ([u 6, u 7] : List Nat)[i]?)))))), (u 6, .inl (cy 0, 60, .inl (tn_m1 60))), (u 7, .inl (cy 0, 60, .inl (tn_m1 60))),
  (u 8, .inr (5, [.ref (u 9), .int 0])), (u 9, .inl (cy 0, 60, .inl (fun _ => 0))), (u 10, .inr (4, [.ref (u 11), .ref (u 12), .int 0])), (u 11, .inl (cy 0, 30, .inl (fun _ => 0))), (u 12, .inl (cy 0, 30, .inl (fun _ => 0))),
  (u 13, .inr (9, [.ref (u 14), .int 0])), (u 14, .inl (cy 5, 3, .inr (.inr (.inr (.inr (fun i => ([u 15, u 16, u 17] : List Nat)[i]?)))))), (u 15, .inl (cy 0, 20, .inl (fun _ => 0))), (u 16, .inl (cy 0, 20, .inl (fun _ => 0))), (u 17, .inl (cy 0, 20, .inl (fun _ => 0))), (u 18, .inl (cy 0, 60, .inl (fun _ => 0)))]
set_option maxRecDepth 100000 in
theorem w_X4_init {p : Program} {l : Launch} {e : Env} {s : State} {m : MethodId} {args : Array Value} {below : List Frame} {meth : Method} {c : Code} {D : va_G} {cy : Nat → ClassId} {A : Nat → Prop} {adK adV adE : Nat → Nat} {tC h0 : Nat} (C0 : tmC p s m args meth c cX4_init 1 none RX4 TMW tm_NWC D cy tm_s0 tm_a0 0 (k0_X4 h0) A) (hE : tnE adK adV adE tC A s s.heap) (hin : meth.name = "<init>") : tmG p l e ({ frames := 2, cells := 18, slots := 498, locals := 34 }) s m args below meth c 0 0 (MQ below (va_Qv (fun _ : Nat → Nat => True) (fun u t => va_P D vwCl (k1_X4 cy h0 u) t.heap ∧ va_D A (k1_X4 cy h0 u)) A) args s 18 498 A) 1 D cy tm_s0 tm_a0 0 (k0_X4 h0) A () 0 [(0, .ref h0)] [] tm_v0 (some ()) := by
  refine tg_aload_n 0 C0 dX4_init_0 rfl rfl ?_
  refine tn_obj C0 dX4_init_1 tl_X4_3 ti_obj tc_obj (Nat.le_of_ble_eq_true rfl) (Nat.le_of_ble_eq_true rfl) ?_
  refine tg_aload_n 0 C0 dX4_init_4 rfl rfl ?_
  refine tg_iconst (x := 0) C0 dX4_init_5 (by decide) ?_
  refine tn_put (X' := ([(h0, .inr (7, [.int 0, .int 0, .int 0, .int 0, .int 0, .null, .null, .null, .null, .null]))] : va_W)) 0 0 C0 dX4_init_6 rfl rfl tu_X4 tyX4_ok nmX4 (by decide) tf_X4_9 rfl rfl rfl rfl rfl (Nat.le_of_ble_eq_true rfl) rfl (fun C0 => ?_)
  refine tg_aload_n 0 C0 dX4_init_9 rfl rfl ?_
  refine tg_iconst (x := 3) C0 dX4_init_10 (by decide) ?_
  refine tn_put (X' := ([(h0, .inr (7, [.int 0, .int 3, .int 0, .int 0, .int 0, .null, .null, .null, .null, .null]))] : va_W)) 0 1 C0 dX4_init_11 rfl rfl tu_X4 tyX4_ok nmX4 (by decide) tf_X4_15 rfl rfl rfl rfl rfl (Nat.le_of_ble_eq_true rfl) rfl (fun C0 => ?_)
  refine tg_aload_n 0 C0 dX4_init_14 rfl rfl ?_
  refine tn_new (ci := 8) (fs := [.int 0, .int 0, .null, .null]) C0 dX4_init_15 rfl tu_X5 tyX5_ok tcl_X4_18 tin_X5 tn_X5 (fun j hj => by rcases (show j = 0 ∨ j = 1 ∨ j = 2 ∨ j = 3 by omega) with rfl | rfl | rfl | rfl <;> rfl) ⟨Nat.le_of_ble_eq_true rfl, Nat.le_of_ble_eq_true rfl⟩ (fun q1 C0 => ?_)
  refine tg_dup C0 dX4_init_18 rfl ?_
  have C1 : tmC p s m args meth c cX4_init 1 none RX4 TMW tm_NWC D cy tm_s0 tm_a0 0 (([(h0, .inr (7, [.int 0, .int 3, .int 0, .int 0, .int 0, .null, .null, .null, .null, .null]))] : va_W) ++ k0_X5 q1) A := C0
  refine tn_X (X' := ([(h0, .inr (7, [.int 0, .int 3, .int 0, .int 0, .int 0, .null, .null, .null, .null, .null]))] : va_W) ++ k0_X5 q1) rfl ?_
  refine tn_call (w0 := k0_X5) (w1 := k1_X5) (b := q1) 0 C1 hE dX4_init_19 (c_X5_init l) rfl rfl (tm_gc tc_X5_init) tl_X4_20 tn_X5 ti_X5_init rfl rfl rfl rfl (by decide +kernel) ⟨Nat.le_of_ble_eq_true rfl, Nat.le_of_ble_eq_true rfl⟩ (Nat.le_of_ble_eq_true rfl) ⟨Nat.le_of_ble_eq_true rfl, Nat.le_of_ble_eq_true rfl⟩ (fun uq1 C0 => ?_)
  refine tn_putF (X' := (([(h0, .inr (7, [.int 0, .int 3, .int 0, .int 0, .int 0, .ref q1, .null, .null, .null, .null]))] : va_W) ++ k1_X5 cy q1 uq1)) 0 5 C0 dX4_init_22 hin rfl rfl tu_X4 tyX4_ok nmX4 (by decide) tf_X4_21 rfl rfl rfl rfl rfl rfl (Nat.le_of_ble_eq_true rfl) rfl (fun C0 => ?_)
  refine tg_aload_n 0 C0 dX4_init_25 rfl rfl ?_
  refine tn_new (ci := 5) (fs := [.null, .int 0]) C0 dX4_init_26 rfl tu_X2 tyX2_ok tcl_X4_25 tin_X2 tn_X2 (fun j hj => by rcases (show j = 0 ∨ j = 1 by omega) with rfl | rfl <;> rfl) ⟨Nat.le_of_ble_eq_true rfl, Nat.le_of_ble_eq_true rfl⟩ (fun q2 C0 => ?_)
  refine tg_dup C0 dX4_init_29 rfl ?_
  have C1 : tmC p s m args meth c cX4_init 1 none RX4 TMW tm_NWC D cy tm_s0 tm_a0 0 ((([(h0, .inr (7, [.int 0, .int 3, .int 0, .int 0, .int 0, .ref q1, .null, .null, .null, .null]))] : va_W) ++ k1_X5 cy q1 uq1) ++ k0_X2 q2) A := C0
  refine tn_X (X' := (([(h0, .inr (7, [.int 0, .int 3, .int 0, .int 0, .int 0, .ref q1, .null, .null, .null, .null]))] : va_W) ++ k1_X5 cy q1 uq1) ++ k0_X2 q2) rfl ?_
  refine tn_callN (w0 := k0_X2) (w1 := k1_X2) (b := q2) 0 C1 hE dX4_init_30 (c_X2_init l) rfl rfl (tm_gc tc_X2_init) tm_nwC_X4_27 tn_X2 ti_X2_init rfl rfl rfl rfl (by decide +kernel) ⟨Nat.le_of_ble_eq_true rfl, Nat.le_of_ble_eq_true rfl⟩ (Nat.le_of_ble_eq_true rfl) ⟨Nat.le_of_ble_eq_true rfl, Nat.le_of_ble_eq_true rfl⟩ (fun uq2 C0 => ?_)
  refine tn_putF (X' := (([(h0, .inr (7, [.int 0, .int 3, .int 0, .int 0, .int 0, .ref q1, .ref q2, .null, .null, .null]))] : va_W) ++ k1_X5 cy q1 uq1 ++ k1_X2 cy q2 uq2)) 0 6 C0 dX4_init_33 hin rfl rfl tu_X4 tyX4_ok nmX4 (by decide) tf_X4_28 rfl rfl rfl rfl rfl rfl (Nat.le_of_ble_eq_true rfl) rfl (fun C0 => ?_)
  refine tg_aload_n 0 C0 dX4_init_36 rfl rfl ?_
  refine tn_new (ci := 4) (fs := [.null, .null, .int 0]) C0 dX4_init_37 rfl tu_X1 tyX1_ok tcl_X4_32 tin_X1 tn_X1 (fun j hj => by rcases (show j = 0 ∨ j = 1 ∨ j = 2 by omega) with rfl | rfl | rfl <;> rfl) ⟨Nat.le_of_ble_eq_true rfl, Nat.le_of_ble_eq_true rfl⟩ (fun q3 C0 => ?_)
  refine tg_dup C0 dX4_init_40 rfl ?_
  have C1 : tmC p s m args meth c cX4_init 1 none RX4 TMW tm_NWC D cy tm_s0 tm_a0 0 ((([(h0, .inr (7, [.int 0, .int 3, .int 0, .int 0, .int 0, .ref q1, .ref q2, .null, .null, .null]))] : va_W) ++ k1_X5 cy q1 uq1 ++ k1_X2 cy q2 uq2) ++ k0_X1 q3) A := C0
  refine tn_X (X' := (([(h0, .inr (7, [.int 0, .int 3, .int 0, .int 0, .int 0, .ref q1, .ref q2, .null, .null, .null]))] : va_W) ++ k1_X5 cy q1 uq1 ++ k1_X2 cy q2 uq2) ++ k0_X1 q3) rfl ?_
  refine tn_callN (w0 := k0_X1) (w1 := k1_X1) (b := q3) 0 C1 hE dX4_init_41 (c_X1_init l) rfl rfl (tm_gc tc_X1_init) tm_nwC_X4_34 tn_X1 ti_X1_init rfl rfl rfl rfl (by decide +kernel) ⟨Nat.le_of_ble_eq_true rfl, Nat.le_of_ble_eq_true rfl⟩ (Nat.le_of_ble_eq_true rfl) ⟨Nat.le_of_ble_eq_true rfl, Nat.le_of_ble_eq_true rfl⟩ (fun uq3 C0 => ?_)
  refine tn_putF (X' := (([(h0, .inr (7, [.int 0, .int 3, .int 0, .int 0, .int 0, .ref q1, .ref q2, .ref q3, .null, .null]))] : va_W) ++ k1_X5 cy q1 uq1 ++ k1_X2 cy q2 uq2 ++ k1_X1 cy q3 uq3)) 0 7 C0 dX4_init_44 hin rfl rfl tu_X4 tyX4_ok nmX4 (by decide) tf_X4_35 rfl rfl rfl rfl rfl rfl (Nat.le_of_ble_eq_true rfl) rfl (fun C0 => ?_)
  refine tg_aload_n 0 C0 dX4_init_47 rfl rfl ?_
  refine tn_new (ci := 9) (fs := [.null, .int 0]) C0 dX4_init_48 rfl tu_X6 tyX6_ok tcl_X4_39 tin_X6 tn_X6 (fun j hj => by rcases (show j = 0 ∨ j = 1 by omega) with rfl | rfl <;> rfl) ⟨Nat.le_of_ble_eq_true rfl, Nat.le_of_ble_eq_true rfl⟩ (fun q4 C0 => ?_)
  refine tg_dup C0 dX4_init_51 rfl ?_
  have C1 : tmC p s m args meth c cX4_init 1 none RX4 TMW tm_NWC D cy tm_s0 tm_a0 0 ((([(h0, .inr (7, [.int 0, .int 3, .int 0, .int 0, .int 0, .ref q1, .ref q2, .ref q3, .null, .null]))] : va_W) ++ k1_X5 cy q1 uq1 ++ k1_X2 cy q2 uq2 ++ k1_X1 cy q3 uq3) ++ k0_X6 q4) A := C0
  refine tn_X (X' := (([(h0, .inr (7, [.int 0, .int 3, .int 0, .int 0, .int 0, .ref q1, .ref q2, .ref q3, .null, .null]))] : va_W) ++ k1_X5 cy q1 uq1 ++ k1_X2 cy q2 uq2 ++ k1_X1 cy q3 uq3) ++ k0_X6 q4) rfl ?_
  refine tn_callN (w0 := k0_X6) (w1 := k1_X6) (b := q4) 0 C1 hE dX4_init_52 (c_X6_init l) rfl rfl (tm_gc tc_X6_init) tm_nwC_X4_41 tn_X6 ti_X6_init rfl rfl rfl rfl (by decide +kernel) ⟨Nat.le_of_ble_eq_true rfl, Nat.le_of_ble_eq_true rfl⟩ (Nat.le_of_ble_eq_true rfl) ⟨Nat.le_of_ble_eq_true rfl, Nat.le_of_ble_eq_true rfl⟩ (fun uq4 C0 => ?_)
  refine tn_putF (X' := (([(h0, .inr (7, [.int 0, .int 3, .int 0, .int 0, .int 0, .ref q1, .ref q2, .ref q3, .ref q4, .null]))] : va_W) ++ k1_X5 cy q1 uq1 ++ k1_X2 cy q2 uq2 ++ k1_X1 cy q3 uq3 ++ k1_X6 cy q4 uq4)) 0 8 C0 dX4_init_55 hin rfl rfl tu_X4 tyX4_ok nmX4 (by decide) tf_X4_42 rfl rfl rfl rfl rfl rfl (Nat.le_of_ble_eq_true rfl) rfl (fun C0 => ?_)
  refine tg_aload_n 0 C0 dX4_init_58 rfl rfl ?_
  refine tg_bipush (x := 60) C0 dX4_init_59 (by decide) ?_
  refine tn_newi 0 60 C0 dX4_init_61 (by decide) rfl tac0 rfl (by decide) (by decide) ⟨Nat.le_of_ble_eq_true rfl, Nat.le_of_ble_eq_true rfl⟩ (fun q5 C0 => ?_)
  refine tn_putF (X' := (([(h0, .inr (7, [.int 0, .int 3, .int 0, .int 0, .int 0, .ref q1, .ref q2, .ref q3, .ref q4, .ref q5]))] : va_W) ++ k1_X5 cy q1 uq1 ++ k1_X2 cy q2 uq2 ++ k1_X1 cy q3 uq3 ++ k1_X6 cy q4 uq4 ++ [(q5, .inl (cy 0, 60, .inl (fun _ => 0)))])) 0 9 C0 dX4_init_63 hin rfl rfl tu_X4 tyX4_ok nmX4 (by decide) tf_X4_46 rfl rfl rfl rfl rfl rfl (Nat.le_of_ble_eq_true rfl) rfl (fun C0 => ?_)
  exact tn_vret (fun k => ([h0, q1, uq1 1, uq1 2, uq1 3, uq1 4, uq1 5, uq1 6, q2, uq2 1, q3, uq3 1, uq3 2, q4, uq4 1, uq4 2, uq4 3, uq4 4, q5] : List Nat).getD k 0) C0 rfl dX4_init_66 ⟨Nat.le_of_ble_eq_true rfl, Nat.le_of_ble_eq_true rfl⟩
theorem c_X4_init (l : Launch) {adK adV adE : Nat → Nat} {tC : Nat} : tnK tm_NWC l adK adV adE tC yX4_init (Cond.code yX4_init cX4_init 1 none :: TMW) ({ frames := 2, cells := 18, slots := 498, locals := 34 }) [] k0_X4 k1_X4 18 498 :=
  tnK.of (by decide +kernel) rfl tm_NWC_ok (fun _ => Nat.le_of_ble_eq_true rfl) (fun p e s m args below meth c A D cy h0 C0 hE hin => w_X4_init C0 hE hin)
