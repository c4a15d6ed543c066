-- ----- J5_append_3fe6f
theorem dJ5_append_3fe6f_0 : decode cJ5_append_3fe6f 0 = .ok (.aload_n 0, 1) := by decide +kernel
theorem dJ5_append_3fe6f_1 : decode cJ5_append_3fe6f 1 = .ok (.aload_n 0, 1) := by decide +kernel
theorem dJ5_append_3fe6f_2 : decode cJ5_append_3fe6f 2 = .ok (.getfield 79, 3) := by decide +kernel
theorem dJ5_append_3fe6f_5 : decode cJ5_append_3fe6f 5 = .ok (.iconst 1, 1) := by decide +kernel
theorem dJ5_append_3fe6f_6 : decode cJ5_append_3fe6f 6 = .ok (.iadd, 1) := by decide +kernel
theorem dJ5_append_3fe6f_7 : decode cJ5_append_3fe6f 7 = .ok (.invokevirtual 100, 3) := by decide +kernel
theorem dJ5_append_3fe6f_10 : decode cJ5_append_3fe6f 10 = .ok (.aload_n 0, 1) := by decide +kernel
theorem dJ5_append_3fe6f_11 : decode cJ5_append_3fe6f 11 = .ok (.invokevirtual 83, 3) := by decide +kernel
theorem dJ5_append_3fe6f_14 : decode cJ5_append_3fe6f 14 = .ok (.ifCond .eq 31, 3) := by decide +kernel
theorem dJ5_append_3fe6f_17 : decode cJ5_append_3fe6f 17 = .ok (.iload_n 1, 1) := by decide +kernel
theorem dJ5_append_3fe6f_18 : decode cJ5_append_3fe6f 18 = .ok (.invokestatic 191, 3) := by decide +kernel
theorem dJ5_append_3fe6f_21 : decode cJ5_append_3fe6f 21 = .ok (.ifCond .eq 24, 3) := by decide +kernel
theorem dJ5_append_3fe6f_24 : decode cJ5_append_3fe6f 24 = .ok (.aload_n 0, 1) := by decide +kernel
theorem dJ5_append_3fe6f_25 : decode cJ5_append_3fe6f 25 = .ok (.getfield 15, 3) := by decide +kernel
theorem dJ5_append_3fe6f_28 : decode cJ5_append_3fe6f 28 = .ok (.aload_n 0, 1) := by decide +kernel
theorem dJ5_append_3fe6f_29 : decode cJ5_append_3fe6f 29 = .ok (.dup, 1) := by decide +kernel
theorem dJ5_append_3fe6f_30 : decode cJ5_append_3fe6f 30 = .ok (.getfield 79, 3) := by decide +kernel
theorem dJ5_append_3fe6f_33 : decode cJ5_append_3fe6f 33 = .ok (.dup_x1, 1) := by decide +kernel
theorem dJ5_append_3fe6f_34 : decode cJ5_append_3fe6f 34 = .ok (.iconst 1, 1) := by decide +kernel
theorem dJ5_append_3fe6f_35 : decode cJ5_append_3fe6f 35 = .ok (.iadd, 1) := by decide +kernel
theorem dJ5_append_3fe6f_36 : decode cJ5_append_3fe6f 36 = .ok (.putfield 79, 3) := by decide +kernel
theorem dJ5_append_3fe6f_39 : decode cJ5_append_3fe6f 39 = .ok (.iload_n 1, 1) := by decide +kernel
theorem dJ5_append_3fe6f_40 : decode cJ5_append_3fe6f 40 = .ok (.i2b, 1) := by decide +kernel
theorem dJ5_append_3fe6f_41 : decode cJ5_append_3fe6f 41 = .ok (.bastore, 1) := by decide +kernel
theorem dJ5_append_3fe6f_42 : decode cJ5_append_3fe6f 42 = .ok (.goto 33, 3) := by decide +kernel
theorem dJ5_append_3fe6f_45 : decode cJ5_append_3fe6f 45 = .ok (.aload_n 0, 1) := by decide +kernel
theorem dJ5_append_3fe6f_46 : decode cJ5_append_3fe6f 46 = .ok (.invokevirtual 83, 3) := by decide +kernel
theorem dJ5_append_3fe6f_49 : decode cJ5_append_3fe6f 49 = .ok (.ifCond .eq 7, 3) := by decide +kernel
theorem dJ5_append_3fe6f_75 : decode cJ5_append_3fe6f 75 = .ok (.aload_n 0, 1) := by decide +kernel
theorem dJ5_append_3fe6f_76 : decode cJ5_append_3fe6f 76 = .ok (.areturn, 1) := by decide +kernel
theorem tc_J5_ensureCapacityInternal_d00df : Cond.code yJ5_ensureCapacityInternal_d00df cJ5_ensureCapacityInternal_d00df 3 none ∈ TMW := tm_in 1289 (by decide +kernel) (by decide +kernel)
theorem tl_J5_100 : Cond.methodLink RJ5 100 yJ5_ensureCapacityInternal_d00df ∈ TMW := tm_in 1286 (by decide +kernel) (by decide +kernel)
theorem ti_J5_ensureCapacityInternal_d00df : Cond.instanceMethod yJ5_ensureCapacityInternal_d00df ∈ TMW := tm_in 1288 (by decide +kernel) (by decide +kernel)
theorem tc_J5_isLatin1_aae02 : Cond.code yJ5_isLatin1_aae02 cJ5_isLatin1_aae02 1 (some .boolean) ∈ TMW := tm_in 1319 (by decide +kernel) (by decide +kernel)
theorem tl_J5_83 : Cond.methodLink RJ5 83 yJ5_isLatin1_aae02 ∈ TMW := tm_in 1315 (by decide +kernel) (by decide +kernel)
theorem ti_J5_isLatin1_aae02 : Cond.instanceMethod yJ5_isLatin1_aae02 ∈ TMW := tm_in 1316 (by decide +kernel) (by decide +kernel)
theorem ts_J5_isLatin1_aae02 : Cond.selects RJ4 yJ5_isLatin1_aae02 yJ5_isLatin1_aae02 ∈ TMW := tm_in 1318 (by decide +kernel) (by decide +kernel)
theorem tc_J1_canEncode_fc78d : Cond.code yJ1_canEncode_fc78d cJ1_canEncode_fc78d 1 (some .boolean) ∈ TMW := tm_in 1519 (by decide +kernel) (by decide +kernel)
theorem tl_J5_191 : Cond.methodLink RJ5 191 yJ1_canEncode_fc78d ∈ TMW := tm_in 1517 (by decide +kernel) (by decide +kernel)
theorem tst_J1_canEncode_fc78d : Cond.static yJ1_canEncode_fc78d ∈ TMW := tm_in 1518 (by decide +kernel) (by decide +kernel)
def f_J5_append_3fe6f (gr : Nat) (κ : Nat) (x1 : Int32) (v : tmM) : Option (Unit × (Nat × tmM)) := tm_cb (f_J5_ensureCapacityInternal_d00df gr κ ((v 0 3) + 1) v) fun _ κ3 v1 => tm_cl (f_J5_isLatin1_aae02 κ3 v1) fun r6 v5 => (if r6 = 0 then tm_cl (f_J5_isLatin1_aae02 κ3 v5) fun r8 v7 => (if r8 = 0 then none else none) else tm_cl (f_J1_canEncode_fc78d x1 v5) fun r12 v11 => (if r12 = 0 then tm_cl (f_J5_isLatin1_aae02 κ3 v11) fun r14 v13 => (if r14 = 0 then none else none) else tm_lt (v11 0 3) fun y17 => tm_lt (tm_up v11 0 3 (y17 + 1)) fun v18 => tm_g (tm_ix y17 κ3) (tm_lt (tm_up v18 1 y17.toNatClampNeg (vp_nar .byte (x1.toInt8.toInt32))) fun v19 => some ((), (κ3, v19)))))
set_option maxRecDepth 100000 in
set_option maxHeartbeats 4000000 in
theorem w_J5_append_3fe6f {p : Program} {l : Launch} {e : Env} {s : State} {m : MethodId} {args : Array Value} {below : List Frame} {meth : Method} {c : Code} {D : va_G} {cy : Nat → ClassId} {A : Nat → Prop} {adK adV adE : Nat → Nat} {tC : Nat} {a0 b0 : Nat} {z : (Unit × (Nat × tmM))} {gr : Nat} {κ : Nat} (C0 : tmC p s m args meth c cJ5_append_3fe6f 2 (some (.object "java/lang/AbstractStringBuilder")) RJ5 TMW tm_NWC D cy (tm_shB κ) (tm_aB a0 b0) 2 [] A) (hE : tmSc adK adV adE tC A s s.heap) (x1 : Int32) (v : tmM) : tmG p l e ({ frames := 4, cells := gr, slots := 70 * gr, locals := 110 } : Room) s m args below meth c 0 0 (MQ below (va_Qr (fun u => z = ((), u)) (fun u a t => a = a0 ∧ tmBt D cy a0 A u t) A) args s gr (70 * gr) A) 2 D cy (tm_shB κ) (tm_aB a0 b0) 2 [] A z 0 [(0, .ref a0), (1, .int x1)] [] v (f_J5_append_3fe6f gr κ x1 v) := by
  unfold f_J5_append_3fe6f
  refine tg_aload_n 0 C0 dJ5_append_3fe6f_0 rfl rfl ?_
  refine tg_aload_n 0 C0 dJ5_append_3fe6f_1 rfl rfl ?_
  refine tg_get 0 3 C0 dJ5_append_3fe6f_2 (by decide) rfl rfl tu_J4 (by decide) tf_J5_79 rfl rfl rfl ?_
  refine tg_iconst (x := 1) C0 dJ5_append_3fe6f_5 (by decide) ?_
  refine tg_iadd C0 dJ5_append_3fe6f_6 ?_
  refine tb_callPv (As := [.int ((v 0 3) + 1)]) 1 C0 hE dJ5_append_3fe6f_7 (c_J5_ensureCapacityInternal_d00df l gr κ ((v 0 3) + 1) v) rfl rfl (tm_gc tc_J5_ensureCapacityInternal_d00df) tl_J5_100 tn_J5 ti_J5_ensureCapacityInternal_d00df (fun hts => hts _ (tm_inB 0 rfl (by decide +kernel))) rfl rfl rfl rfl ⟨by decide, by decide, by decide +kernel⟩ ⟨Nat.le_of_ble_eq_true rfl, Nat.le_of_ble_eq_true rfl⟩ (Nat.le_of_ble_eq_true rfl) ⟨Nat.le_of_eq (Nat.zero_add _), Nat.le_of_eq (Nat.zero_add _)⟩ (fun κ3 v1 b4 C0 _ => ?_)
  refine tg_aload_n 0 C0 dJ5_append_3fe6f_10 rfl rfl ?_
  refine tp_callPi (As := []) 0 C0 hE dJ5_append_3fe6f_11 (c_J5_isLatin1_aae02 l κ3 v1) rfl rfl (tm_gc tc_J5_isLatin1_aae02) tl_J5_83 tn_J5 ti_J5_isLatin1_aae02 (fun hts => hts _ ts_J5_isLatin1_aae02) rfl rfl rfl rfl ⟨by decide, by decide, by decide +kernel⟩ ⟨Nat.le_of_ble_eq_true rfl, Nat.le_of_ble_eq_true rfl⟩ (Nat.le_of_ble_eq_true rfl) ⟨Nat.le_of_eq (Nat.zero_add _), Nat.le_of_eq (Nat.zero_add _)⟩ (fun r6 v5 _ => ?_)
  refine tg_if_eq 45 C0 dJ5_append_3fe6f_14 (by decide) (fun _ => ?_) (fun _ => ?_)
  · refine tg_aload_n 0 C0 dJ5_append_3fe6f_45 rfl rfl ?_
    refine tp_callPi (As := []) 0 C0 hE dJ5_append_3fe6f_46 (c_J5_isLatin1_aae02 l κ3 v5) rfl rfl (tm_gc tc_J5_isLatin1_aae02) tl_J5_83 tn_J5 ti_J5_isLatin1_aae02 (fun hts => hts _ ts_J5_isLatin1_aae02) rfl rfl rfl rfl ⟨by decide, by decide, by decide +kernel⟩ ⟨Nat.le_of_ble_eq_true rfl, Nat.le_of_ble_eq_true rfl⟩ (Nat.le_of_ble_eq_true rfl) ⟨Nat.le_of_eq (Nat.zero_add _), Nat.le_of_eq (Nat.zero_add _)⟩ (fun r8 v7 _ => ?_)
    refine tg_if_eq 56 C0 dJ5_append_3fe6f_49 (by decide) (fun _ => ?_) (fun _ => ?_)
    · exact tg_none
    · exact tg_none
  · refine tg_iload_n 1 C0 dJ5_append_3fe6f_17 rfl rfl ?_
    refine ty_callSi (As := [.int x1]) 1 C0 hE dJ5_append_3fe6f_18 (c_J1_canEncode_fc78d l x1 v5) rfl rfl (tm_gc tc_J1_canEncode_fc78d) tl_J5_191 tn_J1 tst_J1_canEncode_fc78d rfl rfl rfl rfl (by decide +kernel) ⟨Nat.le_of_ble_eq_true rfl, Nat.le_of_ble_eq_true rfl⟩ (Nat.le_of_ble_eq_true rfl) ⟨Nat.le_of_eq (Nat.zero_add _), Nat.le_of_eq (Nat.zero_add _)⟩ (fun r12 v11 _ => ?_)
    refine tg_if_eq 45 C0 dJ5_append_3fe6f_21 (by decide) (fun _ => ?_) (fun _ => ?_)
    · refine tg_aload_n 0 C0 dJ5_append_3fe6f_45 rfl rfl ?_
      refine tp_callPi (As := []) 0 C0 hE dJ5_append_3fe6f_46 (c_J5_isLatin1_aae02 l κ3 v11) rfl rfl (tm_gc tc_J5_isLatin1_aae02) tl_J5_83 tn_J5 ti_J5_isLatin1_aae02 (fun hts => hts _ ts_J5_isLatin1_aae02) rfl rfl rfl rfl ⟨by decide, by decide, by decide +kernel⟩ ⟨Nat.le_of_ble_eq_true rfl, Nat.le_of_ble_eq_true rfl⟩ (Nat.le_of_ble_eq_true rfl) ⟨Nat.le_of_eq (Nat.zero_add _), Nat.le_of_eq (Nat.zero_add _)⟩ (fun r14 v13 _ => ?_)
      refine tg_if_eq 56 C0 dJ5_append_3fe6f_49 (by decide) (fun _ => ?_) (fun _ => ?_)
      · exact tg_none
      · exact tg_none
    · refine tg_aload_n 0 C0 dJ5_append_3fe6f_24 rfl rfl ?_
      refine tg_get 0 0 C0 dJ5_append_3fe6f_25 (by decide) rfl rfl tu_J4 (by decide) tf_J5_15 rfl rfl rfl ?_
      refine tg_aload_n 0 C0 dJ5_append_3fe6f_28 rfl rfl ?_
      refine tg_dup C0 dJ5_append_3fe6f_29 rfl ?_
      refine tg_get 0 3 C0 dJ5_append_3fe6f_30 (by decide) rfl rfl tu_J4 (by decide) tf_J5_79 rfl rfl rfl ?_
      refine tg_leti (fun y17 _ => ?_)
      refine tg_dup_x1 C0 dJ5_append_3fe6f_33 ⟨rfl, rfl⟩ ?_
      refine tg_iconst (x := 1) C0 dJ5_append_3fe6f_34 (by decide) ?_
      refine tg_iadd C0 dJ5_append_3fe6f_35 ?_
      refine tg_put 0 3 C0 dJ5_append_3fe6f_36 (by decide) rfl rfl tu_J4 tyJ4_ok nmJ4 (by decide) tf_J5_79 rfl rfl rfl rfl rfl rfl ?_
      refine tg_letm (fun v18 _ => ?_)
      refine tg_iload_n 1 C0 dJ5_append_3fe6f_39 rfl rfl ?_
      refine tg_i2b C0 dJ5_append_3fe6f_40 ?_
      refine tg_bast 1 C0 dJ5_append_3fe6f_41 (by decide) rfl (fun _ => ?_)
      refine tg_letm (fun v19 _ => ?_)
      refine tg_goto 75 C0 dJ5_append_3fe6f_42 (by decide) ?_
      refine tg_aload_n 0 C0 dJ5_append_3fe6f_75 rfl rfl ?_
      exact tb_aret C0 dJ5_append_3fe6f_76 ⟨Nat.le_of_eq (Nat.zero_add _), Nat.le_of_eq (Nat.zero_add _)⟩
theorem c_J5_append_3fe6f (l : Launch) {adK adV adE : Nat → Nat} {tC : Nat} (gr : Nat) (κ : Nat) (x1 : Int32) (v : tmM) : tmBr tm_NWC l adK adV adE tC yJ5_append_3fe6f (Cond.code yJ5_append_3fe6f cJ5_append_3fe6f 2 (some (.object "java/lang/AbstractStringBuilder")) :: TMW) ({ frames := 4, cells := gr, slots := 70 * gr, locals := 110 } : Room) (fun a0 b0 => [.ref a0, .int x1]) κ v gr (70 * gr) (f_J5_append_3fe6f gr κ x1 v) :=
  tmBr.of (cc := cJ5_append_3fe6f) (nL := 2) (by decide +kernel) rfl tm_NWC_ok (fun _ _ => Nat.le_of_ble_eq_true rfl) (fun p e s m args below meth c A D cy a0 b0 z C0 hE => w_J5_append_3fe6f C0 hE x1 v)
-- ----- J5_append_c97b9
theorem dJ5_append_c97b9_0 : decode cJ5_append_c97b9 0 = .ok (.aload_n 0, 1) := by decide +kernel
theorem dJ5_append_c97b9_1 : decode cJ5_append_c97b9 1 = .ok (.getfield 79, 3) := by decide +kernel
theorem dJ5_append_c97b9_4 : decode cJ5_append_c97b9 4 = .ok (.istore_n 2, 1) := by decide +kernel
theorem dJ5_append_c97b9_5 : decode cJ5_append_c97b9 5 = .ok (.iload_n 2, 1) := by decide +kernel
theorem dJ5_append_c97b9_6 : decode cJ5_append_c97b9 6 = .ok (.iload_n 1, 1) := by decide +kernel
theorem dJ5_append_c97b9_7 : decode cJ5_append_c97b9 7 = .ok (.invokestatic 245, 3) := by decide +kernel
theorem dJ5_append_c97b9_10 : decode cJ5_append_c97b9 10 = .ok (.iadd, 1) := by decide +kernel
theorem dJ5_append_c97b9_11 : decode cJ5_append_c97b9 11 = .ok (.istore_n 3, 1) := by decide +kernel
theorem dJ5_append_c97b9_12 : decode cJ5_append_c97b9 12 = .ok (.aload_n 0, 1) := by decide +kernel
theorem dJ5_append_c97b9_13 : decode cJ5_append_c97b9 13 = .ok (.iload_n 3, 1) := by decide +kernel
theorem dJ5_append_c97b9_14 : decode cJ5_append_c97b9 14 = .ok (.invokevirtual 100, 3) := by decide +kernel
theorem dJ5_append_c97b9_17 : decode cJ5_append_c97b9 17 = .ok (.aload_n 0, 1) := by decide +kernel
theorem dJ5_append_c97b9_18 : decode cJ5_append_c97b9 18 = .ok (.invokevirtual 83, 3) := by decide +kernel
theorem dJ5_append_c97b9_21 : decode cJ5_append_c97b9 21 = .ok (.ifCond .eq 16, 3) := by decide +kernel
theorem dJ5_append_c97b9_24 : decode cJ5_append_c97b9 24 = .ok (.iload_n 1, 1) := by decide +kernel
theorem dJ5_append_c97b9_25 : decode cJ5_append_c97b9 25 = .ok (.iload_n 3, 1) := by decide +kernel
theorem dJ5_append_c97b9_26 : decode cJ5_append_c97b9 26 = .ok (.aload_n 0, 1) := by decide +kernel
theorem dJ5_append_c97b9_27 : decode cJ5_append_c97b9 27 = .ok (.getfield 15, 3) := by decide +kernel
theorem dJ5_append_c97b9_30 : decode cJ5_append_c97b9 30 = .ok (.invokestatic 248, 3) := by decide +kernel
theorem dJ5_append_c97b9_33 : decode cJ5_append_c97b9 33 = .ok (.pop, 1) := by decide +kernel
theorem dJ5_append_c97b9_34 : decode cJ5_append_c97b9 34 = .ok (.goto 14, 3) := by decide +kernel
theorem dJ5_append_c97b9_48 : decode cJ5_append_c97b9 48 = .ok (.aload_n 0, 1) := by decide +kernel
theorem dJ5_append_c97b9_49 : decode cJ5_append_c97b9 49 = .ok (.iload_n 3, 1) := by decide +kernel
theorem dJ5_append_c97b9_50 : decode cJ5_append_c97b9 50 = .ok (.putfield 79, 3) := by decide +kernel
theorem dJ5_append_c97b9_53 : decode cJ5_append_c97b9 53 = .ok (.aload_n 0, 1) := by decide +kernel
theorem dJ5_append_c97b9_54 : decode cJ5_append_c97b9 54 = .ok (.areturn, 1) := by decide +kernel
theorem tc_J6_stringSize_0f7a4 : Cond.code yJ6_stringSize_0f7a4 cJ6_stringSize_0f7a4 4 (some .int) ∈ TMW := tm_in 1379 (by decide +kernel) (by decide +kernel)
theorem tl_J5_245 : Cond.methodLink RJ5 245 yJ6_stringSize_0f7a4 ∈ TMW := tm_in 1377 (by decide +kernel) (by decide +kernel)
theorem tst_J6_stringSize_0f7a4 : Cond.static yJ6_stringSize_0f7a4 ∈ TMW := tm_in 1378 (by decide +kernel) (by decide +kernel)
theorem tc_J6_getChars_ba4f3 : Cond.code yJ6_getChars_ba4f3 cJ6_getChars_ba4f3 7 (some .int) ∈ TMW := tm_in 1382 (by decide +kernel) (by decide +kernel)
theorem tl_J5_248 : Cond.methodLink RJ5 248 yJ6_getChars_ba4f3 ∈ TMW := tm_in 1380 (by decide +kernel) (by decide +kernel)
theorem tst_J6_getChars_ba4f3 : Cond.static yJ6_getChars_ba4f3 ∈ TMW := tm_in 1381 (by decide +kernel) (by decide +kernel)
def f_J5_append_c97b9 (gr : Nat) (κ : Nat) (x1 : Int32) (v : tmM) : Option (Unit × (Nat × tmM)) := tm_lt (v 0 3) fun y1 => tm_cl (f_J6_stringSize_0f7a4 x1 v) fun r3 v2 => tm_lt (y1 + r3) fun y4 => tm_cb (f_J5_ensureCapacityInternal_d00df gr κ y4 v2) fun _ κ7 v5 => tm_cl (f_J5_isLatin1_aae02 κ7 v5) fun r10 v9 => (if r10 = 0 then none else tm_cl (f_J6_getChars_ba4f3 κ7 x1 y4 v9) fun r12 v11 => tm_lt (tm_up v11 0 3 y4) fun v13 => some ((), (κ7, v13)))
set_option maxRecDepth 100000 in
set_option maxHeartbeats 4000000 in
theorem w_J5_append_c97b9 {p : Program} {l : Launch} {e : Env} {s : State} {m : MethodId} {args : Array Value} {below : List Frame} {meth : Method} {c : Code} {D : va_G} {cy : Nat → ClassId} {A : Nat → Prop} {adK adV adE : Nat → Nat} {tC : Nat} {a0 b0 : Nat} {z : (Unit × (Nat × tmM))} {gr : Nat} {κ : Nat} (C0 : tmC p s m args meth c cJ5_append_c97b9 4 (some (.object "java/lang/AbstractStringBuilder")) RJ5 TMW tm_NWC D cy (tm_shB κ) (tm_aB a0 b0) 2 [] A) (hE : tmSc adK adV adE tC A s s.heap) (x1 : Int32) (v : tmM) : tmG p l e ({ frames := 4, cells := gr, slots := 70 * gr, locals := 110 } : Room) s m args below meth c 0 0 (MQ below (va_Qr (fun u => z = ((), u)) (fun u a t => a = a0 ∧ tmBt D cy a0 A u t) A) args s gr (70 * gr) A) 4 D cy (tm_shB κ) (tm_aB a0 b0) 2 [] A z 0 [(0, .ref a0), (1, .int x1)] [] v (f_J5_append_c97b9 gr κ x1 v) := by
  unfold f_J5_append_c97b9
  refine tg_aload_n 0 C0 dJ5_append_c97b9_0 rfl rfl ?_
  refine tg_get 0 3 C0 dJ5_append_c97b9_1 (by decide) rfl rfl tu_J4 (by decide) tf_J5_79 rfl rfl rfl ?_
  refine tg_leti (fun y1 _ => ?_)
  refine tg_istore_n [(2, .int y1), (0, .ref a0), (1, .int x1)] C0 dJ5_append_c97b9_4 rfl (by decide) rfl ?_
  refine tg_iload_n 0 C0 dJ5_append_c97b9_5 rfl rfl ?_
  refine tg_iload_n 2 C0 dJ5_append_c97b9_6 rfl rfl ?_
  refine ty_callSi (As := [.int x1]) 1 C0 hE dJ5_append_c97b9_7 (c_J6_stringSize_0f7a4 l x1 v) rfl rfl (tm_gc tc_J6_stringSize_0f7a4) tl_J5_245 tn_J6 tst_J6_stringSize_0f7a4 rfl rfl rfl rfl (by decide +kernel) ⟨Nat.le_of_ble_eq_true rfl, Nat.le_of_ble_eq_true rfl⟩ (Nat.le_of_ble_eq_true rfl) ⟨Nat.zero_le _, Nat.zero_le _⟩ (fun r3 v2 _ => ?_)
  refine tg_iadd C0 dJ5_append_c97b9_10 ?_
  refine tg_leti (fun y4 _ => ?_)
  refine tg_istore_n [(3, .int y4), (2, .int y1), (0, .ref a0), (1, .int x1)] C0 dJ5_append_c97b9_11 rfl (by decide) rfl ?_
  refine tg_aload_n 2 C0 dJ5_append_c97b9_12 rfl rfl ?_
  refine tg_iload_n 0 C0 dJ5_append_c97b9_13 rfl rfl ?_
  refine tb_callPv (As := [.int y4]) 1 C0 hE dJ5_append_c97b9_14 (c_J5_ensureCapacityInternal_d00df l gr κ y4 v2) rfl rfl (tm_gc tc_J5_ensureCapacityInternal_d00df) tl_J5_100 tn_J5 ti_J5_ensureCapacityInternal_d00df (fun hts => hts _ (tm_inB 0 rfl (by decide +kernel))) rfl rfl rfl rfl ⟨by decide, by decide, by decide +kernel⟩ ⟨Nat.le_of_ble_eq_true rfl, Nat.le_of_ble_eq_true rfl⟩ (Nat.le_of_ble_eq_true rfl) ⟨Nat.le_of_eq (Nat.zero_add _), Nat.le_of_eq (Nat.zero_add _)⟩ (fun κ7 v5 b8 C0 _ => ?_)
  refine tg_aload_n 2 C0 dJ5_append_c97b9_17 rfl rfl ?_
  refine tp_callPi (As := []) 0 C0 hE dJ5_append_c97b9_18 (c_J5_isLatin1_aae02 l κ7 v5) rfl rfl (tm_gc tc_J5_isLatin1_aae02) tl_J5_83 tn_J5 ti_J5_isLatin1_aae02 (fun hts => hts _ ts_J5_isLatin1_aae02) rfl rfl rfl rfl ⟨by decide, by decide, by decide +kernel⟩ ⟨Nat.le_of_ble_eq_true rfl, Nat.le_of_ble_eq_true rfl⟩ (Nat.le_of_ble_eq_true rfl) ⟨Nat.le_of_eq (Nat.zero_add _), Nat.le_of_eq (Nat.zero_add _)⟩ (fun r10 v9 _ => ?_)
  refine tg_if_eq 37 C0 dJ5_append_c97b9_21 (by decide) (fun _ => ?_) (fun _ => ?_)
  · exact tg_none
  · refine tg_iload_n 3 C0 dJ5_append_c97b9_24 rfl rfl ?_
    refine tg_iload_n 0 C0 dJ5_append_c97b9_25 rfl rfl ?_
    refine tg_aload_n 2 C0 dJ5_append_c97b9_26 rfl rfl ?_
    refine tg_get 0 0 C0 dJ5_append_c97b9_27 (by decide) rfl rfl tu_J4 (by decide) tf_J5_15 rfl rfl rfl ?_
    refine ty_callSi (As := [.int x1, .int y4, .ref b8]) 3 C0 hE dJ5_append_c97b9_30 (c_J6_getChars_ba4f3 l κ7 x1 y4 v9) rfl rfl (tm_gc tc_J6_getChars_ba4f3) tl_J5_248 tn_J6 tst_J6_getChars_ba4f3 rfl rfl rfl rfl (by decide +kernel) ⟨Nat.le_of_ble_eq_true rfl, Nat.le_of_ble_eq_true rfl⟩ (Nat.le_of_ble_eq_true rfl) ⟨Nat.le_of_eq (Nat.zero_add _), Nat.le_of_eq (Nat.zero_add _)⟩ (fun r12 v11 _ => ?_)
    refine tg_pop C0 dJ5_append_c97b9_33 rfl ?_
    refine tg_goto 48 C0 dJ5_append_c97b9_34 (by decide) ?_
    refine tg_aload_n 2 C0 dJ5_append_c97b9_48 rfl rfl ?_
    refine tg_iload_n 0 C0 dJ5_append_c97b9_49 rfl rfl ?_
    refine tg_put 0 3 C0 dJ5_append_c97b9_50 (by decide) rfl rfl tu_J4 tyJ4_ok nmJ4 (by decide) tf_J5_79 rfl rfl rfl rfl rfl rfl ?_
    refine tg_letm (fun v13 _ => ?_)
    refine tg_aload_n 2 C0 dJ5_append_c97b9_53 rfl rfl ?_
    exact tb_aret C0 dJ5_append_c97b9_54 ⟨Nat.le_of_eq (Nat.zero_add _), Nat.le_of_eq (Nat.zero_add _)⟩
theorem c_J5_append_c97b9 (l : Launch) {adK adV adE : Nat → Nat} {tC : Nat} (gr : Nat) (κ : Nat) (x1 : Int32) (v : tmM) : tmBr tm_NWC l adK adV adE tC yJ5_append_c97b9 (Cond.code yJ5_append_c97b9 cJ5_append_c97b9 4 (some (.object "java/lang/AbstractStringBuilder")) :: TMW) ({ frames := 4, cells := gr, slots := 70 * gr, locals := 110 } : Room) (fun a0 b0 => [.ref a0, .int x1]) κ v gr (70 * gr) (f_J5_append_c97b9 gr κ x1 v) :=
  tmBr.of (cc := cJ5_append_c97b9) (nL := 4) (by decide +kernel) rfl tm_NWC_ok (fun _ _ => Nat.le_of_ble_eq_true rfl) (fun p e s m args below meth c A D cy a0 b0 z C0 hE => w_J5_append_c97b9 C0 hE x1 v)
-- ----- J5_append_cf1ce
theorem dJ5_append_cf1ce_0 : decode cJ5_append_cf1ce 0 = .ok (.aload_n 1, 1) := by decide +kernel
theorem dJ5_append_cf1ce_1 : decode cJ5_append_cf1ce 1 = .ok (.ifnonnull 8, 3) := by decide +kernel
theorem dJ5_append_cf1ce_9 : decode cJ5_append_cf1ce 9 = .ok (.aload_n 1, 1) := by decide +kernel
theorem dJ5_append_cf1ce_10 : decode cJ5_append_cf1ce 10 = .ok (.invokevirtual 32, 3) := by decide +kernel
theorem dJ5_append_cf1ce_13 : decode cJ5_append_cf1ce 13 = .ok (.istore_n 2, 1) := by decide +kernel
theorem dJ5_append_cf1ce_14 : decode cJ5_append_cf1ce 14 = .ok (.aload_n 0, 1) := by decide +kernel
theorem dJ5_append_cf1ce_15 : decode cJ5_append_cf1ce 15 = .ok (.aload_n 0, 1) := by decide +kernel
theorem dJ5_append_cf1ce_16 : decode cJ5_append_cf1ce 16 = .ok (.getfield 79, 3) := by decide +kernel
theorem dJ5_append_cf1ce_19 : decode cJ5_append_cf1ce 19 = .ok (.iload_n 2, 1) := by decide +kernel
theorem dJ5_append_cf1ce_20 : decode cJ5_append_cf1ce 20 = .ok (.iadd, 1) := by decide +kernel
theorem dJ5_append_cf1ce_21 : decode cJ5_append_cf1ce 21 = .ok (.invokevirtual 100, 3) := by decide +kernel
theorem dJ5_append_cf1ce_24 : decode cJ5_append_cf1ce 24 = .ok (.aload_n 0, 1) := by decide +kernel
theorem dJ5_append_cf1ce_25 : decode cJ5_append_cf1ce 25 = .ok (.aload_n 0, 1) := by decide +kernel
theorem dJ5_append_cf1ce_26 : decode cJ5_append_cf1ce 26 = .ok (.getfield 79, 3) := by decide +kernel
theorem dJ5_append_cf1ce_29 : decode cJ5_append_cf1ce 29 = .ok (.aload_n 1, 1) := by decide +kernel
theorem dJ5_append_cf1ce_30 : decode cJ5_append_cf1ce 30 = .ok (.invokevirtual 208, 3) := by decide +kernel
theorem dJ5_append_cf1ce_33 : decode cJ5_append_cf1ce 33 = .ok (.aload_n 0, 1) := by decide +kernel
theorem dJ5_append_cf1ce_34 : decode cJ5_append_cf1ce 34 = .ok (.dup, 1) := by decide +kernel
theorem dJ5_append_cf1ce_35 : decode cJ5_append_cf1ce 35 = .ok (.getfield 79, 3) := by decide +kernel
theorem dJ5_append_cf1ce_38 : decode cJ5_append_cf1ce 38 = .ok (.iload_n 2, 1) := by decide +kernel
theorem dJ5_append_cf1ce_39 : decode cJ5_append_cf1ce 39 = .ok (.iadd, 1) := by decide +kernel
theorem dJ5_append_cf1ce_40 : decode cJ5_append_cf1ce 40 = .ok (.putfield 79, 3) := by decide +kernel
theorem dJ5_append_cf1ce_43 : decode cJ5_append_cf1ce 43 = .ok (.aload_n 0, 1) := by decide +kernel
theorem dJ5_append_cf1ce_44 : decode cJ5_append_cf1ce 44 = .ok (.areturn, 1) := by decide +kernel
theorem tl_J5_32 : Cond.methodLink RJ5 32 yJ0_length_8abf5 ∈ TMW := tm_in 1335 (by decide +kernel) (by decide +kernel)
theorem tc_J5_putStringAt_47b60 : Cond.code yJ5_putStringAt_47b60 cJ5_putStringAt_47b60 3 none ∈ TMW := tm_in 1339 (by decide +kernel) (by decide +kernel)
theorem tl_J5_208 : Cond.methodLink RJ5 208 yJ5_putStringAt_47b60 ∈ TMW := tm_in 1336 (by decide +kernel) (by decide +kernel)
theorem ti_J5_putStringAt_47b60 : Cond.instanceMethod yJ5_putStringAt_47b60 ∈ TMW := tm_in 1338 (by decide +kernel) (by decide +kernel)
def f_J5_append_cf1ce (gr : Nat) (κ : Nat) (o1 : Nat) (v : tmM) : Option (Unit × (Nat × tmM)) := tm_g (decide (o1 < 15)) (tm_cl (f_J0_length_8abf5 o1 v) fun r2 v1 => tm_cb (f_J5_ensureCapacityInternal_d00df gr κ ((v1 0 3) + r2) v1) fun _ κ6 v4 => tm_cl (f_J5_putStringAt_47b60 κ6 o1 (v4 0 3) v4) fun _ v8 => tm_lt (tm_up v8 0 3 ((v8 0 3) + r2)) fun v10 => some ((), (κ6, v10)))
set_option maxRecDepth 100000 in
set_option maxHeartbeats 4000000 in
theorem w_J5_append_cf1ce {p : Program} {l : Launch} {e : Env} {s : State} {m : MethodId} {args : Array Value} {below : List Frame} {meth : Method} {c : Code} {D : va_G} {cy : Nat → ClassId} {A : Nat → Prop} {adK adV adE : Nat → Nat} {tC : Nat} {a0 b0 : Nat} {z : (Unit × (Nat × tmM))} {gr : Nat} {κ : Nat} {o1 : Nat} (C0 : tmC p s m args meth c cJ5_append_cf1ce 3 (some (.object "java/lang/AbstractStringBuilder")) RJ5 TMW tm_NWC D cy (tm_shB κ) (tm_aB a0 b0) 2 [] A) (hE : tmSc adK adV adE tC A s s.heap) (v : tmM) : tmG p l e ({ frames := 4, cells := gr, slots := 70 * gr, locals := 110 } : Room) s m args below meth c 0 0 (MQ below (va_Qr (fun u => z = ((), u)) (fun u a t => a = a0 ∧ tmBt D cy a0 A u t) A) args s gr (70 * gr) A) 3 D cy (tm_shB κ) (tm_aB a0 b0) 2 [] A z 0 [(0, .ref a0), (1, .ref (adK o1))] [] v (f_J5_append_cf1ce gr κ o1 v) := by
  unfold f_J5_append_cf1ce
  refine tg_aload_n 1 C0 dJ5_append_cf1ce_0 rfl rfl ?_
  refine ty_nn 9 C0 dJ5_append_cf1ce_1 (by decide) ?_
  refine tg_aload_n 1 C0 dJ5_append_cf1ce_9 rfl rfl ?_
  refine tg_g (fun h3 => ?_)
  refine ty_callVi (As := []) 0 C0 hE dJ5_append_cf1ce_10 (c_J0_length_8abf5 l o1 v) rfl rfl (tm_gV tl_J5_32 ti_J0_length_8abf5 ts_J0_length_8abf5 tn_J0 tc_J0_length_8abf5) (tm_rvS hE (of_decide_eq_true h3)) rfl rfl rfl rfl (by decide +kernel) ⟨Nat.le_of_ble_eq_true rfl, Nat.le_of_ble_eq_true rfl⟩ (Nat.le_of_ble_eq_true rfl) ⟨Nat.zero_le _, Nat.zero_le _⟩ (fun r2 v1 _ => ?_)
  refine tg_istore_n [(2, .int r2), (0, .ref a0), (1, .ref (adK o1))] C0 dJ5_append_cf1ce_13 rfl (by decide) rfl ?_
  refine tg_aload_n 1 C0 dJ5_append_cf1ce_14 rfl rfl ?_
  refine tg_aload_n 1 C0 dJ5_append_cf1ce_15 rfl rfl ?_
  refine tg_get 0 3 C0 dJ5_append_cf1ce_16 (by decide) rfl rfl tu_J4 (by decide) tf_J5_79 rfl rfl rfl ?_
  refine tg_iload_n 0 C0 dJ5_append_cf1ce_19 rfl rfl ?_
  refine tg_iadd C0 dJ5_append_cf1ce_20 ?_
  refine tb_callPv (As := [.int ((v1 0 3) + r2)]) 1 C0 hE dJ5_append_cf1ce_21 (c_J5_ensureCapacityInternal_d00df l gr κ ((v1 0 3) + r2) v1) rfl rfl (tm_gc tc_J5_ensureCapacityInternal_d00df) tl_J5_100 tn_J5 ti_J5_ensureCapacityInternal_d00df (fun hts => hts _ (tm_inB 0 rfl (by decide +kernel))) rfl rfl rfl rfl ⟨by decide, by decide, by decide +kernel⟩ ⟨Nat.le_of_ble_eq_true rfl, Nat.le_of_ble_eq_true rfl⟩ (Nat.le_of_ble_eq_true rfl) ⟨Nat.le_of_eq (Nat.zero_add _), Nat.le_of_eq (Nat.zero_add _)⟩ (fun κ6 v4 b7 C0 _ => ?_)
  refine tg_aload_n 1 C0 dJ5_append_cf1ce_24 rfl rfl ?_
  refine tg_aload_n 1 C0 dJ5_append_cf1ce_25 rfl rfl ?_
  refine tg_get 0 3 C0 dJ5_append_cf1ce_26 (by decide) rfl rfl tu_J4 (by decide) tf_J5_79 rfl rfl rfl ?_
  refine tg_aload_n 2 C0 dJ5_append_cf1ce_29 rfl rfl ?_
  refine tp_callPv (As := [.int (v4 0 3), .ref (adK o1)]) 2 C0 hE dJ5_append_cf1ce_30 (c_J5_putStringAt_47b60 l κ6 o1 (v4 0 3) v4) rfl rfl (tm_gc tc_J5_putStringAt_47b60) tl_J5_208 tn_J5 ti_J5_putStringAt_47b60 (fun hts => hts _ (tm_inB 2 rfl (by decide +kernel))) rfl rfl rfl rfl ⟨by decide, by decide, by decide +kernel⟩ ⟨Nat.le_of_ble_eq_true rfl, Nat.le_of_ble_eq_true rfl⟩ (Nat.le_of_ble_eq_true rfl) ⟨Nat.le_of_eq (Nat.zero_add _), Nat.le_of_eq (Nat.zero_add _)⟩ (fun v8 _ => ?_)
  refine tg_aload_n 1 C0 dJ5_append_cf1ce_33 rfl rfl ?_
  refine tg_dup C0 dJ5_append_cf1ce_34 rfl ?_
  refine tg_get 0 3 C0 dJ5_append_cf1ce_35 (by decide) rfl rfl tu_J4 (by decide) tf_J5_79 rfl rfl rfl ?_
  refine tg_iload_n 0 C0 dJ5_append_cf1ce_38 rfl rfl ?_
  refine tg_iadd C0 dJ5_append_cf1ce_39 ?_
  refine tg_put 0 3 C0 dJ5_append_cf1ce_40 (by decide) rfl rfl tu_J4 tyJ4_ok nmJ4 (by decide) tf_J5_79 rfl rfl rfl rfl rfl rfl ?_
  refine tg_letm (fun v10 _ => ?_)
  refine tg_aload_n 1 C0 dJ5_append_cf1ce_43 rfl rfl ?_
  exact tb_aret C0 dJ5_append_cf1ce_44 ⟨Nat.le_of_eq (Nat.zero_add _), Nat.le_of_eq (Nat.zero_add _)⟩
theorem c_J5_append_cf1ce (l : Launch) {adK adV adE : Nat → Nat} {tC : Nat} (gr : Nat) (κ : Nat) (o1 : Nat) (v : tmM) : tmBr tm_NWC l adK adV adE tC yJ5_append_cf1ce (Cond.code yJ5_append_cf1ce cJ5_append_cf1ce 3 (some (.object "java/lang/AbstractStringBuilder")) :: TMW) ({ frames := 4, cells := gr, slots := 70 * gr, locals := 110 } : Room) (fun a0 b0 => [.ref a0, .ref (adK o1)]) κ v gr (70 * gr) (f_J5_append_cf1ce gr κ o1 v) :=
  tmBr.of (cc := cJ5_append_cf1ce) (nL := 3) (by decide +kernel) rfl tm_NWC_ok (fun _ _ => Nat.le_of_ble_eq_true rfl) (fun p e s m args below meth c A D cy a0 b0 z C0 hE => w_J5_append_cf1ce C0 hE v)
-- ----- J5_setLength_d00df
theorem dJ5_setLength_d00df_0 : decode cJ5_setLength_d00df 0 = .ok (.iload_n 1, 1) := by decide +kernel
theorem dJ5_setLength_d00df_1 : decode cJ5_setLength_d00df 1 = .ok (.ifCond .ge 12, 3) := by decide +kernel
theorem dJ5_setLength_d00df_13 : decode cJ5_setLength_d00df 13 = .ok (.aload_n 0, 1) := by decide +kernel
theorem dJ5_setLength_d00df_14 : decode cJ5_setLength_d00df 14 = .ok (.iload_n 1, 1) := by decide +kernel
theorem dJ5_setLength_d00df_15 : decode cJ5_setLength_d00df 15 = .ok (.invokevirtual 100, 3) := by decide +kernel
theorem dJ5_setLength_d00df_18 : decode cJ5_setLength_d00df 18 = .ok (.aload_n 0, 1) := by decide +kernel
theorem dJ5_setLength_d00df_19 : decode cJ5_setLength_d00df 19 = .ok (.getfield 79, 3) := by decide +kernel
theorem dJ5_setLength_d00df_22 : decode cJ5_setLength_d00df 22 = .ok (.iload_n 1, 1) := by decide +kernel
theorem dJ5_setLength_d00df_23 : decode cJ5_setLength_d00df 23 = .ok (.if_icmp .ge 40, 3) := by decide +kernel
theorem dJ5_setLength_d00df_26 : decode cJ5_setLength_d00df 26 = .ok (.aload_n 0, 1) := by decide +kernel
theorem dJ5_setLength_d00df_27 : decode cJ5_setLength_d00df 27 = .ok (.invokevirtual 83, 3) := by decide +kernel
theorem dJ5_setLength_d00df_30 : decode cJ5_setLength_d00df 30 = .ok (.ifCond .eq 18, 3) := by decide +kernel
theorem dJ5_setLength_d00df_63 : decode cJ5_setLength_d00df 63 = .ok (.aload_n 0, 1) := by decide +kernel
theorem dJ5_setLength_d00df_64 : decode cJ5_setLength_d00df 64 = .ok (.getfield 79, 3) := by decide +kernel
theorem dJ5_setLength_d00df_67 : decode cJ5_setLength_d00df 67 = .ok (.iload_n 1, 1) := by decide +kernel
theorem dJ5_setLength_d00df_68 : decode cJ5_setLength_d00df 68 = .ok (.if_icmp .le 8, 3) := by decide +kernel
theorem dJ5_setLength_d00df_71 : decode cJ5_setLength_d00df 71 = .ok (.aload_n 0, 1) := by decide +kernel
theorem dJ5_setLength_d00df_72 : decode cJ5_setLength_d00df 72 = .ok (.iconst 1, 1) := by decide +kernel
theorem dJ5_setLength_d00df_73 : decode cJ5_setLength_d00df 73 = .ok (.putfield 73, 3) := by decide +kernel
theorem dJ5_setLength_d00df_76 : decode cJ5_setLength_d00df 76 = .ok (.aload_n 0, 1) := by decide +kernel
theorem dJ5_setLength_d00df_77 : decode cJ5_setLength_d00df 77 = .ok (.iload_n 1, 1) := by decide +kernel
theorem dJ5_setLength_d00df_78 : decode cJ5_setLength_d00df 78 = .ok (.putfield 79, 3) := by decide +kernel
theorem dJ5_setLength_d00df_81 : decode cJ5_setLength_d00df 81 = .ok (.return_, 1) := by decide +kernel
theorem tf_J5_73 : Cond.fieldLink RJ5 73 "java/lang/AbstractStringBuilder" (TJ4 2).2.1 (TJ4 2).2.2.1 ∈ TMW := tm_in 340 (by decide +kernel) (by decide +kernel)
def f_J5_setLength_d00df (gr : Nat) (κ : Nat) (x1 : Int32) (v : tmM) : Option (Unit × (Nat × tmM)) := (if 0 ≤ x1 then tm_cb (f_J5_ensureCapacityInternal_d00df gr κ x1 v) fun _ κ3 v1 => (if x1 ≤ (v1 0 3) then (if (v1 0 3) ≤ x1 then tm_lt (tm_up v1 0 3 x1) fun v5 => some ((), (κ3, v5)) else tm_lt (tm_up v1 0 2 1) fun v6 => tm_lt (tm_up v6 0 3 x1) fun v7 => some ((), (κ3, v7))) else tm_cl (f_J5_isLatin1_aae02 κ3 v1) fun r9 v8 => (if r9 = 0 then none else none)) else none)
set_option maxRecDepth 100000 in
set_option maxHeartbeats 4000000 in
theorem w_J5_setLength_d00df {p : Program} {l : Launch} {e : Env} {s : State} {m : MethodId} {args : Array Value} {below : List Frame} {meth : Method} {c : Code} {D : va_G} {cy : Nat → ClassId} {A : Nat → Prop} {adK adV adE : Nat → Nat} {tC : Nat} {a0 b0 : Nat} {z : (Unit × (Nat × tmM))} {gr : Nat} {κ : Nat} (C0 : tmC p s m args meth c cJ5_setLength_d00df 2 none RJ5 TMW tm_NWC D cy (tm_shB κ) (tm_aB a0 b0) 2 [] A) (hE : tmSc adK adV adE tC A s s.heap) (x1 : Int32) (v : tmM) : tmG p l e ({ frames := 4, cells := gr, slots := 70 * gr, locals := 110 } : Room) s m args below meth c 0 0 (MQ below (va_Qv (fun u => z = ((), u)) (tmBt D cy a0 A) A) args s gr (70 * gr) A) 2 D cy (tm_shB κ) (tm_aB a0 b0) 2 [] A z 0 [(0, .ref a0), (1, .int x1)] [] v (f_J5_setLength_d00df gr κ x1 v) := by
  unfold f_J5_setLength_d00df
  refine tg_iload_n 1 C0 dJ5_setLength_d00df_0 rfl rfl ?_
  refine tg_if_ge 13 C0 dJ5_setLength_d00df_1 (by decide) (fun _ => ?_) (fun _ => ?_)
  · refine tg_aload_n 0 C0 dJ5_setLength_d00df_13 rfl rfl ?_
    refine tg_iload_n 1 C0 dJ5_setLength_d00df_14 rfl rfl ?_
    refine tb_callPv (As := [.int x1]) 1 C0 hE dJ5_setLength_d00df_15 (c_J5_ensureCapacityInternal_d00df l gr κ x1 v) rfl rfl (tm_gc tc_J5_ensureCapacityInternal_d00df) tl_J5_100 tn_J5 ti_J5_ensureCapacityInternal_d00df (fun hts => hts _ (tm_inB 0 rfl (by decide +kernel))) rfl rfl rfl rfl ⟨by decide, by decide, by decide +kernel⟩ ⟨Nat.le_of_ble_eq_true rfl, Nat.le_of_ble_eq_true rfl⟩ (Nat.le_of_ble_eq_true rfl) ⟨Nat.le_of_eq (Nat.zero_add _), Nat.le_of_eq (Nat.zero_add _)⟩ (fun κ3 v1 b4 C0 _ => ?_)
    refine tg_aload_n 0 C0 dJ5_setLength_d00df_18 rfl rfl ?_
    refine tg_get 0 3 C0 dJ5_setLength_d00df_19 (by decide) rfl rfl tu_J4 (by decide) tf_J5_79 rfl rfl rfl ?_
    refine tg_iload_n 1 C0 dJ5_setLength_d00df_22 rfl rfl ?_
    refine tg_icmp_ge 63 C0 dJ5_setLength_d00df_23 (by decide) (fun _ => ?_) (fun _ => ?_)
    · refine tg_aload_n 0 C0 dJ5_setLength_d00df_63 rfl rfl ?_
      refine tg_get 0 3 C0 dJ5_setLength_d00df_64 (by decide) rfl rfl tu_J4 (by decide) tf_J5_79 rfl rfl rfl ?_
      refine tg_iload_n 1 C0 dJ5_setLength_d00df_67 rfl rfl ?_
      refine tg_icmp_le 76 C0 dJ5_setLength_d00df_68 (by decide) (fun _ => ?_) (fun _ => ?_)
      · refine tg_aload_n 0 C0 dJ5_setLength_d00df_76 rfl rfl ?_
        refine tg_iload_n 1 C0 dJ5_setLength_d00df_77 rfl rfl ?_
        refine tg_put 0 3 C0 dJ5_setLength_d00df_78 (by decide) rfl rfl tu_J4 tyJ4_ok nmJ4 (by decide) tf_J5_79 rfl rfl rfl rfl rfl rfl ?_
        refine tg_letm (fun v5 _ => ?_)
        exact tb_vret C0 dJ5_setLength_d00df_81 ⟨Nat.le_of_eq (Nat.zero_add _), Nat.le_of_eq (Nat.zero_add _)⟩
      · refine tg_aload_n 0 C0 dJ5_setLength_d00df_71 rfl rfl ?_
        refine tg_iconst (x := 1) C0 dJ5_setLength_d00df_72 (by decide) ?_
        refine tg_put 0 2 C0 dJ5_setLength_d00df_73 (by decide) rfl rfl tu_J4 tyJ4_ok nmJ4 (by decide) tf_J5_73 rfl rfl rfl rfl rfl rfl ?_
        refine tg_letm (fun v6 _ => ?_)
        refine tg_aload_n 0 C0 dJ5_setLength_d00df_76 rfl rfl ?_
        refine tg_iload_n 1 C0 dJ5_setLength_d00df_77 rfl rfl ?_
        refine tg_put 0 3 C0 dJ5_setLength_d00df_78 (by decide) rfl rfl tu_J4 tyJ4_ok nmJ4 (by decide) tf_J5_79 rfl rfl rfl rfl rfl rfl ?_
        refine tg_letm (fun v7 _ => ?_)
        exact tb_vret C0 dJ5_setLength_d00df_81 ⟨Nat.le_of_eq (Nat.zero_add _), Nat.le_of_eq (Nat.zero_add _)⟩
    · refine tg_aload_n 0 C0 dJ5_setLength_d00df_26 rfl rfl ?_
      refine tp_callPi (As := []) 0 C0 hE dJ5_setLength_d00df_27 (c_J5_isLatin1_aae02 l κ3 v1) rfl rfl (tm_gc tc_J5_isLatin1_aae02) tl_J5_83 tn_J5 ti_J5_isLatin1_aae02 (fun hts => hts _ ts_J5_isLatin1_aae02) rfl rfl rfl rfl ⟨by decide, by decide, by decide +kernel⟩ ⟨Nat.le_of_ble_eq_true rfl, Nat.le_of_ble_eq_true rfl⟩ (Nat.le_of_ble_eq_true rfl) ⟨Nat.le_of_eq (Nat.zero_add _), Nat.le_of_eq (Nat.zero_add _)⟩ (fun r9 v8 _ => ?_)
      refine tg_if_eq 48 C0 dJ5_setLength_d00df_30 (by decide) (fun _ => ?_) (fun _ => ?_)
      · exact tg_none
      · exact tg_none
  · exact tg_none
theorem c_J5_setLength_d00df (l : Launch) {adK adV adE : Nat → Nat} {tC : Nat} (gr : Nat) (κ : Nat) (x1 : Int32) (v : tmM) : tmBv tm_NWC l adK adV adE tC yJ5_setLength_d00df (Cond.code yJ5_setLength_d00df cJ5_setLength_d00df 2 none :: TMW) ({ frames := 4, cells := gr, slots := 70 * gr, locals := 110 } : Room) (fun a0 b0 => [.ref a0, .int x1]) κ v gr (70 * gr) (f_J5_setLength_d00df gr κ x1 v) :=
  tmBv.of (cc := cJ5_setLength_d00df) (nL := 2) (by decide +kernel) rfl tm_NWC_ok (fun _ _ => Nat.le_of_ble_eq_true rfl) (fun p e s m args below meth c A D cy a0 b0 z C0 hE => w_J5_setLength_d00df C0 hE x1 v)
-- ----- J4_append_cf468
theorem dJ4_append_cf468_0 : decode cJ4_append_cf468 0 = .ok (.aload_n 0, 1) := by decide +kernel
theorem dJ4_append_cf468_1 : decode cJ4_append_cf468 1 = .ok (.iload_n 1, 1) := by decide +kernel
theorem dJ4_append_cf468_2 : decode cJ4_append_cf468 2 = .ok (.invokespecial 50, 3) := by decide +kernel
theorem dJ4_append_cf468_5 : decode cJ4_append_cf468 5 = .ok (.pop, 1) := by decide +kernel
theorem dJ4_append_cf468_6 : decode cJ4_append_cf468 6 = .ok (.aload_n 0, 1) := by decide +kernel
theorem dJ4_append_cf468_7 : decode cJ4_append_cf468 7 = .ok (.areturn, 1) := by decide +kernel
theorem tsm_J5_append_3fe6f : Cond.sameMethod yJ5_append_3fe6f.cls yJ5_append_3fe6f.cls yJ5_append_3fe6f.name yJ5_append_3fe6f.desc ∈ TMW := tm_in 2169 (by decide +kernel) (by decide +kernel)
theorem tl_J4_50 : Cond.methodLink RJ4 50 yJ5_append_3fe6f ∈ TMW := tm_in 1514 (by decide +kernel) (by decide +kernel)
theorem ti_J5_append_3fe6f : Cond.instanceMethod yJ5_append_3fe6f ∈ TMW := tm_in 1515 (by decide +kernel) (by decide +kernel)
theorem tc_J5_append_3fe6f : Cond.code yJ5_append_3fe6f cJ5_append_3fe6f 2 (some (.object "java/lang/AbstractStringBuilder")) ∈ TMW := tm_in 1516 (by decide +kernel) (by decide +kernel)
def f_J4_append_cf468 (gr : Nat) (κ : Nat) (x1 : Int32) (v : tmM) : Option (Unit × (Nat × tmM)) := tm_cb (f_J5_append_3fe6f gr κ x1 v) fun _ κ3 v1 => some ((), (κ3, v1))
set_option maxRecDepth 100000 in
set_option maxHeartbeats 4000000 in
theorem w_J4_append_cf468 {p : Program} {l : Launch} {e : Env} {s : State} {m : MethodId} {args : Array Value} {below : List Frame} {meth : Method} {c : Code} {D : va_G} {cy : Nat → ClassId} {A : Nat → Prop} {adK adV adE : Nat → Nat} {tC : Nat} {a0 b0 : Nat} {z : (Unit × (Nat × tmM))} {gr : Nat} {κ : Nat} (C0 : tmC p s m args meth c cJ4_append_cf468 2 (some (.object "java/lang/StringBuilder")) RJ4 TMW tm_NWC D cy (tm_shB κ) (tm_aB a0 b0) 2 [] A) (hE : tmSc adK adV adE tC A s s.heap) (x1 : Int32) (v : tmM) : tmG p l e ({ frames := 5, cells := gr, slots := 70 * gr, locals := 131 } : Room) s m args below meth c 0 0 (MQ below (va_Qr (fun u => z = ((), u)) (fun u a t => a = a0 ∧ tmBt D cy a0 A u t) A) args s gr (70 * gr) A) 2 D cy (tm_shB κ) (tm_aB a0 b0) 2 [] A z 0 [(0, .ref a0), (1, .int x1)] [] v (f_J4_append_cf468 gr κ x1 v) := by
  unfold f_J4_append_cf468
  refine tg_aload_n 0 C0 dJ4_append_cf468_0 rfl rfl ?_
  refine tg_iload_n 1 C0 dJ4_append_cf468_1 rfl rfl ?_
  refine tb_callUr (As := [.int x1]) 1 C0 hE dJ4_append_cf468_2 (c_J5_append_3fe6f l gr κ x1 v) rfl rfl (tm_gSU tl_J4_50 tsm_J5_append_3fe6f tsu_J4_J5 ti_J5_append_3fe6f tn_J5 tc_J5_append_3fe6f) rfl rfl rfl rfl ⟨by decide, by decide +kernel⟩ ⟨Nat.le_of_ble_eq_true rfl, Nat.le_of_ble_eq_true rfl⟩ (Nat.le_of_ble_eq_true rfl) ⟨Nat.le_of_eq (Nat.zero_add _), Nat.le_of_eq (Nat.zero_add _)⟩ (fun κ3 v1 b4 C0 _ => ?_)
  refine tg_pop C0 dJ4_append_cf468_5 rfl ?_
  refine tg_aload_n 0 C0 dJ4_append_cf468_6 rfl rfl ?_
  exact tb_aret C0 dJ4_append_cf468_7 ⟨Nat.le_of_eq (Nat.zero_add _), Nat.le_of_eq (Nat.zero_add _)⟩
theorem c_J4_append_cf468 (l : Launch) {adK adV adE : Nat → Nat} {tC : Nat} (gr : Nat) (κ : Nat) (x1 : Int32) (v : tmM) : tmBr tm_NWC l adK adV adE tC yJ4_append_cf468 (Cond.code yJ4_append_cf468 cJ4_append_cf468 2 (some (.object "java/lang/StringBuilder")) :: TMW) ({ frames := 5, cells := gr, slots := 70 * gr, locals := 131 } : Room) (fun a0 b0 => [.ref a0, .int x1]) κ v gr (70 * gr) (f_J4_append_cf468 gr κ x1 v) :=
  tmBr.of (cc := cJ4_append_cf468) (nL := 2) (by decide +kernel) rfl tm_NWC_ok (fun _ _ => Nat.le_of_ble_eq_true rfl) (fun p e s m args below meth c A D cy a0 b0 z C0 hE => w_J4_append_cf468 C0 hE x1 v)
-- ----- J4_append_bf812
theorem dJ4_append_bf812_0 : decode cJ4_append_bf812 0 = .ok (.aload_n 0, 1) := by decide +kernel
theorem dJ4_append_bf812_1 : decode cJ4_append_bf812 1 = .ok (.iload_n 1, 1) := by decide +kernel
theorem dJ4_append_bf812_2 : decode cJ4_append_bf812 2 = .ok (.invokespecial 53, 3) := by decide +kernel
theorem dJ4_append_bf812_5 : decode cJ4_append_bf812 5 = .ok (.pop, 1) := by decide +kernel
theorem dJ4_append_bf812_6 : decode cJ4_append_bf812 6 = .ok (.aload_n 0, 1) := by decide +kernel
theorem dJ4_append_bf812_7 : decode cJ4_append_bf812 7 = .ok (.areturn, 1) := by decide +kernel
theorem tsm_J5_append_c97b9 : Cond.sameMethod yJ5_append_c97b9.cls yJ5_append_c97b9.cls yJ5_append_c97b9.name yJ5_append_c97b9.desc ∈ TMW := tm_in 2167 (by decide +kernel) (by decide +kernel)
theorem tl_J4_53 : Cond.methodLink RJ4 53 yJ5_append_c97b9 ∈ TMW := tm_in 1374 (by decide +kernel) (by decide +kernel)
theorem ti_J5_append_c97b9 : Cond.instanceMethod yJ5_append_c97b9 ∈ TMW := tm_in 1375 (by decide +kernel) (by decide +kernel)
theorem tc_J5_append_c97b9 : Cond.code yJ5_append_c97b9 cJ5_append_c97b9 4 (some (.object "java/lang/AbstractStringBuilder")) ∈ TMW := tm_in 1376 (by decide +kernel) (by decide +kernel)
def f_J4_append_bf812 (gr : Nat) (κ : Nat) (x1 : Int32) (v : tmM) : Option (Unit × (Nat × tmM)) := tm_cb (f_J5_append_c97b9 gr κ x1 v) fun _ κ3 v1 => some ((), (κ3, v1))
set_option maxRecDepth 100000 in
set_option maxHeartbeats 4000000 in
theorem w_J4_append_bf812 {p : Program} {l : Launch} {e : Env} {s : State} {m : MethodId} {args : Array Value} {below : List Frame} {meth : Method} {c : Code} {D : va_G} {cy : Nat → ClassId} {A : Nat → Prop} {adK adV adE : Nat → Nat} {tC : Nat} {a0 b0 : Nat} {z : (Unit × (Nat × tmM))} {gr : Nat} {κ : Nat} (C0 : tmC p s m args meth c cJ4_append_bf812 2 (some (.object "java/lang/StringBuilder")) RJ4 TMW tm_NWC D cy (tm_shB κ) (tm_aB a0 b0) 2 [] A) (hE : tmSc adK adV adE tC A s s.heap) (x1 : Int32) (v : tmM) : tmG p l e ({ frames := 5, cells := gr, slots := 70 * gr, locals := 133 } : Room) s m args below meth c 0 0 (MQ below (va_Qr (fun u => z = ((), u)) (fun u a t => a = a0 ∧ tmBt D cy a0 A u t) A) args s gr (70 * gr) A) 2 D cy (tm_shB κ) (tm_aB a0 b0) 2 [] A z 0 [(0, .ref a0), (1, .int x1)] [] v (f_J4_append_bf812 gr κ x1 v) := by
  unfold f_J4_append_bf812
  refine tg_aload_n 0 C0 dJ4_append_bf812_0 rfl rfl ?_
  refine tg_iload_n 1 C0 dJ4_append_bf812_1 rfl rfl ?_
  refine tb_callUr (As := [.int x1]) 1 C0 hE dJ4_append_bf812_2 (c_J5_append_c97b9 l gr κ x1 v) rfl rfl (tm_gSU tl_J4_53 tsm_J5_append_c97b9 tsu_J4_J5 ti_J5_append_c97b9 tn_J5 tc_J5_append_c97b9) rfl rfl rfl rfl ⟨by decide, by decide +kernel⟩ ⟨Nat.le_of_ble_eq_true rfl, Nat.le_of_ble_eq_true rfl⟩ (Nat.le_of_ble_eq_true rfl) ⟨Nat.le_of_eq (Nat.zero_add _), Nat.le_of_eq (Nat.zero_add _)⟩ (fun κ3 v1 b4 C0 _ => ?_)
  refine tg_pop C0 dJ4_append_bf812_5 rfl ?_
  refine tg_aload_n 0 C0 dJ4_append_bf812_6 rfl rfl ?_
  exact tb_aret C0 dJ4_append_bf812_7 ⟨Nat.le_of_eq (Nat.zero_add _), Nat.le_of_eq (Nat.zero_add _)⟩
theorem c_J4_append_bf812 (l : Launch) {adK adV adE : Nat → Nat} {tC : Nat} (gr : Nat) (κ : Nat) (x1 : Int32) (v : tmM) : tmBr tm_NWC l adK adV adE tC yJ4_append_bf812 (Cond.code yJ4_append_bf812 cJ4_append_bf812 2 (some (.object "java/lang/StringBuilder")) :: TMW) ({ frames := 5, cells := gr, slots := 70 * gr, locals := 133 } : Room) (fun a0 b0 => [.ref a0, .int x1]) κ v gr (70 * gr) (f_J4_append_bf812 gr κ x1 v) :=
  tmBr.of (cc := cJ4_append_bf812) (nL := 2) (by decide +kernel) rfl tm_NWC_ok (fun _ _ => Nat.le_of_ble_eq_true rfl) (fun p e s m args below meth c A D cy a0 b0 z C0 hE => w_J4_append_bf812 C0 hE x1 v)
-- ----- J4_append_15ec4
theorem dJ4_append_15ec4_0 : decode cJ4_append_15ec4 0 = .ok (.aload_n 0, 1) := by decide +kernel
theorem dJ4_append_15ec4_1 : decode cJ4_append_15ec4 1 = .ok (.aload_n 1, 1) := by decide +kernel
theorem dJ4_append_15ec4_2 : decode cJ4_append_15ec4 2 = .ok (.invokespecial 29, 3) := by decide +kernel
theorem dJ4_append_15ec4_5 : decode cJ4_append_15ec4 5 = .ok (.pop, 1) := by decide +kernel
theorem dJ4_append_15ec4_6 : decode cJ4_append_15ec4 6 = .ok (.aload_n 0, 1) := by decide +kernel
theorem dJ4_append_15ec4_7 : decode cJ4_append_15ec4 7 = .ok (.areturn, 1) := by decide +kernel
theorem tsm_J5_append_cf1ce : Cond.sameMethod yJ5_append_cf1ce.cls yJ5_append_cf1ce.cls yJ5_append_cf1ce.name yJ5_append_cf1ce.desc ∈ TMW := tm_in 2160 (by decide +kernel) (by decide +kernel)
theorem tl_J4_29 : Cond.methodLink RJ4 29 yJ5_append_cf1ce ∈ TMW := tm_in 1279 (by decide +kernel) (by decide +kernel)
theorem ti_J5_append_cf1ce : Cond.instanceMethod yJ5_append_cf1ce ∈ TMW := tm_in 1280 (by decide +kernel) (by decide +kernel)
theorem tc_J5_append_cf1ce : Cond.code yJ5_append_cf1ce cJ5_append_cf1ce 3 (some (.object "java/lang/AbstractStringBuilder")) ∈ TMW := tm_in 1281 (by decide +kernel) (by decide +kernel)
def f_J4_append_15ec4 (gr : Nat) (κ : Nat) (o1 : Nat) (v : tmM) : Option (Unit × (Nat × tmM)) := tm_cb (f_J5_append_cf1ce gr κ o1 v) fun _ κ3 v1 => some ((), (κ3, v1))
set_option maxRecDepth 100000 in
set_option maxHeartbeats 4000000 in
theorem w_J4_append_15ec4 {p : Program} {l : Launch} {e : Env} {s : State} {m : MethodId} {args : Array Value} {below : List Frame} {meth : Method} {c : Code} {D : va_G} {cy : Nat → ClassId} {A : Nat → Prop} {adK adV adE : Nat → Nat} {tC : Nat} {a0 b0 : Nat} {z : (Unit × (Nat × tmM))} {gr : Nat} {κ : Nat} {o1 : Nat} (C0 : tmC p s m args meth c cJ4_append_15ec4 2 (some (.object "java/lang/StringBuilder")) RJ4 TMW tm_NWC D cy (tm_shB κ) (tm_aB a0 b0) 2 [] A) (hE : tmSc adK adV adE tC A s s.heap) (v : tmM) : tmG p l e ({ frames := 5, cells := gr, slots := 70 * gr, locals := 132 } : Room) s m args below meth c 0 0 (MQ below (va_Qr (fun u => z = ((), u)) (fun u a t => a = a0 ∧ tmBt D cy a0 A u t) A) args s gr (70 * gr) A) 2 D cy (tm_shB κ) (tm_aB a0 b0) 2 [] A z 0 [(0, .ref a0), (1, .ref (adK o1))] [] v (f_J4_append_15ec4 gr κ o1 v) := by
  unfold f_J4_append_15ec4
  refine tg_aload_n 0 C0 dJ4_append_15ec4_0 rfl rfl ?_
  refine tg_aload_n 1 C0 dJ4_append_15ec4_1 rfl rfl ?_
  refine tb_callUr (As := [.ref (adK o1)]) 1 C0 hE dJ4_append_15ec4_2 (c_J5_append_cf1ce l gr κ o1 v) rfl rfl (tm_gSU tl_J4_29 tsm_J5_append_cf1ce tsu_J4_J5 ti_J5_append_cf1ce tn_J5 tc_J5_append_cf1ce) rfl rfl rfl rfl ⟨by decide, by decide +kernel⟩ ⟨Nat.le_of_ble_eq_true rfl, Nat.le_of_ble_eq_true rfl⟩ (Nat.le_of_ble_eq_true rfl) ⟨Nat.le_of_eq (Nat.zero_add _), Nat.le_of_eq (Nat.zero_add _)⟩ (fun κ3 v1 b4 C0 _ => ?_)
  refine tg_pop C0 dJ4_append_15ec4_5 rfl ?_
  refine tg_aload_n 0 C0 dJ4_append_15ec4_6 rfl rfl ?_
  exact tb_aret C0 dJ4_append_15ec4_7 ⟨Nat.le_of_eq (Nat.zero_add _), Nat.le_of_eq (Nat.zero_add _)⟩
theorem c_J4_append_15ec4 (l : Launch) {adK adV adE : Nat → Nat} {tC : Nat} (gr : Nat) (κ : Nat) (o1 : Nat) (v : tmM) : tmBr tm_NWC l adK adV adE tC yJ4_append_15ec4 (Cond.code yJ4_append_15ec4 cJ4_append_15ec4 2 (some (.object "java/lang/StringBuilder")) :: TMW) ({ frames := 5, cells := gr, slots := 70 * gr, locals := 132 } : Room) (fun a0 b0 => [.ref a0, .ref (adK o1)]) κ v gr (70 * gr) (f_J4_append_15ec4 gr κ o1 v) :=
  tmBr.of (cc := cJ4_append_15ec4) (nL := 2) (by decide +kernel) rfl tm_NWC_ok (fun _ _ => Nat.le_of_ble_eq_true rfl) (fun p e s m args below meth c A D cy a0 b0 z C0 hE => w_J4_append_15ec4 C0 hE v)
-- ----- J4_setLength_d00df
theorem dJ4_setLength_d00df_0 : decode cJ4_setLength_d00df 0 = .ok (.aload_n 0, 1) := by decide +kernel
theorem dJ4_setLength_d00df_1 : decode cJ4_setLength_d00df 1 = .ok (.iload_n 1, 1) := by decide +kernel
theorem dJ4_setLength_d00df_2 : decode cJ4_setLength_d00df 2 = .ok (.invokespecial 333, 3) := by decide +kernel
theorem dJ4_setLength_d00df_5 : decode cJ4_setLength_d00df 5 = .ok (.return_, 1) := by decide +kernel
theorem tsm_J5_setLength_d00df : Cond.sameMethod yJ5_setLength_d00df.cls yJ5_setLength_d00df.cls yJ5_setLength_d00df.name yJ5_setLength_d00df.desc ∈ TMW := tm_in 2159 (by decide +kernel) (by decide +kernel)
theorem tl_J4_333 : Cond.methodLink RJ4 333 yJ5_setLength_d00df ∈ TMW := tm_in 1264 (by decide +kernel) (by decide +kernel)
theorem ti_J5_setLength_d00df : Cond.instanceMethod yJ5_setLength_d00df ∈ TMW := tm_in 1265 (by decide +kernel) (by decide +kernel)
theorem tc_J5_setLength_d00df : Cond.code yJ5_setLength_d00df cJ5_setLength_d00df 2 none ∈ TMW := tm_in 1266 (by decide +kernel) (by decide +kernel)
def f_J4_setLength_d00df (gr : Nat) (κ : Nat) (x1 : Int32) (v : tmM) : Option (Unit × (Nat × tmM)) := tm_cb (f_J5_setLength_d00df gr κ x1 v) fun _ κ3 v1 => some ((), (κ3, v1))
set_option maxRecDepth 100000 in
set_option maxHeartbeats 4000000 in
theorem w_J4_setLength_d00df {p : Program} {l : Launch} {e : Env} {s : State} {m : MethodId} {args : Array Value} {below : List Frame} {meth : Method} {c : Code} {D : va_G} {cy : Nat → ClassId} {A : Nat → Prop} {adK adV adE : Nat → Nat} {tC : Nat} {a0 b0 : Nat} {z : (Unit × (Nat × tmM))} {gr : Nat} {κ : Nat} (C0 : tmC p s m args meth c cJ4_setLength_d00df 2 none RJ4 TMW tm_NWC D cy (tm_shB κ) (tm_aB a0 b0) 2 [] A) (hE : tmSc adK adV adE tC A s s.heap) (x1 : Int32) (v : tmM) : tmG p l e ({ frames := 5, cells := gr, slots := 70 * gr, locals := 131 } : Room) s m args below meth c 0 0 (MQ below (va_Qv (fun u => z = ((), u)) (tmBt D cy a0 A) A) args s gr (70 * gr) A) 2 D cy (tm_shB κ) (tm_aB a0 b0) 2 [] A z 0 [(0, .ref a0), (1, .int x1)] [] v (f_J4_setLength_d00df gr κ x1 v) := by
  unfold f_J4_setLength_d00df
  refine tg_aload_n 0 C0 dJ4_setLength_d00df_0 rfl rfl ?_
  refine tg_iload_n 1 C0 dJ4_setLength_d00df_1 rfl rfl ?_
  refine tb_callUv (As := [.int x1]) 1 C0 hE dJ4_setLength_d00df_2 (c_J5_setLength_d00df l gr κ x1 v) rfl rfl (tm_gSU tl_J4_333 tsm_J5_setLength_d00df tsu_J4_J5 ti_J5_setLength_d00df tn_J5 tc_J5_setLength_d00df) rfl rfl rfl rfl ⟨by decide, by decide +kernel⟩ ⟨Nat.le_of_ble_eq_true rfl, Nat.le_of_ble_eq_true rfl⟩ (Nat.le_of_ble_eq_true rfl) ⟨Nat.le_of_eq (Nat.zero_add _), Nat.le_of_eq (Nat.zero_add _)⟩ (fun κ3 v1 b4 C0 _ => ?_)
  exact tb_vret C0 dJ4_setLength_d00df_5 ⟨Nat.le_of_eq (Nat.zero_add _), Nat.le_of_eq (Nat.zero_add _)⟩
theorem c_J4_setLength_d00df (l : Launch) {adK adV adE : Nat → Nat} {tC : Nat} (gr : Nat) (κ : Nat) (x1 : Int32) (v : tmM) : tmBv tm_NWC l adK adV adE tC yJ4_setLength_d00df (Cond.code yJ4_setLength_d00df cJ4_setLength_d00df 2 none :: TMW) ({ frames := 5, cells := gr, slots := 70 * gr, locals := 131 } : Room) (fun a0 b0 => [.ref a0, .int x1]) κ v gr (70 * gr) (f_J4_setLength_d00df gr κ x1 v) :=
  tmBv.of (cc := cJ4_setLength_d00df) (nL := 2) (by decide +kernel) rfl tm_NWC_ok (fun _ _ => Nat.le_of_ble_eq_true rfl) (fun p e s m args below meth c A D cy a0 b0 z C0 hE => w_J4_setLength_d00df C0 hE x1 v)
