-- ----- J0_coder_7d493
theorem dJ0_coder_7d493_0 : decode cJ0_coder_7d493 0 = .ok (.getstatic 38, 3) := by decide +kernel
theorem dJ0_coder_7d493_3 : decode cJ0_coder_7d493 3 = .ok (.ifCond .eq 10, 3) := by decide +kernel
theorem dJ0_coder_7d493_6 : decode cJ0_coder_7d493 6 = .ok (.aload_n 0, 1) := by decide +kernel
theorem dJ0_coder_7d493_7 : decode cJ0_coder_7d493 7 = .ok (.getfield 15, 3) := by decide +kernel
theorem dJ0_coder_7d493_10 : decode cJ0_coder_7d493 10 = .ok (.goto 4, 3) := by decide +kernel
theorem dJ0_coder_7d493_13 : decode cJ0_coder_7d493 13 = .ok (.iconst 1, 1) := by decide +kernel
theorem dJ0_coder_7d493_14 : decode cJ0_coder_7d493 14 = .ok (.ireturn, 1) := by decide +kernel
theorem tf_J0_38 : Cond.fieldLink RJ0 38 "java/lang/String" "COMPACT_STRINGS" "Z" ∈ TMW := tm_in 418 (by decide +kernel) (by decide +kernel)
theorem tf_J0_15 : Cond.fieldLink RJ0 15 "java/lang/String" "coder" "B" ∈ TMW := tm_in 1443 (by decide +kernel) (by decide +kernel)
def f_J0_coder_7d493 (o0 : Nat) (v : tmM) : Option (Int32 × tmM) := (if (1 : Int32) = 0 then some (1, v) else tm_g (decide (o0 < 15)) (some (0, v)))
set_option maxRecDepth 100000 in
set_option maxHeartbeats 4000000 in
theorem w_J0_coder_7d493 {p : Program} {l : Launch} {e : Env} {s : State} {m : MethodId} {args : Array Value} {below : List Frame} {meth : Method} {c : Code} {D : va_G} {cy : Nat → ClassId} {ad : Nat → Nat} {A : Nat → Prop} {adK adV adE : Nat → Nat} {tC : Nat} {shW : Nat → tmE} {nW : Nat} {z : (Int32 × tmM)} {o0 : Nat} (C0 : tmC p s m args meth c cJ0_coder_7d493 1 (some .byte) RJ0 TMW tm_NWC D cy shW ad nW [] A) (hE : tmSc adK adV adE tC A s s.heap) (v : tmM) : tmG p l e ({ frames := 0, cells := 0, slots := 0, locals := 0 } : Room) s m args below meth c 0 0 (MQ below (va_Qi (fun r u => z = (r, u)) (tmAt shW nW D cy ad A) A) args s 0 0 A) 1 D cy shW ad nW [] A z 0 [(0, .ref (adK o0))] [] v (f_J0_coder_7d493 o0 v) := by
  unfold f_J0_coder_7d493
  refine ty_ogs C0 dJ0_coder_7d493_0 hE.2.1 tf_J0_38 rfl ?_
  refine tg_if_eq 13 C0 dJ0_coder_7d493_3 (by decide) (fun _ => ?_) (fun _ => ?_)
  · refine tg_iconst (x := 1) C0 dJ0_coder_7d493_13 (by decide) ?_
    exact tg_zret C0 dJ0_coder_7d493_14 rfl
  · refine tg_aload_n 0 C0 dJ0_coder_7d493_6 rfl rfl ?_
    refine tg_g (fun h1 => ?_)
    refine ty_oget C0 dJ0_coder_7d493_7 (hE.1.1 o0 (of_decide_eq_true h1)).2.1 tf_J0_15 rfl ?_
    refine tg_goto 14 C0 dJ0_coder_7d493_10 (by decide) ?_
    exact tg_zret C0 dJ0_coder_7d493_14 rfl
theorem c_J0_coder_7d493 (l : Launch) {adK adV adE : Nat → Nat} {tC : Nat} {shW : Nat → tmE} {nW : Nat} (o0 : Nat) (v : tmM) : tmYi tm_NWC shW nW l adK adV adE tC yJ0_coder_7d493 (Cond.code yJ0_coder_7d493 cJ0_coder_7d493 1 (some .byte) :: TMW) ({ frames := 0, cells := 0, slots := 0, locals := 0 } : Room) (fun ad => [.ref (adK o0)]) v (f_J0_coder_7d493 o0 v) := by
  exact tmYi.of (cc := cJ0_coder_7d493) (nL := 1) (by decide +kernel) rfl tm_NWC_ok (fun _ => Nat.le_of_ble_eq_true rfl) (fun p e s m args below meth c A D cy ad z C0 hE => w_J0_coder_7d493 C0 hE v)
-- ----- J0_isLatin1_aae02
theorem dJ0_isLatin1_aae02_0 : decode cJ0_isLatin1_aae02 0 = .ok (.getstatic 38, 3) := by decide +kernel
theorem dJ0_isLatin1_aae02_3 : decode cJ0_isLatin1_aae02 3 = .ok (.ifCond .eq 14, 3) := by decide +kernel
theorem dJ0_isLatin1_aae02_6 : decode cJ0_isLatin1_aae02 6 = .ok (.aload_n 0, 1) := by decide +kernel
theorem dJ0_isLatin1_aae02_7 : decode cJ0_isLatin1_aae02 7 = .ok (.getfield 15, 3) := by decide +kernel
theorem dJ0_isLatin1_aae02_10 : decode cJ0_isLatin1_aae02 10 = .ok (.ifCond .ne 7, 3) := by decide +kernel
theorem dJ0_isLatin1_aae02_13 : decode cJ0_isLatin1_aae02 13 = .ok (.iconst 1, 1) := by decide +kernel
theorem dJ0_isLatin1_aae02_14 : decode cJ0_isLatin1_aae02 14 = .ok (.goto 4, 3) := by decide +kernel
theorem dJ0_isLatin1_aae02_17 : decode cJ0_isLatin1_aae02 17 = .ok (.iconst 0, 1) := by decide +kernel
theorem dJ0_isLatin1_aae02_18 : decode cJ0_isLatin1_aae02 18 = .ok (.ireturn, 1) := by decide +kernel
def f_J0_isLatin1_aae02 (o0 : Nat) (v : tmM) : Option (Int32 × tmM) := (if (1 : Int32) = 0 then some (0, v) else tm_g (decide (o0 < 15)) ((if (0 : Int32) = 0 then some (1, v) else some (0, v))))
set_option maxRecDepth 100000 in
set_option maxHeartbeats 4000000 in
theorem w_J0_isLatin1_aae02 {p : Program} {l : Launch} {e : Env} {s : State} {m : MethodId} {args : Array Value} {below : List Frame} {meth : Method} {c : Code} {D : va_G} {cy : Nat → ClassId} {ad : Nat → Nat} {A : Nat → Prop} {adK adV adE : Nat → Nat} {tC : Nat} {shW : Nat → tmE} {nW : Nat} {z : (Int32 × tmM)} {o0 : Nat} (C0 : tmC p s m args meth c cJ0_isLatin1_aae02 1 (some .boolean) RJ0 TMW tm_NWC D cy shW ad nW [] A) (hE : tmSc adK adV adE tC A s s.heap) (v : tmM) : tmG p l e ({ frames := 0, cells := 0, slots := 0, locals := 0 } : Room) s m args below meth c 0 0 (MQ below (va_Qi (fun r u => z = (r, u)) (tmAt shW nW D cy ad A) A) args s 0 0 A) 1 D cy shW ad nW [] A z 0 [(0, .ref (adK o0))] [] v (f_J0_isLatin1_aae02 o0 v) := by
  unfold f_J0_isLatin1_aae02
  refine ty_ogs C0 dJ0_isLatin1_aae02_0 hE.2.1 tf_J0_38 rfl ?_
  refine tg_if_eq 17 C0 dJ0_isLatin1_aae02_3 (by decide) (fun _ => ?_) (fun _ => ?_)
  · refine tg_iconst (x := 0) C0 dJ0_isLatin1_aae02_17 (by decide) ?_
    exact tg_zret C0 dJ0_isLatin1_aae02_18 rfl
  · refine tg_aload_n 0 C0 dJ0_isLatin1_aae02_6 rfl rfl ?_
    refine tg_g (fun h1 => ?_)
    refine ty_oget C0 dJ0_isLatin1_aae02_7 (hE.1.1 o0 (of_decide_eq_true h1)).2.1 tf_J0_15 rfl ?_
    refine tg_if_ne 17 C0 dJ0_isLatin1_aae02_10 (by decide) (fun _ => ?_) (fun _ => ?_)
    · refine tg_iconst (x := 0) C0 dJ0_isLatin1_aae02_17 (by decide) ?_
      exact tg_zret C0 dJ0_isLatin1_aae02_18 rfl
    · refine tg_iconst (x := 1) C0 dJ0_isLatin1_aae02_13 (by decide) ?_
      refine tg_goto 18 C0 dJ0_isLatin1_aae02_14 (by decide) ?_
      exact tg_zret C0 dJ0_isLatin1_aae02_18 rfl
theorem c_J0_isLatin1_aae02 (l : Launch) {adK adV adE : Nat → Nat} {tC : Nat} {shW : Nat → tmE} {nW : Nat} (o0 : Nat) (v : tmM) : tmYi tm_NWC shW nW l adK adV adE tC yJ0_isLatin1_aae02 (Cond.code yJ0_isLatin1_aae02 cJ0_isLatin1_aae02 1 (some .boolean) :: TMW) ({ frames := 0, cells := 0, slots := 0, locals := 0 } : Room) (fun ad => [.ref (adK o0)]) v (f_J0_isLatin1_aae02 o0 v) := by
  exact tmYi.of (cc := cJ0_isLatin1_aae02) (nL := 1) (by decide +kernel) rfl tm_NWC_ok (fun _ => Nat.le_of_ble_eq_true rfl) (fun p e s m args below meth c A D cy ad z C0 hE => w_J0_isLatin1_aae02 C0 hE v)
-- ----- J0_length_8abf5
theorem dJ0_length_8abf5_0 : decode cJ0_length_8abf5 0 = .ok (.aload_n 0, 1) := by decide +kernel
theorem dJ0_length_8abf5_1 : decode cJ0_length_8abf5 1 = .ok (.getfield 9, 3) := by decide +kernel
theorem dJ0_length_8abf5_4 : decode cJ0_length_8abf5 4 = .ok (.arraylength, 1) := by decide +kernel
theorem dJ0_length_8abf5_5 : decode cJ0_length_8abf5 5 = .ok (.aload_n 0, 1) := by decide +kernel
theorem dJ0_length_8abf5_6 : decode cJ0_length_8abf5 6 = .ok (.invokevirtual 335, 3) := by decide +kernel
theorem dJ0_length_8abf5_9 : decode cJ0_length_8abf5 9 = .ok (.ishr, 1) := by decide +kernel
theorem dJ0_length_8abf5_10 : decode cJ0_length_8abf5 10 = .ok (.ireturn, 1) := by decide +kernel
theorem tf_J0_9 : Cond.fieldLink RJ0 9 "java/lang/String" "value" "[B" ∈ TMW := tm_in 1442 (by decide +kernel) (by decide +kernel)
theorem tl_J0_335 : Cond.methodLink RJ0 335 yJ0_coder_7d493 ∈ TMW := tm_in 414 (by decide +kernel) (by decide +kernel)
theorem ti_J0_coder_7d493 : Cond.instanceMethod yJ0_coder_7d493 ∈ TMW := tm_in 415 (by decide +kernel) (by decide +kernel)
theorem ts_J0_coder_7d493 : Cond.selects RJ0 yJ0_coder_7d493 yJ0_coder_7d493 ∈ TMW := tm_in 416 (by decide +kernel) (by decide +kernel)
theorem tn_J0 : Cond.initialized RJ0 ∈ TMW := tm_in 119 (by decide +kernel) (by decide +kernel)
theorem tc_J0_coder_7d493 : Cond.code yJ0_coder_7d493 cJ0_coder_7d493 1 (some .byte) ∈ TMW := tm_in 417 (by decide +kernel) (by decide +kernel)
def f_J0_length_8abf5 (o0 : Nat) (v : tmM) : Option (Int32 × tmM) := tm_g (decide (o0 < 15)) (tm_g (decide (o0 < 15)) (tm_g (decide (o0 < 15)) (tm_cl (f_J0_coder_7d493 o0 v) fun r4 v3 => some ((nI (tm_len.getD o0 0)) >>> (r4 &&& 31), v3))))
set_option maxRecDepth 100000 in
set_option maxHeartbeats 4000000 in
theorem w_J0_length_8abf5 {p : Program} {l : Launch} {e : Env} {s : State} {m : MethodId} {args : Array Value} {below : List Frame} {meth : Method} {c : Code} {D : va_G} {cy : Nat → ClassId} {ad : Nat → Nat} {A : Nat → Prop} {adK adV adE : Nat → Nat} {tC : Nat} {shW : Nat → tmE} {nW : Nat} {z : (Int32 × tmM)} {o0 : Nat} (C0 : tmC p s m args meth c cJ0_length_8abf5 1 (some .int) RJ0 TMW tm_NWC D cy shW ad nW [] A) (hE : tmSc adK adV adE tC A s s.heap) (v : tmM) : tmG p l e ({ frames := 1, cells := 0, slots := 0, locals := 20 } : Room) s m args below meth c 0 0 (MQ below (va_Qi (fun r u => z = (r, u)) (tmAt shW nW D cy ad A) A) args s 0 0 A) 1 D cy shW ad nW [] A z 0 [(0, .ref (adK o0))] [] v (f_J0_length_8abf5 o0 v) := by
  unfold f_J0_length_8abf5
  refine tg_aload_n 0 C0 dJ0_length_8abf5_0 rfl rfl ?_
  refine tg_g (fun h1 => ?_)
  refine ty_oget C0 dJ0_length_8abf5_1 (hE.1.1 o0 (of_decide_eq_true h1)).2.2.1 tf_J0_9 rfl ?_
  refine tg_g (fun h2 => ?_)
  refine ty_olen (x := nI (tm_len.getD o0 0)) C0 dJ0_length_8abf5_4 (hE.1.1 o0 (of_decide_eq_true h2)).2.2.2 rfl ?_
  refine tg_aload_n 0 C0 dJ0_length_8abf5_5 rfl rfl ?_
  refine tg_g (fun h5 => ?_)
  refine ty_callVi (As := []) 0 C0 hE dJ0_length_8abf5_6 (c_J0_coder_7d493 l o0 v) rfl rfl (tm_gV tl_J0_335 ti_J0_coder_7d493 ts_J0_coder_7d493 tn_J0 tc_J0_coder_7d493) (tm_rvS hE (of_decide_eq_true h5)) rfl rfl rfl rfl (by decide +kernel) ⟨by decide, by decide⟩ (Nat.le_of_ble_eq_true rfl) ⟨by decide, by decide⟩ (fun r4 v3 _ => ?_)
  refine tg_ishr C0 dJ0_length_8abf5_9 ?_
  exact tg_iret C0 dJ0_length_8abf5_10
theorem c_J0_length_8abf5 (l : Launch) {adK adV adE : Nat → Nat} {tC : Nat} {shW : Nat → tmE} {nW : Nat} (o0 : Nat) (v : tmM) : tmYi tm_NWC shW nW l adK adV adE tC yJ0_length_8abf5 (Cond.code yJ0_length_8abf5 cJ0_length_8abf5 1 (some .int) :: TMW) ({ frames := 1, cells := 0, slots := 0, locals := 20 } : Room) (fun ad => [.ref (adK o0)]) v (f_J0_length_8abf5 o0 v) := by
  exact tmYi.of (cc := cJ0_length_8abf5) (nL := 1) (by decide +kernel) rfl tm_NWC_ok (fun _ => Nat.le_of_ble_eq_true rfl) (fun p e s m args below meth c A D cy ad z C0 hE => w_J0_length_8abf5 C0 hE v)
-- ----- J3_checkIndex_8e157
theorem dJ3_checkIndex_8e157_0 : decode cJ3_checkIndex_8e157 0 = .ok (.iload_n 0, 1) := by decide +kernel
theorem dJ3_checkIndex_8e157_1 : decode cJ3_checkIndex_8e157 1 = .ok (.ifCond .lt 8, 3) := by decide +kernel
theorem dJ3_checkIndex_8e157_4 : decode cJ3_checkIndex_8e157 4 = .ok (.iload_n 0, 1) := by decide +kernel
theorem dJ3_checkIndex_8e157_5 : decode cJ3_checkIndex_8e157 5 = .ok (.iload_n 1, 1) := by decide +kernel
theorem dJ3_checkIndex_8e157_6 : decode cJ3_checkIndex_8e157 6 = .ok (.if_icmp .lt 10, 3) := by decide +kernel
theorem dJ3_checkIndex_8e157_16 : decode cJ3_checkIndex_8e157 16 = .ok (.iload_n 0, 1) := by decide +kernel
theorem dJ3_checkIndex_8e157_17 : decode cJ3_checkIndex_8e157 17 = .ok (.ireturn, 1) := by decide +kernel
def f_J3_checkIndex_8e157_9 (x0 x1 : Int32) (v : tmM) : Option (Int32 × tmM) := none
set_option maxRecDepth 100000 in
set_option maxHeartbeats 4000000 in
theorem w_J3_checkIndex_8e157_9 {p : Program} {l : Launch} {e : Env} {s : State} {m : MethodId} {args : Array Value} {below : List Frame} {meth : Method} {c : Code} {D : va_G} {cy : Nat → ClassId} {ad : Nat → Nat} {A : Nat → Prop} {adK adV adE : Nat → Nat} {tC : Nat} {shW : Nat → tmE} {nW : Nat} {z : (Int32 × tmM)} (C0 : tmC p s m args meth c cJ3_checkIndex_8e157 3 (some .int) RJ3 TMW tm_NWC D cy shW ad nW [] A) (hE : tmSc adK adV adE tC A s s.heap) (x0 x1 : Int32) (v : tmM) : tmG p l e ({ frames := 0, cells := 0, slots := 0, locals := 0 } : Room) s m args below meth c 0 0 (MQ below (va_Qi (fun r u => z = (r, u)) (tmAt shW nW D cy ad A) A) args s 0 0 A) 3 D cy shW ad nW [] A z 9 [(0, .int x0), (1, .int x1)] [] v (f_J3_checkIndex_8e157_9 x0 x1 v) := by
  unfold f_J3_checkIndex_8e157_9
  exact tg_none
def f_J3_checkIndex_8e157 (x0 x1 : Int32) (v : tmM) : Option (Int32 × tmM) := (if x0 < 0 then f_J3_checkIndex_8e157_9 x0 x1 v else (if x0 < x1 then some (x0, v) else f_J3_checkIndex_8e157_9 x0 x1 v))
set_option maxRecDepth 100000 in
set_option maxHeartbeats 4000000 in
theorem w_J3_checkIndex_8e157 {p : Program} {l : Launch} {e : Env} {s : State} {m : MethodId} {args : Array Value} {below : List Frame} {meth : Method} {c : Code} {D : va_G} {cy : Nat → ClassId} {ad : Nat → Nat} {A : Nat → Prop} {adK adV adE : Nat → Nat} {tC : Nat} {shW : Nat → tmE} {nW : Nat} {z : (Int32 × tmM)} (C0 : tmC p s m args meth c cJ3_checkIndex_8e157 3 (some .int) RJ3 TMW tm_NWC D cy shW ad nW [] A) (hE : tmSc adK adV adE tC A s s.heap) (x0 x1 : Int32) (v : tmM) : tmG p l e ({ frames := 0, cells := 0, slots := 0, locals := 0 } : Room) s m args below meth c 0 0 (MQ below (va_Qi (fun r u => z = (r, u)) (tmAt shW nW D cy ad A) A) args s 0 0 A) 3 D cy shW ad nW [] A z 0 [(0, .int x0), (1, .int x1)] [] v (f_J3_checkIndex_8e157 x0 x1 v) := by
  unfold f_J3_checkIndex_8e157
  refine tg_iload_n 0 C0 dJ3_checkIndex_8e157_0 rfl rfl ?_
  refine tg_if_lt 9 C0 dJ3_checkIndex_8e157_1 (by decide) (fun _ => ?_) (fun _ => ?_)
  · exact w_J3_checkIndex_8e157_9 C0 hE x0 x1 v
  · refine tg_iload_n 0 C0 dJ3_checkIndex_8e157_4 rfl rfl ?_
    refine tg_iload_n 1 C0 dJ3_checkIndex_8e157_5 rfl rfl ?_
    refine tg_icmp_lt 16 C0 dJ3_checkIndex_8e157_6 (by decide) (fun _ => ?_) (fun _ => ?_)
    · refine tg_iload_n 0 C0 dJ3_checkIndex_8e157_16 rfl rfl ?_
      exact tg_iret C0 dJ3_checkIndex_8e157_17
    · exact w_J3_checkIndex_8e157_9 C0 hE x0 x1 v
theorem c_J3_checkIndex_8e157 (l : Launch) {adK adV adE : Nat → Nat} {tC : Nat} {shW : Nat → tmE} {nW : Nat} (x0 x1 : Int32) (w2 : Value) (hw2 : w2 = .null ∨ ∃ t, w2 = .ref t) (v : tmM) : tmYi tm_NWC shW nW l adK adV adE tC yJ3_checkIndex_8e157 (Cond.code yJ3_checkIndex_8e157 cJ3_checkIndex_8e157 3 (some .int) :: TMW) ({ frames := 0, cells := 0, slots := 0, locals := 0 } : Room) (fun ad => [.int x0, .int x1, w2]) v (f_J3_checkIndex_8e157 x0 x1 v) := by
  rcases hw2 with rfl | ⟨t, rfl⟩ <;> exact tmYi.of (cc := cJ3_checkIndex_8e157) (nL := 3) (by decide +kernel) rfl tm_NWC_ok (fun _ => Nat.le_of_ble_eq_true rfl) (fun p e s m args below meth c A D cy ad z C0 hE => tg_sub [0, 1] rfl (w_J3_checkIndex_8e157 C0 hE x0 x1 v))
-- ----- J0_checkIndex_df160
theorem dJ0_checkIndex_df160_0 : decode cJ0_checkIndex_df160 0 = .ok (.iload_n 0, 1) := by decide +kernel
theorem dJ0_checkIndex_df160_1 : decode cJ0_checkIndex_df160 1 = .ok (.iload_n 1, 1) := by decide +kernel
theorem dJ0_checkIndex_df160_2 : decode cJ0_checkIndex_df160 2 = .ok (.getstatic 1053, 3) := by decide +kernel
theorem dJ0_checkIndex_df160_5 : decode cJ0_checkIndex_df160 5 = .ok (.invokestatic 1059, 3) := by decide +kernel
theorem dJ0_checkIndex_df160_8 : decode cJ0_checkIndex_df160 8 = .ok (.pop, 1) := by decide +kernel
theorem dJ0_checkIndex_df160_9 : decode cJ0_checkIndex_df160 9 = .ok (.return_, 1) := by decide +kernel
theorem tf_J0_1053 : Cond.fieldLink RJ0 1053 "jdk/internal/util/Preconditions" "SIOOBE_FORMATTER" "Ljava/util/function/BiFunction;" ∈ TMW := tm_in 433 (by decide +kernel) (by decide +kernel)
theorem tc_J3_checkIndex_8e157 : Cond.code yJ3_checkIndex_8e157 cJ3_checkIndex_8e157 3 (some .int) ∈ TMW := tm_in 437 (by decide +kernel) (by decide +kernel)
theorem tl_J0_1059 : Cond.methodLink RJ0 1059 yJ3_checkIndex_8e157 ∈ TMW := tm_in 435 (by decide +kernel) (by decide +kernel)
theorem tn_J3 : Cond.initialized RJ3 ∈ TMW := tm_in 128 (by decide +kernel) (by decide +kernel)
theorem tst_J3_checkIndex_8e157 : Cond.static yJ3_checkIndex_8e157 ∈ TMW := tm_in 436 (by decide +kernel) (by decide +kernel)
def f_J0_checkIndex_df160 (x0 x1 : Int32) (v : tmM) : Option (Unit × tmM) := tm_cl (f_J3_checkIndex_8e157 x0 x1 v) fun r3 v2 => some ((), v2)
set_option maxRecDepth 100000 in
set_option maxHeartbeats 4000000 in
theorem w_J0_checkIndex_df160 {p : Program} {l : Launch} {e : Env} {s : State} {m : MethodId} {args : Array Value} {below : List Frame} {meth : Method} {c : Code} {D : va_G} {cy : Nat → ClassId} {ad : Nat → Nat} {A : Nat → Prop} {adK adV adE : Nat → Nat} {tC : Nat} {shW : Nat → tmE} {nW : Nat} {z : (Unit × tmM)} (C0 : tmC p s m args meth c cJ0_checkIndex_df160 2 none RJ0 TMW tm_NWC D cy shW ad nW [] A) (hE : tmSc adK adV adE tC A s s.heap) (x0 x1 : Int32) (v : tmM) : tmG p l e ({ frames := 1, cells := 0, slots := 0, locals := 22 } : Room) s m args below meth c 0 0 (MQ below (va_Qv (fun u => z = ((), u)) (tmAt shW nW D cy ad A) A) args s 0 0 A) 2 D cy shW ad nW [] A z 0 [(0, .int x0), (1, .int x1)] [] v (f_J0_checkIndex_df160 x0 x1 v) := by
  unfold f_J0_checkIndex_df160
  refine tg_iload_n 0 C0 dJ0_checkIndex_df160_0 rfl rfl ?_
  refine tg_iload_n 1 C0 dJ0_checkIndex_df160_1 rfl rfl ?_
  refine ty_ogsq C0 dJ0_checkIndex_df160_2 hE.2.2.2.2.2.2.2.2.2.2.1 tf_J0_1053 rfl (fun w1 hw1 => ?_)
  refine ty_callSi (As := [.int x0, .int x1, w1]) 3 C0 hE dJ0_checkIndex_df160_5 (c_J3_checkIndex_8e157 l x0 x1 w1 hw1 v) rfl rfl (tm_gc tc_J3_checkIndex_8e157) tl_J0_1059 tn_J3 tst_J3_checkIndex_8e157 rfl rfl rfl rfl (by decide +kernel) ⟨by decide, by decide⟩ (Nat.le_of_ble_eq_true rfl) ⟨by decide, by decide⟩ (fun r3 v2 _ => ?_)
  refine tg_pop C0 dJ0_checkIndex_df160_8 rfl ?_
  exact tg_vret C0 dJ0_checkIndex_df160_9
theorem c_J0_checkIndex_df160 (l : Launch) {adK adV adE : Nat → Nat} {tC : Nat} {shW : Nat → tmE} {nW : Nat} (x0 x1 : Int32) (v : tmM) : tmYv tm_NWC shW nW l adK adV adE tC yJ0_checkIndex_df160 (Cond.code yJ0_checkIndex_df160 cJ0_checkIndex_df160 2 none :: TMW) ({ frames := 1, cells := 0, slots := 0, locals := 22 } : Room) (fun ad => [.int x0, .int x1]) v (f_J0_checkIndex_df160 x0 x1 v) := by
  exact tmYv.of (cc := cJ0_checkIndex_df160) (nL := 2) (by decide +kernel) rfl tm_NWC_ok (fun _ => Nat.le_of_ble_eq_true rfl) (fun p e s m args below meth c A D cy ad z C0 hE => w_J0_checkIndex_df160 C0 hE x0 x1 v)
-- ----- J1_charAt_3b067
theorem dJ1_charAt_3b067_0 : decode cJ1_charAt_3b067 0 = .ok (.iload_n 1, 1) := by decide +kernel
theorem dJ1_charAt_3b067_1 : decode cJ1_charAt_3b067 1 = .ok (.aload_n 0, 1) := by decide +kernel
theorem dJ1_charAt_3b067_2 : decode cJ1_charAt_3b067 2 = .ok (.arraylength, 1) := by decide +kernel
theorem dJ1_charAt_3b067_3 : decode cJ1_charAt_3b067 3 = .ok (.invokestatic 9, 3) := by decide +kernel
theorem dJ1_charAt_3b067_6 : decode cJ1_charAt_3b067 6 = .ok (.aload_n 0, 1) := by decide +kernel
theorem dJ1_charAt_3b067_7 : decode cJ1_charAt_3b067 7 = .ok (.iload_n 1, 1) := by decide +kernel
theorem dJ1_charAt_3b067_8 : decode cJ1_charAt_3b067 8 = .ok (.baload, 1) := by decide +kernel
theorem dJ1_charAt_3b067_9 : decode cJ1_charAt_3b067 9 = .ok (.sipush 255, 3) := by decide +kernel
theorem dJ1_charAt_3b067_12 : decode cJ1_charAt_3b067 12 = .ok (.iand, 1) := by decide +kernel
theorem dJ1_charAt_3b067_13 : decode cJ1_charAt_3b067 13 = .ok (.i2c, 1) := by decide +kernel
theorem dJ1_charAt_3b067_14 : decode cJ1_charAt_3b067 14 = .ok (.ireturn, 1) := by decide +kernel
theorem tc_J0_checkIndex_df160 : Cond.code yJ0_checkIndex_df160 cJ0_checkIndex_df160 2 none ∈ TMW := tm_in 432 (by decide +kernel) (by decide +kernel)
theorem tl_J1_9 : Cond.methodLink RJ1 9 yJ0_checkIndex_df160 ∈ TMW := tm_in 430 (by decide +kernel) (by decide +kernel)
theorem tst_J0_checkIndex_df160 : Cond.static yJ0_checkIndex_df160 ∈ TMW := tm_in 431 (by decide +kernel) (by decide +kernel)
def f_J1_charAt_3b067 (o0 : Nat) (x1 : Int32) (v : tmM) : Option (Int32 × tmM) := tm_g (decide (o0 < 15)) (tm_cl (f_J0_checkIndex_df160 x1 (nI (tm_len.getD o0 0)) v) fun _ v2 => tm_g (decide (o0 < 15)) (tm_g (tm_ix x1 (tm_len.getD o0 0)) (tm_g (tm_ci (((((tm_byt.getD o0 []).getD x1.toNatClampNeg 0) &&& 255).toUInt32 % 65536).toInt32)) (some (((((tm_byt.getD o0 []).getD x1.toNatClampNeg 0) &&& 255).toUInt32 % 65536).toInt32, v2)))))
set_option maxRecDepth 100000 in
set_option maxHeartbeats 4000000 in
theorem w_J1_charAt_3b067 {p : Program} {l : Launch} {e : Env} {s : State} {m : MethodId} {args : Array Value} {below : List Frame} {meth : Method} {c : Code} {D : va_G} {cy : Nat → ClassId} {ad : Nat → Nat} {A : Nat → Prop} {adK adV adE : Nat → Nat} {tC : Nat} {shW : Nat → tmE} {nW : Nat} {z : (Int32 × tmM)} {o0 : Nat} (C0 : tmC p s m args meth c cJ1_charAt_3b067 2 (some .char) RJ1 TMW tm_NWC D cy shW ad nW [] A) (hE : tmSc adK adV adE tC A s s.heap) (x1 : Int32) (v : tmM) : tmG p l e ({ frames := 2, cells := 0, slots := 0, locals := 43 } : Room) s m args below meth c 0 0 (MQ below (va_Qi (fun r u => z = (r, u)) (tmAt shW nW D cy ad A) A) args s 0 0 A) 2 D cy shW ad nW [] A z 0 [(0, .ref (adV o0)), (1, .int x1)] [] v (f_J1_charAt_3b067 o0 x1 v) := by
  unfold f_J1_charAt_3b067
  refine tg_iload_n 1 C0 dJ1_charAt_3b067_0 rfl rfl ?_
  refine tg_aload_n 0 C0 dJ1_charAt_3b067_1 rfl rfl ?_
  refine tg_g (fun h1 => ?_)
  refine ty_olen (x := nI (tm_len.getD o0 0)) C0 dJ1_charAt_3b067_2 (hE.1.1 o0 (of_decide_eq_true h1)).2.2.2 rfl ?_
  refine ty_callSv (As := [.int x1, .int (nI (tm_len.getD o0 0))]) 2 C0 hE dJ1_charAt_3b067_3 (c_J0_checkIndex_df160 l x1 (nI (tm_len.getD o0 0)) v) rfl rfl (tm_gc tc_J0_checkIndex_df160) tl_J1_9 tn_J0 tst_J0_checkIndex_df160 rfl rfl rfl rfl (by decide +kernel) ⟨by decide, by decide⟩ (Nat.le_of_ble_eq_true rfl) ⟨by decide, by decide⟩ (fun v2 _ => ?_)
  refine tg_aload_n 0 C0 dJ1_charAt_3b067_6 rfl rfl ?_
  refine tg_iload_n 1 C0 dJ1_charAt_3b067_7 rfl rfl ?_
  refine tg_g (fun h4 => ?_)
  refine ty_obald C0 dJ1_charAt_3b067_8 (hE.1.1 o0 (of_decide_eq_true h4)).2.2.2 rfl (fun _ => ?_)
  refine tg_sipush (x := 255) C0 dJ1_charAt_3b067_9 (by decide) ?_
  refine tg_iand C0 dJ1_charAt_3b067_12 ?_
  refine tg_i2c C0 dJ1_charAt_3b067_13 ?_
  exact tg_cret C0 dJ1_charAt_3b067_14
theorem c_J1_charAt_3b067 (l : Launch) {adK adV adE : Nat → Nat} {tC : Nat} {shW : Nat → tmE} {nW : Nat} (o0 : Nat) (x1 : Int32) (v : tmM) : tmYi tm_NWC shW nW l adK adV adE tC yJ1_charAt_3b067 (Cond.code yJ1_charAt_3b067 cJ1_charAt_3b067 2 (some .char) :: TMW) ({ frames := 2, cells := 0, slots := 0, locals := 43 } : Room) (fun ad => [.ref (adV o0), .int x1]) v (f_J1_charAt_3b067 o0 x1 v) := by
  exact tmYi.of (cc := cJ1_charAt_3b067) (nL := 2) (by decide +kernel) rfl tm_NWC_ok (fun _ => Nat.le_of_ble_eq_true rfl) (fun p e s m args below meth c A D cy ad z C0 hE => w_J1_charAt_3b067 C0 hE x1 v)
-- ----- J0_charAt_5068e
theorem dJ0_charAt_5068e_0 : decode cJ0_charAt_5068e 0 = .ok (.aload_n 0, 1) := by decide +kernel
theorem dJ0_charAt_5068e_1 : decode cJ0_charAt_5068e 1 = .ok (.invokevirtual 492, 3) := by decide +kernel
theorem dJ0_charAt_5068e_4 : decode cJ0_charAt_5068e 4 = .ok (.ifCond .eq 12, 3) := by decide +kernel
theorem dJ0_charAt_5068e_7 : decode cJ0_charAt_5068e 7 = .ok (.aload_n 0, 1) := by decide +kernel
theorem dJ0_charAt_5068e_8 : decode cJ0_charAt_5068e 8 = .ok (.getfield 9, 3) := by decide +kernel
theorem dJ0_charAt_5068e_11 : decode cJ0_charAt_5068e 11 = .ok (.iload_n 1, 1) := by decide +kernel
theorem dJ0_charAt_5068e_12 : decode cJ0_charAt_5068e 12 = .ok (.invokestatic 495, 3) := by decide +kernel
theorem dJ0_charAt_5068e_15 : decode cJ0_charAt_5068e 15 = .ok (.ireturn, 1) := by decide +kernel
theorem tl_J0_492 : Cond.methodLink RJ0 492 yJ0_isLatin1_aae02 ∈ TMW := tm_in 423 (by decide +kernel) (by decide +kernel)
theorem ti_J0_isLatin1_aae02 : Cond.instanceMethod yJ0_isLatin1_aae02 ∈ TMW := tm_in 424 (by decide +kernel) (by decide +kernel)
theorem ts_J0_isLatin1_aae02 : Cond.selects RJ0 yJ0_isLatin1_aae02 yJ0_isLatin1_aae02 ∈ TMW := tm_in 425 (by decide +kernel) (by decide +kernel)
theorem tc_J0_isLatin1_aae02 : Cond.code yJ0_isLatin1_aae02 cJ0_isLatin1_aae02 1 (some .boolean) ∈ TMW := tm_in 426 (by decide +kernel) (by decide +kernel)
theorem tc_J1_charAt_3b067 : Cond.code yJ1_charAt_3b067 cJ1_charAt_3b067 2 (some .char) ∈ TMW := tm_in 429 (by decide +kernel) (by decide +kernel)
theorem tl_J0_495 : Cond.methodLink RJ0 495 yJ1_charAt_3b067 ∈ TMW := tm_in 427 (by decide +kernel) (by decide +kernel)
theorem tn_J1 : Cond.initialized RJ1 ∈ TMW := tm_in 127 (by decide +kernel) (by decide +kernel)
theorem tst_J1_charAt_3b067 : Cond.static yJ1_charAt_3b067 ∈ TMW := tm_in 428 (by decide +kernel) (by decide +kernel)
def f_J0_charAt_5068e (o0 : Nat) (x1 : Int32) (v : tmM) : Option (Int32 × tmM) := tm_g (decide (o0 < 15)) (tm_cl (f_J0_isLatin1_aae02 o0 v) fun r2 v1 => (if r2 = 0 then none else tm_g (decide (o0 < 15)) (tm_cl (f_J1_charAt_3b067 o0 x1 v1) fun r7 v6 => tm_g (tm_ci r7) (some (r7, v6)))))
set_option maxRecDepth 100000 in
set_option maxHeartbeats 4000000 in
theorem w_J0_charAt_5068e {p : Program} {l : Launch} {e : Env} {s : State} {m : MethodId} {args : Array Value} {below : List Frame} {meth : Method} {c : Code} {D : va_G} {cy : Nat → ClassId} {ad : Nat → Nat} {A : Nat → Prop} {adK adV adE : Nat → Nat} {tC : Nat} {shW : Nat → tmE} {nW : Nat} {z : (Int32 × tmM)} {o0 : Nat} (C0 : tmC p s m args meth c cJ0_charAt_5068e 2 (some .char) RJ0 TMW tm_NWC D cy shW ad nW [] A) (hE : tmSc adK adV adE tC A s s.heap) (x1 : Int32) (v : tmM) : tmG p l e ({ frames := 3, cells := 0, slots := 0, locals := 64 } : Room) s m args below meth c 0 0 (MQ below (va_Qi (fun r u => z = (r, u)) (tmAt shW nW D cy ad A) A) args s 0 0 A) 2 D cy shW ad nW [] A z 0 [(0, .ref (adK o0)), (1, .int x1)] [] v (f_J0_charAt_5068e o0 x1 v) := by
  unfold f_J0_charAt_5068e
  refine tg_aload_n 0 C0 dJ0_charAt_5068e_0 rfl rfl ?_
  refine tg_g (fun h3 => ?_)
  refine ty_callVi (As := []) 0 C0 hE dJ0_charAt_5068e_1 (c_J0_isLatin1_aae02 l o0 v) rfl rfl (tm_gV tl_J0_492 ti_J0_isLatin1_aae02 ts_J0_isLatin1_aae02 tn_J0 tc_J0_isLatin1_aae02) (tm_rvS hE (of_decide_eq_true h3)) rfl rfl rfl rfl (by decide +kernel) ⟨by decide, by decide⟩ (Nat.le_of_ble_eq_true rfl) ⟨by decide, by decide⟩ (fun r2 v1 _ => ?_)
  refine tg_if_eq 16 C0 dJ0_charAt_5068e_4 (by decide) (fun _ => ?_) (fun _ => ?_)
  · exact tg_none
  · refine tg_aload_n 0 C0 dJ0_charAt_5068e_7 rfl rfl ?_
    refine tg_g (fun h5 => ?_)
    refine ty_oget C0 dJ0_charAt_5068e_8 (hE.1.1 o0 (of_decide_eq_true h5)).2.2.1 tf_J0_9 rfl ?_
    refine tg_iload_n 1 C0 dJ0_charAt_5068e_11 rfl rfl ?_
    refine ty_callSi (As := [.ref (adV o0), .int x1]) 2 C0 hE dJ0_charAt_5068e_12 (c_J1_charAt_3b067 l o0 x1 v1) rfl rfl (tm_gc tc_J1_charAt_3b067) tl_J0_495 tn_J1 tst_J1_charAt_3b067 rfl rfl rfl rfl (by decide +kernel) ⟨by decide, by decide⟩ (Nat.le_of_ble_eq_true rfl) ⟨by decide, by decide⟩ (fun r7 v6 _ => ?_)
    exact tg_cret C0 dJ0_charAt_5068e_15
theorem c_J0_charAt_5068e (l : Launch) {adK adV adE : Nat → Nat} {tC : Nat} {shW : Nat → tmE} {nW : Nat} (o0 : Nat) (x1 : Int32) (v : tmM) : tmYi tm_NWC shW nW l adK adV adE tC yJ0_charAt_5068e (Cond.code yJ0_charAt_5068e cJ0_charAt_5068e 2 (some .char) :: TMW) ({ frames := 3, cells := 0, slots := 0, locals := 64 } : Room) (fun ad => [.ref (adK o0), .int x1]) v (f_J0_charAt_5068e o0 x1 v) := by
  exact tmYi.of (cc := cJ0_charAt_5068e) (nL := 2) (by decide +kernel) rfl tm_NWC_ok (fun _ => Nat.le_of_ble_eq_true rfl) (fun p e s m args below meth c A D cy ad z C0 hE => w_J0_charAt_5068e C0 hE x1 v)
-- ----- X3_isHere
theorem dX3_isHere_0 : decode cX3_isHere 0 = .ok (.aload_n 0, 1) := by decide +kernel
theorem dX3_isHere_1 : decode cX3_isHere 1 = .ok (.getfield 35, 3) := by decide +kernel
theorem dX3_isHere_4 : decode cX3_isHere 4 = .ok (.aload_n 0, 1) := by decide +kernel
theorem dX3_isHere_5 : decode cX3_isHere 5 = .ok (.getfield 87, 3) := by decide +kernel
theorem dX3_isHere_8 : decode cX3_isHere 8 = .ok (.isub, 1) := by decide +kernel
theorem dX3_isHere_9 : decode cX3_isHere 9 = .ok (.aload_n 1, 1) := by decide +kernel
theorem dX3_isHere_10 : decode cX3_isHere 10 = .ok (.invokevirtual 104, 3) := by decide +kernel
theorem dX3_isHere_13 : decode cX3_isHere 13 = .ok (.if_icmp .eq 5, 3) := by decide +kernel
theorem dX3_isHere_16 : decode cX3_isHere 16 = .ok (.iconst 0, 1) := by decide +kernel
theorem dX3_isHere_17 : decode cX3_isHere 17 = .ok (.ireturn, 1) := by decide +kernel
theorem dX3_isHere_18 : decode cX3_isHere 18 = .ok (.aload_n 0, 1) := by decide +kernel
theorem dX3_isHere_19 : decode cX3_isHere 19 = .ok (.getfield 87, 3) := by decide +kernel
theorem dX3_isHere_22 : decode cX3_isHere 22 = .ok (.istore_n 2, 1) := by decide +kernel
theorem dX3_isHere_23 : decode cX3_isHere 23 = .ok (.iload_n 2, 1) := by decide +kernel
theorem dX3_isHere_24 : decode cX3_isHere 24 = .ok (.aload_n 0, 1) := by decide +kernel
theorem dX3_isHere_25 : decode cX3_isHere 25 = .ok (.getfield 35, 3) := by decide +kernel
theorem dX3_isHere_28 : decode cX3_isHere 28 = .ok (.if_icmp .ge 30, 3) := by decide +kernel
theorem dX3_isHere_31 : decode cX3_isHere 31 = .ok (.aload_n 0, 1) := by decide +kernel
theorem dX3_isHere_32 : decode cX3_isHere 32 = .ok (.getfield 9, 3) := by decide +kernel
theorem dX3_isHere_35 : decode cX3_isHere 35 = .ok (.iload_n 2, 1) := by decide +kernel
theorem dX3_isHere_36 : decode cX3_isHere 36 = .ok (.caload, 1) := by decide +kernel
theorem dX3_isHere_37 : decode cX3_isHere 37 = .ok (.aload_n 1, 1) := by decide +kernel
theorem dX3_isHere_38 : decode cX3_isHere 38 = .ok (.iload_n 2, 1) := by decide +kernel
theorem dX3_isHere_39 : decode cX3_isHere 39 = .ok (.aload_n 0, 1) := by decide +kernel
theorem dX3_isHere_40 : decode cX3_isHere 40 = .ok (.getfield 87, 3) := by decide +kernel
theorem dX3_isHere_43 : decode cX3_isHere 43 = .ok (.isub, 1) := by decide +kernel
theorem dX3_isHere_44 : decode cX3_isHere 44 = .ok (.invokevirtual 109, 3) := by decide +kernel
theorem dX3_isHere_47 : decode cX3_isHere 47 = .ok (.if_icmp .eq 5, 3) := by decide +kernel
theorem dX3_isHere_50 : decode cX3_isHere 50 = .ok (.iconst 0, 1) := by decide +kernel
theorem dX3_isHere_51 : decode cX3_isHere 51 = .ok (.ireturn, 1) := by decide +kernel
theorem dX3_isHere_52 : decode cX3_isHere 52 = .ok (.iinc 2 1, 3) := by decide +kernel
theorem dX3_isHere_55 : decode cX3_isHere 55 = .ok (.goto (-32), 3) := by decide +kernel
theorem dX3_isHere_58 : decode cX3_isHere 58 = .ok (.iconst 1, 1) := by decide +kernel
theorem dX3_isHere_59 : decode cX3_isHere 59 = .ok (.ireturn, 1) := by decide +kernel
theorem tl_X3_104 : Cond.methodLink RX3 104 yJ0_length_8abf5 ∈ TMW := tm_in 410 (by decide +kernel) (by decide +kernel)
theorem ti_J0_length_8abf5 : Cond.instanceMethod yJ0_length_8abf5 ∈ TMW := tm_in 411 (by decide +kernel) (by decide +kernel)
theorem ts_J0_length_8abf5 : Cond.selects RJ0 yJ0_length_8abf5 yJ0_length_8abf5 ∈ TMW := tm_in 412 (by decide +kernel) (by decide +kernel)
theorem tc_J0_length_8abf5 : Cond.code yJ0_length_8abf5 cJ0_length_8abf5 1 (some .int) ∈ TMW := tm_in 413 (by decide +kernel) (by decide +kernel)
theorem tl_X3_109 : Cond.methodLink RX3 109 yJ0_charAt_5068e ∈ TMW := tm_in 419 (by decide +kernel) (by decide +kernel)
theorem ti_J0_charAt_5068e : Cond.instanceMethod yJ0_charAt_5068e ∈ TMW := tm_in 420 (by decide +kernel) (by decide +kernel)
theorem ts_J0_charAt_5068e : Cond.selects RJ0 yJ0_charAt_5068e yJ0_charAt_5068e ∈ TMW := tm_in 421 (by decide +kernel) (by decide +kernel)
theorem tc_J0_charAt_5068e : Cond.code yJ0_charAt_5068e cJ0_charAt_5068e 2 (some .char) ∈ TMW := tm_in 422 (by decide +kernel) (by decide +kernel)
def f_X3_isHere_23b (o1 : Nat) (K0 : tmM → Option (Int32 × tmM)) (L : Int32 → tmM → Option (Int32 × tmM)) (x2 : Int32) (v : tmM) : Option (Int32 × tmM) := (if (v 251 10) ≤ x2 then K0 v else tm_g (tm_ix x2 600) (tm_g (decide (o1 < 15)) (tm_cl (f_J0_charAt_5068e o1 (x2 - (v 251 9)) v) fun r6 v5 => (if (v 252 x2.toNatClampNeg) = r6 then L (x2 + 1) v5 else some (0, v5)))))
set_option maxRecDepth 100000 in
set_option maxHeartbeats 4000000 in
theorem w_X3_isHere_23b {p : Program} {l : Launch} {e : Env} {s : State} {m : MethodId} {args : Array Value} {below : List Frame} {meth : Method} {c : Code} {D : va_G} {cy : Nat → ClassId} {ad : Nat → Nat} {A : Nat → Prop} {adK adV adE : Nat → Nat} {tC : Nat} {z : (Int32 × tmM)} {o1 : Nat} {K0 : tmM → Option (Int32 × tmM)} {L : Int32 → tmM → Option (Int32 × tmM)} (C0 : tmC p s m args meth c cX3_isHere 3 (some .boolean) RX3 TMW tm_NWC D cy tm_shC ad 256 [] A) (hE : tmSc adK adV adE tC A s s.heap) (hK0 : ∀ (w : tmM), tmG p l e ({ frames := 4, cells := 0, slots := 0, locals := 85 } : Room) s m args below meth c 0 0 (MQ below (va_Qi (fun r u => z = (r, u)) (tmAt tm_shC 256 D cy ad A) A) args s 0 0 A) 3 D cy tm_shC ad 256 [] A z 58 [] [] w (K0 w)) (hL : ∀ (a2 : Int32) (w : tmM), tmG p l e ({ frames := 4, cells := 0, slots := 0, locals := 85 } : Room) s m args below meth c 0 0 (MQ below (va_Qi (fun r u => z = (r, u)) (tmAt tm_shC 256 D cy ad A) A) args s 0 0 A) 3 D cy tm_shC ad 256 [] A z 23 [(0, .ref (ad 251)), (1, .ref (adK o1)), (2, .int a2)] [] w (L a2 w)) (x2 : Int32) (v : tmM) : tmG p l e ({ frames := 4, cells := 0, slots := 0, locals := 85 } : Room) s m args below meth c 0 0 (MQ below (va_Qi (fun r u => z = (r, u)) (tmAt tm_shC 256 D cy ad A) A) args s 0 0 A) 3 D cy tm_shC ad 256 [] A z 23 [(0, .ref (ad 251)), (1, .ref (adK o1)), (2, .int x2)] [] v (f_X3_isHere_23b o1 K0 L x2 v) := by
  unfold f_X3_isHere_23b
  refine tg_iload_n 2 C0 dX3_isHere_23 rfl rfl ?_
  refine tg_aload_n 0 C0 dX3_isHere_24 rfl rfl ?_
  refine tg_get 251 10 C0 dX3_isHere_25 (by decide) rfl rfl tu_X3 (by decide) tf_X3_35 rfl rfl rfl ?_
  refine tg_icmp_ge 58 C0 dX3_isHere_28 (by decide) (fun _ => ?_) (fun _ => ?_)
  · refine tg_sub [] rfl ?_
    exact hK0 v
  · refine tg_aload_n 0 C0 dX3_isHere_31 rfl rfl ?_
    refine tg_get 251 0 C0 dX3_isHere_32 (by decide) rfl rfl tu_X3 (by decide) tf_X3_9 rfl rfl rfl ?_
    refine tg_iload_n 2 C0 dX3_isHere_35 rfl rfl ?_
    refine tg_cald 252 C0 dX3_isHere_36 (by decide) rfl (fun _ => ?_)
    refine tg_aload_n 1 C0 dX3_isHere_37 rfl rfl ?_
    refine tg_iload_n 2 C0 dX3_isHere_38 rfl rfl ?_
    refine tg_aload_n 0 C0 dX3_isHere_39 rfl rfl ?_
    refine tg_get 251 9 C0 dX3_isHere_40 (by decide) rfl rfl tu_X3 (by decide) tf_X3_87 rfl rfl rfl ?_
    refine tg_isub C0 dX3_isHere_43 ?_
    refine tg_g (fun h7 => ?_)
    refine ty_callVi (As := [.int (x2 - (v 251 9))]) 1 C0 hE dX3_isHere_44 (c_J0_charAt_5068e l o1 (x2 - (v 251 9)) v) rfl rfl (tm_gV tl_X3_109 ti_J0_charAt_5068e ts_J0_charAt_5068e tn_J0 tc_J0_charAt_5068e) (tm_rvS hE (of_decide_eq_true h7)) rfl rfl rfl rfl (by decide +kernel) ⟨by decide, by decide⟩ (Nat.le_of_ble_eq_true rfl) ⟨by decide, by decide⟩ (fun r6 v5 _ => ?_)
    refine tg_icmp_eq 52 C0 dX3_isHere_47 (by decide) (fun _ => ?_) (fun _ => ?_)
    · refine tg_iinc [(2, .int (x2 + 1)), (0, .ref (ad 251)), (1, .ref (adK o1))] 2 C0 dX3_isHere_52 rfl rfl (by decide) rfl ?_
      refine tg_goto 23 C0 dX3_isHere_55 (by decide) ?_
      refine tg_sub [1, 2, 0] rfl ?_
      exact hL (x2 + 1) v5
    · refine tg_iconst (x := 0) C0 dX3_isHere_50 (by decide) ?_
      exact tg_zret C0 dX3_isHere_51 rfl
def f_X3_isHere_23 (o1 : Nat) (K0 : tmM → Option (Int32 × tmM)) : Nat → Int32 → tmM → Option (Int32 × tmM)
  | 0 => fun _ _ => none
  | n + 1 => f_X3_isHere_23b o1 K0 (f_X3_isHere_23 o1 K0 n)
theorem w_X3_isHere_23 {p : Program} {l : Launch} {e : Env} {s : State} {m : MethodId} {args : Array Value} {below : List Frame} {meth : Method} {c : Code} {D : va_G} {cy : Nat → ClassId} {ad : Nat → Nat} {A : Nat → Prop} {adK adV adE : Nat → Nat} {tC : Nat} {z : (Int32 × tmM)} {o1 : Nat} {K0 : tmM → Option (Int32 × tmM)} (C0 : tmC p s m args meth c cX3_isHere 3 (some .boolean) RX3 TMW tm_NWC D cy tm_shC ad 256 [] A) (hE : tmSc adK adV adE tC A s s.heap) (hK0 : ∀ (w : tmM), tmG p l e ({ frames := 4, cells := 0, slots := 0, locals := 85 } : Room) s m args below meth c 0 0 (MQ below (va_Qi (fun r u => z = (r, u)) (tmAt tm_shC 256 D cy ad A) A) args s 0 0 A) 3 D cy tm_shC ad 256 [] A z 58 [] [] w (K0 w)) (nn : Nat) : ∀ (x2 : Int32) (v : tmM), tmG p l e ({ frames := 4, cells := 0, slots := 0, locals := 85 } : Room) s m args below meth c 0 0 (MQ below (va_Qi (fun r u => z = (r, u)) (tmAt tm_shC 256 D cy ad A) A) args s 0 0 A) 3 D cy tm_shC ad 256 [] A z 23 [(0, .ref (ad 251)), (1, .ref (adK o1)), (2, .int x2)] [] v (f_X3_isHere_23 o1 K0 nn x2 v) := by
  induction nn with
  | zero => intro _ _; exact tg_none
  | succ n ih => intro x2 v; exact w_X3_isHere_23b C0 hE hK0 ih x2 v
def f_X3_isHere (o1 : Nat) (v : tmM) : Option (Int32 × tmM) := tm_g (decide (o1 < 15)) (tm_cl (f_J0_length_8abf5 o1 v) fun r2 v1 => (if ((v 251 10) - (v 251 9)) = r2 then tm_lt (v1 251 9) fun y4 => f_X3_isHere_23 o1 (fun v8 => some (1, v8)) 10000 y4 v1 else some (0, v1)))
set_option maxRecDepth 100000 in
set_option maxHeartbeats 4000000 in
theorem w_X3_isHere {p : Program} {l : Launch} {e : Env} {s : State} {m : MethodId} {args : Array Value} {below : List Frame} {meth : Method} {c : Code} {D : va_G} {cy : Nat → ClassId} {ad : Nat → Nat} {A : Nat → Prop} {adK adV adE : Nat → Nat} {tC : Nat} {z : (Int32 × tmM)} {o1 : Nat} (C0 : tmC p s m args meth c cX3_isHere 3 (some .boolean) RX3 TMW tm_NWC D cy tm_shC ad 256 [] A) (hE : tmSc adK adV adE tC A s s.heap) (v : tmM) : tmG p l e ({ frames := 4, cells := 0, slots := 0, locals := 85 } : Room) s m args below meth c 0 0 (MQ below (va_Qi (fun r u => z = (r, u)) (tmAt tm_shC 256 D cy ad A) A) args s 0 0 A) 3 D cy tm_shC ad 256 [] A z 0 [(0, .ref (ad 251)), (1, .ref (adK o1))] [] v (f_X3_isHere o1 v) := by
  unfold f_X3_isHere
  refine tg_aload_n 0 C0 dX3_isHere_0 rfl rfl ?_
  refine tg_get 251 10 C0 dX3_isHere_1 (by decide) rfl rfl tu_X3 (by decide) tf_X3_35 rfl rfl rfl ?_
  refine tg_aload_n 0 C0 dX3_isHere_4 rfl rfl ?_
  refine tg_get 251 9 C0 dX3_isHere_5 (by decide) rfl rfl tu_X3 (by decide) tf_X3_87 rfl rfl rfl ?_
  refine tg_isub C0 dX3_isHere_8 ?_
  refine tg_aload_n 1 C0 dX3_isHere_9 rfl rfl ?_
  refine tg_g (fun h3 => ?_)
  refine ty_callVi (As := []) 0 C0 hE dX3_isHere_10 (c_J0_length_8abf5 l o1 v) rfl rfl (tm_gV tl_X3_104 ti_J0_length_8abf5 ts_J0_length_8abf5 tn_J0 tc_J0_length_8abf5) (tm_rvS hE (of_decide_eq_true h3)) rfl rfl rfl rfl (by decide +kernel) ⟨by decide, by decide⟩ (Nat.le_of_ble_eq_true rfl) ⟨by decide, by decide⟩ (fun r2 v1 _ => ?_)
  refine tg_icmp_eq 18 C0 dX3_isHere_13 (by decide) (fun _ => ?_) (fun _ => ?_)
  · refine tg_aload_n 0 C0 dX3_isHere_18 rfl rfl ?_
    refine tg_get 251 9 C0 dX3_isHere_19 (by decide) rfl rfl tu_X3 (by decide) tf_X3_87 rfl rfl rfl ?_
    refine tg_leti (fun y4 _ => ?_)
    refine tg_istore_n [(2, .int y4), (0, .ref (ad 251)), (1, .ref (adK o1))] C0 dX3_isHere_22 rfl (by decide) rfl ?_
    refine tg_sub [1, 2, 0] rfl ?_
    refine w_X3_isHere_23 C0 hE (fun v8 => ?_) 10000 y4 v1
    refine tg_iconst (x := 1) C0 dX3_isHere_58 (by decide) ?_
    exact tg_zret C0 dX3_isHere_59 rfl
  · refine tg_iconst (x := 0) C0 dX3_isHere_16 (by decide) ?_
    exact tg_zret C0 dX3_isHere_17 rfl
theorem c_X3_isHere (l : Launch) {adK adV adE : Nat → Nat} {tC : Nat} (o1 : Nat) (v : tmM) : tmYi tm_NWC tm_shC 256 l adK adV adE tC yX3_isHere (Cond.code yX3_isHere cX3_isHere 3 (some .boolean) :: TMW) ({ frames := 4, cells := 0, slots := 0, locals := 85 } : Room) (fun ad => [.ref (ad 251), .ref (adK o1)]) v (f_X3_isHere o1 v) := by
  exact tmYi.of (cc := cX3_isHere) (nL := 3) (by decide +kernel) rfl tm_NWC_ok (fun _ => Nat.le_of_ble_eq_true rfl) (fun p e s m args below meth c A D cy ad z C0 hE => w_X3_isHere C0 hE v)
-- ----- X3_commandHere
theorem dX3_commandHere_0 : decode cX3_commandHere 0 = .ok (.getstatic 96, 3) := by decide +kernel
theorem dX3_commandHere_3 : decode cX3_commandHere 3 = .ok (.astore_n 1, 1) := by decide +kernel
theorem dX3_commandHere_4 : decode cX3_commandHere 4 = .ok (.aload_n 1, 1) := by decide +kernel
theorem dX3_commandHere_5 : decode cX3_commandHere 5 = .ok (.arraylength, 1) := by decide +kernel
theorem dX3_commandHere_6 : decode cX3_commandHere 6 = .ok (.istore_n 2, 1) := by decide +kernel
theorem dX3_commandHere_7 : decode cX3_commandHere 7 = .ok (.iconst 0, 1) := by decide +kernel
theorem dX3_commandHere_8 : decode cX3_commandHere 8 = .ok (.istore_n 3, 1) := by decide +kernel
theorem dX3_commandHere_9 : decode cX3_commandHere 9 = .ok (.iload_n 3, 1) := by decide +kernel
theorem dX3_commandHere_10 : decode cX3_commandHere 10 = .ok (.iload_n 2, 1) := by decide +kernel
theorem dX3_commandHere_11 : decode cX3_commandHere 11 = .ok (.if_icmp .ge 29, 3) := by decide +kernel
theorem dX3_commandHere_14 : decode cX3_commandHere 14 = .ok (.aload_n 1, 1) := by decide +kernel
theorem dX3_commandHere_15 : decode cX3_commandHere 15 = .ok (.iload_n 3, 1) := by decide +kernel
theorem dX3_commandHere_16 : decode cX3_commandHere 16 = .ok (.aaload, 1) := by decide +kernel
theorem dX3_commandHere_17 : decode cX3_commandHere 17 = .ok (.astore 4, 2) := by decide +kernel
theorem dX3_commandHere_19 : decode cX3_commandHere 19 = .ok (.aload_n 0, 1) := by decide +kernel
theorem dX3_commandHere_20 : decode cX3_commandHere 20 = .ok (.aload 4, 2) := by decide +kernel
theorem dX3_commandHere_22 : decode cX3_commandHere 22 = .ok (.getfield 100, 3) := by decide +kernel
theorem dX3_commandHere_25 : decode cX3_commandHere 25 = .ok (.invokevirtual 75, 3) := by decide +kernel
theorem dX3_commandHere_28 : decode cX3_commandHere 28 = .ok (.ifCond .eq 6, 3) := by decide +kernel
theorem dX3_commandHere_31 : decode cX3_commandHere 31 = .ok (.aload 4, 2) := by decide +kernel
theorem dX3_commandHere_33 : decode cX3_commandHere 33 = .ok (.areturn, 1) := by decide +kernel
theorem dX3_commandHere_34 : decode cX3_commandHere 34 = .ok (.iinc 3 1, 3) := by decide +kernel
theorem dX3_commandHere_37 : decode cX3_commandHere 37 = .ok (.goto (-28), 3) := by decide +kernel
theorem dX3_commandHere_40 : decode cX3_commandHere 40 = .ok (.aconst_null, 1) := by decide +kernel
theorem dX3_commandHere_41 : decode cX3_commandHere 41 = .ok (.areturn, 1) := by decide +kernel
theorem tl_X3_75 : Cond.methodLink RX3 75 yX3_isHere ∈ TMW := tm_in 406 (by decide +kernel) (by decide +kernel)
theorem ti_X3_isHere : Cond.instanceMethod yX3_isHere ∈ TMW := tm_in 408 (by decide +kernel) (by decide +kernel)
theorem ts_X3_isHere : Cond.selects RX3 yX3_isHere yX3_isHere ∈ TMW := tm_in 3 (by decide +kernel) (by decide +kernel)
theorem tc_X3_isHere : Cond.code yX3_isHere cX3_isHere 3 (some .boolean) ∈ TMW := tm_in 409 (by decide +kernel) (by decide +kernel)
def f_X3_commandHere_9b (K0 : tmM → Option (Option Nat × tmM)) (L : Int32 → Int32 → tmM → Option (Option Nat × tmM)) (x2 x3 : Int32) (v : tmM) : Option (Option Nat × tmM) := (if x2 ≤ x3 then K0 v else tm_g (tm_ix x3 12) (tm_g (decide (x3.toNatClampNeg < 12)) (tm_cl (f_X3_isHere (x3.toNatClampNeg) v) fun r3 v2 => (if r3 = 0 then L x2 (x3 + 1) v2 else some (some (x3.toNatClampNeg), v2)))))
set_option maxRecDepth 100000 in
set_option maxHeartbeats 4000000 in
theorem w_X3_commandHere_9b {p : Program} {l : Launch} {e : Env} {s : State} {m : MethodId} {args : Array Value} {below : List Frame} {meth : Method} {c : Code} {D : va_G} {cy : Nat → ClassId} {ad : Nat → Nat} {A : Nat → Prop} {adK adV adE : Nat → Nat} {tC : Nat} {z : (Option Nat × tmM)} {K0 : tmM → Option (Option Nat × tmM)} {L : Int32 → Int32 → tmM → Option (Option Nat × tmM)} (C0 : tmC p s m args meth c cX3_commandHere 5 (some (.object "TableMove$Command")) RX3 TMW tm_NWC D cy tm_shC ad 256 [] A) (hE : tmSc adK adV adE tC A s s.heap) (hK0 : ∀ (w : tmM), tmG p l e ({ frames := 5, cells := 0, slots := 0, locals := 107 } : Room) s m args below meth c 0 0 (MQ below (va_Qe adE (fun r u => z = (r, u)) (tmAt tm_shC 256 D cy ad A) A) args s 0 0 A) 5 D cy tm_shC ad 256 [] A z 40 [] [] w (K0 w)) (hL : ∀ (a2 a3 : Int32) (w : tmM), tmG p l e ({ frames := 5, cells := 0, slots := 0, locals := 107 } : Room) s m args below meth c 0 0 (MQ below (va_Qe adE (fun r u => z = (r, u)) (tmAt tm_shC 256 D cy ad A) A) args s 0 0 A) 5 D cy tm_shC ad 256 [] A z 9 [(0, .ref (ad 251)), (1, .ref tC), (2, .int a2), (3, .int a3)] [] w (L a2 a3 w)) (x2 x3 : Int32) (v : tmM) : tmG p l e ({ frames := 5, cells := 0, slots := 0, locals := 107 } : Room) s m args below meth c 0 0 (MQ below (va_Qe adE (fun r u => z = (r, u)) (tmAt tm_shC 256 D cy ad A) A) args s 0 0 A) 5 D cy tm_shC ad 256 [] A z 9 [(0, .ref (ad 251)), (1, .ref tC), (2, .int x2), (3, .int x3)] [] v (f_X3_commandHere_9b K0 L x2 x3 v) := by
  unfold f_X3_commandHere_9b
  refine tg_iload_n 3 C0 dX3_commandHere_9 rfl rfl ?_
  refine tg_iload_n 2 C0 dX3_commandHere_10 rfl rfl ?_
  refine tg_icmp_ge 40 C0 dX3_commandHere_11 (by decide) (fun _ => ?_) (fun _ => ?_)
  · refine tg_sub [] rfl ?_
    exact hK0 v
  · refine tg_aload_n 1 C0 dX3_commandHere_14 rfl rfl ?_
    refine tg_iload_n 3 C0 dX3_commandHere_15 rfl rfl ?_
    refine ty_oaald C0 dX3_commandHere_16 hE.2.2.2.1 rfl (fun _ => ?_)
    refine tg_astore [(4, .ref (adE x3.toNatClampNeg)), (0, .ref (ad 251)), (1, .ref tC), (2, .int x2), (3, .int x3)] C0 dX3_commandHere_17 (by decide) rfl ?_
    refine tg_aload_n 1 C0 dX3_commandHere_19 rfl rfl ?_
    refine tg_aload 0 C0 dX3_commandHere_20 rfl ?_
    refine tg_g (fun h1 => ?_)
    refine ty_ogetN C0 dX3_commandHere_22 (hE.2.2.2.2.1 (x3.toNatClampNeg) (of_decide_eq_true h1)) tm_nwC_X3_100 rfl ?_
    refine ty_callVi (As := [.ref (adK x3.toNatClampNeg)]) 1 C0 hE dX3_commandHere_25 (c_X3_isHere l (x3.toNatClampNeg) v) rfl rfl (tm_gV tl_X3_75 ti_X3_isHere ts_X3_isHere tn_X3 tc_X3_isHere) (tm_rvW C0 (by decide) rfl rfl) rfl rfl rfl rfl (by decide +kernel) ⟨by decide, by decide⟩ (Nat.le_of_ble_eq_true rfl) ⟨by decide, by decide⟩ (fun r3 v2 _ => ?_)
    refine tg_if_eq 34 C0 dX3_commandHere_28 (by decide) (fun _ => ?_) (fun _ => ?_)
    · refine tg_iinc [(3, .int (x3 + 1)), (4, .ref (adE x3.toNatClampNeg)), (0, .ref (ad 251)), (1, .ref tC), (2, .int x2)] 4 C0 dX3_commandHere_34 rfl rfl (by decide) rfl ?_
      refine tg_goto 9 C0 dX3_commandHere_37 (by decide) ?_
      refine tg_sub [2, 3, 4, 0] rfl ?_
      exact hL x2 (x3 + 1) v2
    · refine tg_aload 0 C0 dX3_commandHere_31 rfl ?_
      exact ty_aretS C0 dX3_commandHere_33
def f_X3_commandHere_9 (K0 : tmM → Option (Option Nat × tmM)) : Nat → Int32 → Int32 → tmM → Option (Option Nat × tmM)
  | 0 => fun _ _ _ => none
  | n + 1 => f_X3_commandHere_9b K0 (f_X3_commandHere_9 K0 n)
theorem w_X3_commandHere_9 {p : Program} {l : Launch} {e : Env} {s : State} {m : MethodId} {args : Array Value} {below : List Frame} {meth : Method} {c : Code} {D : va_G} {cy : Nat → ClassId} {ad : Nat → Nat} {A : Nat → Prop} {adK adV adE : Nat → Nat} {tC : Nat} {z : (Option Nat × tmM)} {K0 : tmM → Option (Option Nat × tmM)} (C0 : tmC p s m args meth c cX3_commandHere 5 (some (.object "TableMove$Command")) RX3 TMW tm_NWC D cy tm_shC ad 256 [] A) (hE : tmSc adK adV adE tC A s s.heap) (hK0 : ∀ (w : tmM), tmG p l e ({ frames := 5, cells := 0, slots := 0, locals := 107 } : Room) s m args below meth c 0 0 (MQ below (va_Qe adE (fun r u => z = (r, u)) (tmAt tm_shC 256 D cy ad A) A) args s 0 0 A) 5 D cy tm_shC ad 256 [] A z 40 [] [] w (K0 w)) (nn : Nat) : ∀ (x2 x3 : Int32) (v : tmM), tmG p l e ({ frames := 5, cells := 0, slots := 0, locals := 107 } : Room) s m args below meth c 0 0 (MQ below (va_Qe adE (fun r u => z = (r, u)) (tmAt tm_shC 256 D cy ad A) A) args s 0 0 A) 5 D cy tm_shC ad 256 [] A z 9 [(0, .ref (ad 251)), (1, .ref tC), (2, .int x2), (3, .int x3)] [] v (f_X3_commandHere_9 K0 nn x2 x3 v) := by
  induction nn with
  | zero => intro _ _ _; exact tg_none
  | succ n ih => intro x2 x3 v; exact w_X3_commandHere_9b C0 hE hK0 ih x2 x3 v
def f_X3_commandHere (v : tmM) : Option (Option Nat × tmM) := f_X3_commandHere_9 (fun v4 => some (none, v4)) 10000 12 0 v
set_option maxRecDepth 100000 in
set_option maxHeartbeats 4000000 in
theorem w_X3_commandHere {p : Program} {l : Launch} {e : Env} {s : State} {m : MethodId} {args : Array Value} {below : List Frame} {meth : Method} {c : Code} {D : va_G} {cy : Nat → ClassId} {ad : Nat → Nat} {A : Nat → Prop} {adK adV adE : Nat → Nat} {tC : Nat} {z : (Option Nat × tmM)} (C0 : tmC p s m args meth c cX3_commandHere 5 (some (.object "TableMove$Command")) RX3 TMW tm_NWC D cy tm_shC ad 256 [] A) (hE : tmSc adK adV adE tC A s s.heap) (v : tmM) : tmG p l e ({ frames := 5, cells := 0, slots := 0, locals := 107 } : Room) s m args below meth c 0 0 (MQ below (va_Qe adE (fun r u => z = (r, u)) (tmAt tm_shC 256 D cy ad A) A) args s 0 0 A) 5 D cy tm_shC ad 256 [] A z 0 [(0, .ref (ad 251))] [] v (f_X3_commandHere v) := by
  unfold f_X3_commandHere
  refine ty_ogsN C0 dX3_commandHere_0 hE.2.2.1 tm_nwC_X3_96 rfl ?_
  refine tg_astore_n [(1, .ref tC), (0, .ref (ad 251))] C0 dX3_commandHere_3 rfl (by decide) rfl ?_
  refine tg_aload_n 0 C0 dX3_commandHere_4 rfl rfl ?_
  refine ty_olen (x := 12) C0 dX3_commandHere_5 hE.2.2.2.1 (by decide) ?_
  refine tg_istore_n [(2, .int 12), (1, .ref tC), (0, .ref (ad 251))] C0 dX3_commandHere_6 rfl (by decide) rfl ?_
  refine tg_iconst (x := 0) C0 dX3_commandHere_7 (by decide) ?_
  refine tg_istore_n [(3, .int 0), (2, .int 12), (1, .ref tC), (0, .ref (ad 251))] C0 dX3_commandHere_8 rfl (by decide) rfl ?_
  refine tg_sub [3, 2, 1, 0] rfl ?_
  refine w_X3_commandHere_9 C0 hE (fun v4 => ?_) 10000 12 0 v
  refine tg_null C0 dX3_commandHere_40 ?_
  exact ty_aretN C0 dX3_commandHere_41
theorem c_X3_commandHere (l : Launch) {adK adV adE : Nat → Nat} {tC : Nat} (v : tmM) : tmYe tm_NWC tm_shC 256 l adK adV adE tC yX3_commandHere (Cond.code yX3_commandHere cX3_commandHere 5 (some (.object "TableMove$Command")) :: TMW) ({ frames := 5, cells := 0, slots := 0, locals := 107 } : Room) (fun ad => [.ref (ad 251)]) v (f_X3_commandHere v) := by
  exact tmYe.of (cc := cX3_commandHere) (nL := 5) (by decide +kernel) rfl tm_NWC_ok (fun _ => Nat.le_of_ble_eq_true rfl) (fun p e s m args below meth c A D cy ad z C0 hE => w_X3_commandHere C0 hE v)
-- ----- X3_parseCommand
theorem dX3_parseCommand_0 : decode cX3_parseCommand 0 = .ok (.aload_n 0, 1) := by decide +kernel
theorem dX3_parseCommand_1 : decode cX3_parseCommand 1 = .ok (.getfield 41, 3) := by decide +kernel
theorem dX3_parseCommand_4 : decode cX3_parseCommand 4 = .ok (.iconst 1, 1) := by decide +kernel
theorem dX3_parseCommand_5 : decode cX3_parseCommand 5 = .ok (.if_icmp .ne 10, 3) := by decide +kernel
theorem dX3_parseCommand_8 : decode cX3_parseCommand 8 = .ok (.aload_n 0, 1) := by decide +kernel
theorem dX3_parseCommand_9 : decode cX3_parseCommand 9 = .ok (.invokevirtual 47, 3) := by decide +kernel
theorem dX3_parseCommand_12 : decode cX3_parseCommand 12 = .ok (.goto 4, 3) := by decide +kernel
theorem dX3_parseCommand_15 : decode cX3_parseCommand 15 = .ok (.aconst_null, 1) := by decide +kernel
theorem dX3_parseCommand_16 : decode cX3_parseCommand 16 = .ok (.astore_n 1, 1) := by decide +kernel
theorem dX3_parseCommand_17 : decode cX3_parseCommand 17 = .ok (.aload_n 1, 1) := by decide +kernel
theorem dX3_parseCommand_18 : decode cX3_parseCommand 18 = .ok (.ifnonnull 9, 3) := by decide +kernel
theorem dX3_parseCommand_21 : decode cX3_parseCommand 21 = .ok (.aload_n 0, 1) := by decide +kernel
theorem dX3_parseCommand_22 : decode cX3_parseCommand 22 = .ok (.iconst 1, 1) := by decide +kernel
theorem dX3_parseCommand_23 : decode cX3_parseCommand 23 = .ok (.invokevirtual 51, 3) := by decide +kernel
theorem dX3_parseCommand_26 : decode cX3_parseCommand 26 = .ok (.return_, 1) := by decide +kernel
theorem dX3_parseCommand_27 : decode cX3_parseCommand 27 = .ok (.aload_n 0, 1) := by decide +kernel
theorem dX3_parseCommand_28 : decode cX3_parseCommand 28 = .ok (.getfield 29, 3) := by decide +kernel
theorem dX3_parseCommand_31 : decode cX3_parseCommand 31 = .ok (.bipush 30, 2) := by decide +kernel
theorem dX3_parseCommand_33 : decode cX3_parseCommand 33 = .ok (.if_icmp .lt 9, 3) := by decide +kernel
theorem dX3_parseCommand_36 : decode cX3_parseCommand 36 = .ok (.aload_n 0, 1) := by decide +kernel
theorem dX3_parseCommand_37 : decode cX3_parseCommand 37 = .ok (.iconst 3, 1) := by decide +kernel
theorem dX3_parseCommand_38 : decode cX3_parseCommand 38 = .ok (.invokevirtual 51, 3) := by decide +kernel
theorem dX3_parseCommand_41 : decode cX3_parseCommand 41 = .ok (.return_, 1) := by decide +kernel
theorem dX3_parseCommand_42 : decode cX3_parseCommand 42 = .ok (.aload_n 0, 1) := by decide +kernel
theorem dX3_parseCommand_43 : decode cX3_parseCommand 43 = .ok (.invokevirtual 38, 3) := by decide +kernel
theorem dX3_parseCommand_46 : decode cX3_parseCommand 46 = .ok (.aload_n 1, 1) := by decide +kernel
theorem dX3_parseCommand_47 : decode cX3_parseCommand 47 = .ok (.getfield 55, 3) := by decide +kernel
theorem dX3_parseCommand_50 : decode cX3_parseCommand 50 = .ok (.iconst 1, 1) := by decide +kernel
theorem dX3_parseCommand_51 : decode cX3_parseCommand 51 = .ok (.if_icmp .lt 18, 3) := by decide +kernel
theorem dX3_parseCommand_54 : decode cX3_parseCommand 54 = .ok (.aload_n 0, 1) := by decide +kernel
theorem dX3_parseCommand_55 : decode cX3_parseCommand 55 = .ok (.aload_n 1, 1) := by decide +kernel
theorem dX3_parseCommand_56 : decode cX3_parseCommand 56 = .ok (.getfield 60, 3) := by decide +kernel
theorem dX3_parseCommand_59 : decode cX3_parseCommand 59 = .ok (.aload_n 1, 1) := by decide +kernel
theorem dX3_parseCommand_60 : decode cX3_parseCommand 60 = .ok (.getfield 63, 3) := by decide +kernel
theorem dX3_parseCommand_63 : decode cX3_parseCommand 63 = .ok (.invokevirtual 66, 3) := by decide +kernel
theorem dX3_parseCommand_66 : decode cX3_parseCommand 66 = .ok (.goto 4, 3) := by decide +kernel
theorem dX3_parseCommand_69 : decode cX3_parseCommand 69 = .ok (.iconst 0, 1) := by decide +kernel
theorem dX3_parseCommand_70 : decode cX3_parseCommand 70 = .ok (.istore_n 2, 1) := by decide +kernel
theorem dX3_parseCommand_71 : decode cX3_parseCommand 71 = .ok (.aload_n 1, 1) := by decide +kernel
theorem dX3_parseCommand_72 : decode cX3_parseCommand 72 = .ok (.getfield 55, 3) := by decide +kernel
theorem dX3_parseCommand_75 : decode cX3_parseCommand 75 = .ok (.iconst 2, 1) := by decide +kernel
theorem dX3_parseCommand_76 : decode cX3_parseCommand 76 = .ok (.if_icmp .lt 14, 3) := by decide +kernel
theorem dX3_parseCommand_79 : decode cX3_parseCommand 79 = .ok (.aload_n 0, 1) := by decide +kernel
theorem dX3_parseCommand_80 : decode cX3_parseCommand 80 = .ok (.iconst 0, 1) := by decide +kernel
theorem dX3_parseCommand_81 : decode cX3_parseCommand 81 = .ok (.sipush 999, 3) := by decide +kernel
theorem dX3_parseCommand_84 : decode cX3_parseCommand 84 = .ok (.invokevirtual 66, 3) := by decide +kernel
theorem dX3_parseCommand_87 : decode cX3_parseCommand 87 = .ok (.goto 4, 3) := by decide +kernel
theorem dX3_parseCommand_90 : decode cX3_parseCommand 90 = .ok (.iconst 0, 1) := by decide +kernel
theorem dX3_parseCommand_91 : decode cX3_parseCommand 91 = .ok (.istore_n 3, 1) := by decide +kernel
theorem dX3_parseCommand_92 : decode cX3_parseCommand 92 = .ok (.aload_n 1, 1) := by decide +kernel
theorem dX3_parseCommand_93 : decode cX3_parseCommand 93 = .ok (.getfield 70, 3) := by decide +kernel
theorem dX3_parseCommand_96 : decode cX3_parseCommand 96 = .ok (.istore 4, 2) := by decide +kernel
theorem dX3_parseCommand_98 : decode cX3_parseCommand 98 = .ok (.iload 4, 2) := by decide +kernel
theorem dX3_parseCommand_100 : decode cX3_parseCommand 100 = .ok (.bipush 7, 2) := by decide +kernel
theorem dX3_parseCommand_102 : decode cX3_parseCommand 102 = .ok (.if_icmp .ne 28, 3) := by decide +kernel
theorem dX3_parseCommand_105 : decode cX3_parseCommand 105 = .ok (.aload_n 0, 1) := by decide +kernel
theorem dX3_parseCommand_106 : decode cX3_parseCommand 106 = .ok (.getfield 41, 3) := by decide +kernel
theorem dX3_parseCommand_109 : decode cX3_parseCommand 109 = .ok (.iconst 1, 1) := by decide +kernel
theorem dX3_parseCommand_110 : decode cX3_parseCommand 110 = .ok (.if_icmp .ne 20, 3) := by decide +kernel
theorem dX3_parseCommand_113 : decode cX3_parseCommand 113 = .ok (.aload_n 0, 1) := by decide +kernel
theorem dX3_parseCommand_114 : decode cX3_parseCommand 114 = .ok (.ldc 73, 2) := by decide +kernel
theorem dX3_parseCommand_116 : decode cX3_parseCommand 116 = .ok (.invokevirtual 75, 3) := by decide +kernel
theorem dX3_parseCommand_119 : decode cX3_parseCommand 119 = .ok (.ifCond .eq 11, 3) := by decide +kernel
theorem dX3_parseCommand_122 : decode cX3_parseCommand 122 = .ok (.bipush 8, 2) := by decide +kernel
theorem dX3_parseCommand_124 : decode cX3_parseCommand 124 = .ok (.istore 4, 2) := by decide +kernel
theorem dX3_parseCommand_126 : decode cX3_parseCommand 126 = .ok (.aload_n 0, 1) := by decide +kernel
theorem dX3_parseCommand_127 : decode cX3_parseCommand 127 = .ok (.invokevirtual 38, 3) := by decide +kernel
theorem dX3_parseCommand_130 : decode cX3_parseCommand 130 = .ok (.aload_n 0, 1) := by decide +kernel
theorem dX3_parseCommand_131 : decode cX3_parseCommand 131 = .ok (.getfield 41, 3) := by decide +kernel
theorem dX3_parseCommand_134 : decode cX3_parseCommand 134 = .ok (.iconst 3, 1) := by decide +kernel
theorem dX3_parseCommand_135 : decode cX3_parseCommand 135 = .ok (.if_icmp .eq 8, 3) := by decide +kernel
theorem dX3_parseCommand_138 : decode cX3_parseCommand 138 = .ok (.aload_n 0, 1) := by decide +kernel
theorem dX3_parseCommand_139 : decode cX3_parseCommand 139 = .ok (.iconst 1, 1) := by decide +kernel
theorem dX3_parseCommand_140 : decode cX3_parseCommand 140 = .ok (.invokevirtual 51, 3) := by decide +kernel
theorem dX3_parseCommand_143 : decode cX3_parseCommand 143 = .ok (.aload_n 0, 1) := by decide +kernel
theorem dX3_parseCommand_144 : decode cX3_parseCommand 144 = .ok (.getfield 32, 3) := by decide +kernel
theorem dX3_parseCommand_147 : decode cX3_parseCommand 147 = .ok (.ifCond .ne 15, 3) := by decide +kernel
theorem dX3_parseCommand_150 : decode cX3_parseCommand 150 = .ok (.aload_n 0, 1) := by decide +kernel
theorem dX3_parseCommand_151 : decode cX3_parseCommand 151 = .ok (.iload 4, 2) := by decide +kernel
theorem dX3_parseCommand_153 : decode cX3_parseCommand 153 = .ok (.iload_n 2, 1) := by decide +kernel
theorem dX3_parseCommand_154 : decode cX3_parseCommand 154 = .ok (.iload_n 3, 1) := by decide +kernel
theorem dX3_parseCommand_155 : decode cX3_parseCommand 155 = .ok (.invokevirtual 79, 3) := by decide +kernel
theorem dX3_parseCommand_158 : decode cX3_parseCommand 158 = .ok (.aload_n 0, 1) := by decide +kernel
theorem dX3_parseCommand_159 : decode cX3_parseCommand 159 = .ok (.invokevirtual 38, 3) := by decide +kernel
theorem dX3_parseCommand_162 : decode cX3_parseCommand 162 = .ok (.return_, 1) := by decide +kernel
theorem tl_X3_47 : Cond.methodLink RX3 47 yX3_commandHere ∈ TMW := tm_in 400 (by decide +kernel) (by decide +kernel)
theorem ti_X3_commandHere : Cond.instanceMethod yX3_commandHere ∈ TMW := tm_in 402 (by decide +kernel) (by decide +kernel)
theorem ts_X3_commandHere : Cond.selects RX3 yX3_commandHere yX3_commandHere ∈ TMW := tm_in 2 (by decide +kernel) (by decide +kernel)
theorem tc_X3_commandHere : Cond.code yX3_commandHere cX3_commandHere 5 (some (.object "TableMove$Command")) ∈ TMW := tm_in 403 (by decide +kernel) (by decide +kernel)
theorem tl_X3_79 : Cond.methodLink RX3 79 yX3_keep ∈ TMW := tm_in 474 (by decide +kernel) (by decide +kernel)
theorem ti_X3_keep : Cond.instanceMethod yX3_keep ∈ TMW := tm_in 476 (by decide +kernel) (by decide +kernel)
theorem ts_X3_keep : Cond.selects RX3 yX3_keep yX3_keep ∈ TMW := tm_in 7 (by decide +kernel) (by decide +kernel)
theorem tc_X3_keep : Cond.code yX3_keep cX3_keep 4 none ∈ TMW := tm_in 477 (by decide +kernel) (by decide +kernel)
theorem tl_X3_66 : Cond.methodLink RX3 66 yX3_parseNumber ∈ TMW := tm_in 461 (by decide +kernel) (by decide +kernel)
theorem ti_X3_parseNumber : Cond.instanceMethod yX3_parseNumber ∈ TMW := tm_in 463 (by decide +kernel) (by decide +kernel)
theorem ts_X3_parseNumber : Cond.selects RX3 yX3_parseNumber yX3_parseNumber ∈ TMW := tm_in 5 (by decide +kernel) (by decide +kernel)
theorem tc_X3_parseNumber : Cond.code yX3_parseNumber cX3_parseNumber 4 (some .int) ∈ TMW := tm_in 464 (by decide +kernel) (by decide +kernel)
def f_X3_parseCommand_143 (x2 x3 x4 : Int32) (v : tmM) : Option (Unit × tmM) := (if (v 251 6) = 0 then tm_cl (f_X3_keep x4 x2 x3 v) fun _ v14 => tm_cl (f_X3_nextToken v14) fun _ v16 => some ((), v16) else some ((), v))
set_option maxRecDepth 100000 in
set_option maxHeartbeats 4000000 in
theorem w_X3_parseCommand_143 {p : Program} {l : Launch} {e : Env} {s : State} {m : MethodId} {args : Array Value} {below : List Frame} {meth : Method} {c : Code} {D : va_G} {cy : Nat → ClassId} {ad : Nat → Nat} {A : Nat → Prop} {adK adV adE : Nat → Nat} {tC : Nat} {z : (Unit × tmM)} (C0 : tmC p s m args meth c cX3_parseCommand 5 none RX3 TMW tm_NWC D cy tm_shC ad 256 [] A) (hE : tmSc adK adV adE tC A s s.heap) (x2 x3 x4 : Int32) (v : tmM) : tmG p l e ({ frames := 6, cells := 0, slots := 0, locals := 131 } : Room) s m args below meth c 0 0 (MQ below (va_Qv (fun u => z = ((), u)) (tmAt tm_shC 256 D cy ad A) A) args s 0 0 A) 5 D cy tm_shC ad 256 [] A z 143 [(0, .ref (ad 251)), (2, .int x2), (3, .int x3), (4, .int x4)] [] v (f_X3_parseCommand_143 x2 x3 x4 v) := by
  unfold f_X3_parseCommand_143
  refine tg_aload_n 0 C0 dX3_parseCommand_143 rfl rfl ?_
  refine tg_get 251 6 C0 dX3_parseCommand_144 (by decide) rfl rfl tu_X3 (by decide) tf_X3_32 rfl rfl rfl ?_
  refine tg_if_ne 162 C0 dX3_parseCommand_147 (by decide) (fun _ => ?_) (fun _ => ?_)
  · exact tg_vret C0 dX3_parseCommand_162
  · refine tg_aload_n 0 C0 dX3_parseCommand_150 rfl rfl ?_
    refine tg_iload 3 C0 dX3_parseCommand_151 rfl ?_
    refine tg_iload_n 1 C0 dX3_parseCommand_153 rfl rfl ?_
    refine tg_iload_n 2 C0 dX3_parseCommand_154 rfl rfl ?_
    refine tg_callVv (As := [.int x4, .int x2, .int x3]) 251 3 C0 dX3_parseCommand_155 (c_X3_keep l x4 x2 x3 v) rfl rfl (by decide) rfl rfl (tm_gV tl_X3_79 ti_X3_keep ts_X3_keep tn_X3 tc_X3_keep)  rfl rfl rfl rfl (by decide +kernel) ⟨by decide, by decide⟩ (Nat.le_of_ble_eq_true rfl) ⟨by decide, by decide⟩ (fun v14 _ => ?_)
    refine tg_aload_n 0 C0 dX3_parseCommand_158 rfl rfl ?_
    refine tg_callVv (As := []) 251 0 C0 dX3_parseCommand_159 (c_X3_nextToken l v14) rfl rfl (by decide) rfl rfl (tm_gV tl_X3_38 ti_X3_nextToken ts_X3_nextToken tn_X3 tc_X3_nextToken)  rfl rfl rfl rfl (by decide +kernel) ⟨by decide, by decide⟩ (Nat.le_of_ble_eq_true rfl) ⟨by decide, by decide⟩ (fun v16 _ => ?_)
    exact tg_vret C0 dX3_parseCommand_162
def f_X3_parseCommand_130 (x2 x3 x4 : Int32) (v : tmM) : Option (Unit × tmM) := (if (v 251 8) = 3 then f_X3_parseCommand_143 x2 x3 x4 v else tm_cl (f_X3_fail 1 v) fun _ v18 => f_X3_parseCommand_143 x2 x3 x4 v18)
set_option maxRecDepth 100000 in
set_option maxHeartbeats 4000000 in
theorem w_X3_parseCommand_130 {p : Program} {l : Launch} {e : Env} {s : State} {m : MethodId} {args : Array Value} {below : List Frame} {meth : Method} {c : Code} {D : va_G} {cy : Nat → ClassId} {ad : Nat → Nat} {A : Nat → Prop} {adK adV adE : Nat → Nat} {tC : Nat} {z : (Unit × tmM)} (C0 : tmC p s m args meth c cX3_parseCommand 5 none RX3 TMW tm_NWC D cy tm_shC ad 256 [] A) (hE : tmSc adK adV adE tC A s s.heap) (x2 x3 x4 : Int32) (v : tmM) : tmG p l e ({ frames := 6, cells := 0, slots := 0, locals := 131 } : Room) s m args below meth c 0 0 (MQ below (va_Qv (fun u => z = ((), u)) (tmAt tm_shC 256 D cy ad A) A) args s 0 0 A) 5 D cy tm_shC ad 256 [] A z 130 [(0, .ref (ad 251)), (2, .int x2), (3, .int x3), (4, .int x4)] [] v (f_X3_parseCommand_130 x2 x3 x4 v) := by
  unfold f_X3_parseCommand_130
  refine tg_aload_n 0 C0 dX3_parseCommand_130 rfl rfl ?_
  refine tg_get 251 8 C0 dX3_parseCommand_131 (by decide) rfl rfl tu_X3 (by decide) tf_X3_41 rfl rfl rfl ?_
  refine tg_iconst (x := 3) C0 dX3_parseCommand_134 (by decide) ?_
  refine tg_icmp_eq 143 C0 dX3_parseCommand_135 (by decide) (fun _ => ?_) (fun _ => ?_)
  · exact w_X3_parseCommand_143 C0 hE x2 x3 x4 v
  · refine tg_aload_n 0 C0 dX3_parseCommand_138 rfl rfl ?_
    refine tg_iconst (x := 1) C0 dX3_parseCommand_139 (by decide) ?_
    refine tg_callVv (As := [.int 1]) 251 1 C0 dX3_parseCommand_140 (c_X3_fail l 1 v) rfl rfl (by decide) rfl rfl (tm_gV tl_X3_51 ti_X3_fail ts_X3_fail tn_X3 tc_X3_fail)  rfl rfl rfl rfl (by decide +kernel) ⟨by decide, by decide⟩ (Nat.le_of_ble_eq_true rfl) ⟨by decide, by decide⟩ (fun v18 _ => ?_)
    exact w_X3_parseCommand_143 C0 hE x2 x3 x4 v18
def f_X3_parseCommand_91 (o1 : Nat) (x2 s0 : Int32) (v : tmM) : Option (Unit × tmM) := tm_g (decide (o1 < 12)) (tm_lt (tm_act.getD o1 0) fun y13 => (if y13 = 7 then (if (v 251 8) = 1 then tm_cl (f_X3_isHere 12 v) fun r21 v20 => (if r21 = 0 then f_X3_parseCommand_130 x2 s0 y13 v20 else tm_cl (f_X3_nextToken v20) fun _ v22 => f_X3_parseCommand_130 x2 s0 8 v22) else f_X3_parseCommand_130 x2 s0 y13 v) else f_X3_parseCommand_130 x2 s0 y13 v))
set_option maxRecDepth 100000 in
set_option maxHeartbeats 4000000 in
theorem w_X3_parseCommand_91 {p : Program} {l : Launch} {e : Env} {s : State} {m : MethodId} {args : Array Value} {below : List Frame} {meth : Method} {c : Code} {D : va_G} {cy : Nat → ClassId} {ad : Nat → Nat} {A : Nat → Prop} {adK adV adE : Nat → Nat} {tC : Nat} {z : (Unit × tmM)} (C0 : tmC p s m args meth c cX3_parseCommand 5 none RX3 TMW tm_NWC D cy tm_shC ad 256 [] A) (hE : tmSc adK adV adE tC A s s.heap) (o1 : Nat) (x2 s0 : Int32) (v : tmM) : tmG p l e ({ frames := 6, cells := 0, slots := 0, locals := 131 } : Room) s m args below meth c 0 0 (MQ below (va_Qv (fun u => z = ((), u)) (tmAt tm_shC 256 D cy ad A) A) args s 0 0 A) 5 D cy tm_shC ad 256 [] A z 91 [(0, .ref (ad 251)), (1, .ref (adE o1)), (2, .int x2)] [.int s0] v (f_X3_parseCommand_91 o1 x2 s0 v) := by
  unfold f_X3_parseCommand_91
  refine tg_istore_n [(3, .int s0), (0, .ref (ad 251)), (1, .ref (adE o1)), (2, .int x2)] C0 dX3_parseCommand_91 rfl (by decide) rfl ?_
  refine tg_aload_n 2 C0 dX3_parseCommand_92 rfl rfl ?_
  refine tg_g (fun h12 => ?_)
  refine ty_ogetN C0 dX3_parseCommand_93 (hE.2.2.2.2.2.1 o1 (of_decide_eq_true h12)) tm_nwC_X3_70 rfl ?_
  refine tg_leti (fun y13 _ => ?_)
  refine tg_istore [(4, .int y13), (3, .int s0), (0, .ref (ad 251)), (1, .ref (adE o1)), (2, .int x2)] C0 dX3_parseCommand_96 (by decide) rfl ?_
  refine tg_iload 0 C0 dX3_parseCommand_98 rfl ?_
  refine tg_bipush (x := 7) C0 dX3_parseCommand_100 (by decide) ?_
  refine tg_icmp_ne 130 C0 dX3_parseCommand_102 (by decide) (fun _ => ?_) (fun _ => ?_)
  · refine tg_sub [2, 4, 1, 0] rfl ?_
    exact w_X3_parseCommand_130 C0 hE x2 s0 y13 v
  · refine tg_aload_n 2 C0 dX3_parseCommand_105 rfl rfl ?_
    refine tg_get 251 8 C0 dX3_parseCommand_106 (by decide) rfl rfl tu_X3 (by decide) tf_X3_41 rfl rfl rfl ?_
    refine tg_iconst (x := 1) C0 dX3_parseCommand_109 (by decide) ?_
    refine tg_icmp_ne 130 C0 dX3_parseCommand_110 (by decide) (fun _ => ?_) (fun _ => ?_)
    · refine tg_sub [2, 4, 1, 0] rfl ?_
      exact w_X3_parseCommand_130 C0 hE x2 s0 y13 v
    · refine tg_aload_n 2 C0 dX3_parseCommand_113 rfl rfl ?_
      refine ty_ldcs C0 dX3_parseCommand_114 hE.2.2.2.2.2.2.2.2.2.1 ?_
      refine ty_callVi (As := [.ref (adK 12)]) 1 C0 hE dX3_parseCommand_116 (c_X3_isHere l 12 v) rfl rfl (tm_gV tl_X3_75 ti_X3_isHere ts_X3_isHere tn_X3 tc_X3_isHere) (tm_rvW C0 (by decide) rfl rfl) rfl rfl rfl rfl (by decide +kernel) ⟨by decide, by decide⟩ (Nat.le_of_ble_eq_true rfl) ⟨by decide, by decide⟩ (fun r21 v20 _ => ?_)
      refine tg_if_eq 130 C0 dX3_parseCommand_119 (by decide) (fun _ => ?_) (fun _ => ?_)
      · refine tg_sub [2, 4, 1, 0] rfl ?_
        exact w_X3_parseCommand_130 C0 hE x2 s0 y13 v20
      · refine tg_bipush (x := 8) C0 dX3_parseCommand_122 (by decide) ?_
        refine tg_istore [(4, .int 8), (3, .int s0), (0, .ref (ad 251)), (1, .ref (adE o1)), (2, .int x2)] C0 dX3_parseCommand_124 (by decide) rfl ?_
        refine tg_aload_n 2 C0 dX3_parseCommand_126 rfl rfl ?_
        refine tg_callVv (As := []) 251 0 C0 dX3_parseCommand_127 (c_X3_nextToken l v20) rfl rfl (by decide) rfl rfl (tm_gV tl_X3_38 ti_X3_nextToken ts_X3_nextToken tn_X3 tc_X3_nextToken)  rfl rfl rfl rfl (by decide +kernel) ⟨by decide, by decide⟩ (Nat.le_of_ble_eq_true rfl) ⟨by decide, by decide⟩ (fun v22 _ => ?_)
        refine tg_sub [2, 4, 1, 0] rfl ?_
        exact w_X3_parseCommand_130 C0 hE x2 s0 8 v22
def f_X3_parseCommand_70 (o1 : Nat) (s0 : Int32) (v : tmM) : Option (Unit × tmM) := tm_g (decide (o1 < 12)) ((if (tm_nums.getD o1 0) < 2 then f_X3_parseCommand_91 o1 s0 0 v else tm_cl (f_X3_parseNumber 0 999 v) fun r25 v24 => f_X3_parseCommand_91 o1 s0 r25 v24))
set_option maxRecDepth 100000 in
set_option maxHeartbeats 4000000 in
theorem w_X3_parseCommand_70 {p : Program} {l : Launch} {e : Env} {s : State} {m : MethodId} {args : Array Value} {below : List Frame} {meth : Method} {c : Code} {D : va_G} {cy : Nat → ClassId} {ad : Nat → Nat} {A : Nat → Prop} {adK adV adE : Nat → Nat} {tC : Nat} {z : (Unit × tmM)} (C0 : tmC p s m args meth c cX3_parseCommand 5 none RX3 TMW tm_NWC D cy tm_shC ad 256 [] A) (hE : tmSc adK adV adE tC A s s.heap) (o1 : Nat) (s0 : Int32) (v : tmM) : tmG p l e ({ frames := 6, cells := 0, slots := 0, locals := 131 } : Room) s m args below meth c 0 0 (MQ below (va_Qv (fun u => z = ((), u)) (tmAt tm_shC 256 D cy ad A) A) args s 0 0 A) 5 D cy tm_shC ad 256 [] A z 70 [(0, .ref (ad 251)), (1, .ref (adE o1))] [.int s0] v (f_X3_parseCommand_70 o1 s0 v) := by
  unfold f_X3_parseCommand_70
  refine tg_istore_n [(2, .int s0), (0, .ref (ad 251)), (1, .ref (adE o1))] C0 dX3_parseCommand_70 rfl (by decide) rfl ?_
  refine tg_aload_n 2 C0 dX3_parseCommand_71 rfl rfl ?_
  refine tg_g (fun h11 => ?_)
  refine ty_ogetN C0 dX3_parseCommand_72 (hE.2.2.2.2.2.2.1 o1 (of_decide_eq_true h11)) tm_nwC_X3_55 rfl ?_
  refine tg_iconst (x := 2) C0 dX3_parseCommand_75 (by decide) ?_
  refine tg_icmp_lt 90 C0 dX3_parseCommand_76 (by decide) (fun _ => ?_) (fun _ => ?_)
  · refine tg_iconst (x := 0) C0 dX3_parseCommand_90 (by decide) ?_
    refine tg_sub [1, 2, 0] rfl ?_
    exact w_X3_parseCommand_91 C0 hE o1 s0 0 v
  · refine tg_aload_n 1 C0 dX3_parseCommand_79 rfl rfl ?_
    refine tg_iconst (x := 0) C0 dX3_parseCommand_80 (by decide) ?_
    refine tg_sipush (x := 999) C0 dX3_parseCommand_81 (by decide) ?_
    refine tg_callVi (As := [.int 0, .int 999]) 251 2 C0 dX3_parseCommand_84 (c_X3_parseNumber l 0 999 v) rfl rfl (by decide) rfl rfl (tm_gV tl_X3_66 ti_X3_parseNumber ts_X3_parseNumber tn_X3 tc_X3_parseNumber)  rfl rfl rfl rfl (by decide +kernel) ⟨by decide, by decide⟩ (Nat.le_of_ble_eq_true rfl) ⟨by decide, by decide⟩ (fun r25 v24 _ => ?_)
    refine tg_goto 91 C0 dX3_parseCommand_87 (by decide) ?_
    refine tg_sub [1, 2, 0] rfl ?_
    exact w_X3_parseCommand_91 C0 hE o1 s0 r25 v24
def f_X3_parseCommand (v : tmM) : Option (Unit × tmM) := (if (v 251 8) = 1 then tm_cl (f_X3_commandHere v) fun r4 v3 => tm_oc r4 (tm_cl (f_X3_fail 1 v3) fun _ v6 => some ((), v6)) fun i5 => (if (v3 251 5) < 30 then tm_cl (f_X3_nextToken v3) fun _ v8 => tm_g (decide (i5 < 12)) ((if (tm_nums.getD i5 0) < 1 then f_X3_parseCommand_70 i5 0 v8 else tm_g (decide (i5 < 12)) (tm_g (decide (i5 < 12)) (tm_cl (f_X3_parseNumber (tm_lea.getD i5 0) (tm_gre.getD i5 0) v8) fun r29 v28 => f_X3_parseCommand_70 i5 r29 v28)))) else tm_cl (f_X3_fail 3 v3) fun _ v30 => some ((), v30)) else tm_cl (f_X3_fail 1 v) fun _ v1 => some ((), v1))
set_option maxRecDepth 100000 in
set_option maxHeartbeats 4000000 in
theorem w_X3_parseCommand {p : Program} {l : Launch} {e : Env} {s : State} {m : MethodId} {args : Array Value} {below : List Frame} {meth : Method} {c : Code} {D : va_G} {cy : Nat → ClassId} {ad : Nat → Nat} {A : Nat → Prop} {adK adV adE : Nat → Nat} {tC : Nat} {z : (Unit × tmM)} (C0 : tmC p s m args meth c cX3_parseCommand 5 none RX3 TMW tm_NWC D cy tm_shC ad 256 [] A) (hE : tmSc adK adV adE tC A s s.heap) (v : tmM) : tmG p l e ({ frames := 6, cells := 0, slots := 0, locals := 131 } : Room) s m args below meth c 0 0 (MQ below (va_Qv (fun u => z = ((), u)) (tmAt tm_shC 256 D cy ad A) A) args s 0 0 A) 5 D cy tm_shC ad 256 [] A z 0 [(0, .ref (ad 251))] [] v (f_X3_parseCommand v) := by
  unfold f_X3_parseCommand
  refine tg_aload_n 0 C0 dX3_parseCommand_0 rfl rfl ?_
  refine tg_get 251 8 C0 dX3_parseCommand_1 (by decide) rfl rfl tu_X3 (by decide) tf_X3_41 rfl rfl rfl ?_
  refine tg_iconst (x := 1) C0 dX3_parseCommand_4 (by decide) ?_
  refine tg_icmp_ne 15 C0 dX3_parseCommand_5 (by decide) (fun _ => ?_) (fun _ => ?_)
  · refine tg_null C0 dX3_parseCommand_15 ?_
    refine ty_astoreN [(1, .null), (0, .ref (ad 251))] C0 dX3_parseCommand_16 rfl (by decide) rfl ?_
    refine ty_aloadN 0 C0 dX3_parseCommand_17 rfl rfl ?_
    refine ty_nnN C0 dX3_parseCommand_18 ?_
    refine tg_aload_n 1 C0 dX3_parseCommand_21 rfl rfl ?_
    refine tg_iconst (x := 1) C0 dX3_parseCommand_22 (by decide) ?_
    refine tg_callVv (As := [.int 1]) 251 1 C0 dX3_parseCommand_23 (c_X3_fail l 1 v) rfl rfl (by decide) rfl rfl (tm_gV tl_X3_51 ti_X3_fail ts_X3_fail tn_X3 tc_X3_fail)  rfl rfl rfl rfl (by decide +kernel) ⟨by decide, by decide⟩ (Nat.le_of_ble_eq_true rfl) ⟨by decide, by decide⟩ (fun v1 _ => ?_)
    exact tg_vret C0 dX3_parseCommand_26
  · refine tg_aload_n 0 C0 dX3_parseCommand_8 rfl rfl ?_
    refine ty_callVe (As := []) 0 C0 hE dX3_parseCommand_9 (c_X3_commandHere l v) rfl rfl (tm_gV tl_X3_47 ti_X3_commandHere ts_X3_commandHere tn_X3 tc_X3_commandHere) (tm_rvW C0 (by decide) rfl rfl) rfl rfl rfl rfl (by decide +kernel) ⟨by decide, by decide⟩ (Nat.le_of_ble_eq_true rfl) ⟨by decide, by decide⟩ (fun v3 _ => ?_) (fun i5 v3 _ => ?_)
    · refine tg_goto 16 C0 dX3_parseCommand_12 (by decide) ?_
      refine ty_astoreN [(1, .null), (0, .ref (ad 251))] C0 dX3_parseCommand_16 rfl (by decide) rfl ?_
      refine ty_aloadN 0 C0 dX3_parseCommand_17 rfl rfl ?_
      refine ty_nnN C0 dX3_parseCommand_18 ?_
      refine tg_aload_n 1 C0 dX3_parseCommand_21 rfl rfl ?_
      refine tg_iconst (x := 1) C0 dX3_parseCommand_22 (by decide) ?_
      refine tg_callVv (As := [.int 1]) 251 1 C0 dX3_parseCommand_23 (c_X3_fail l 1 v3) rfl rfl (by decide) rfl rfl (tm_gV tl_X3_51 ti_X3_fail ts_X3_fail tn_X3 tc_X3_fail)  rfl rfl rfl rfl (by decide +kernel) ⟨by decide, by decide⟩ (Nat.le_of_ble_eq_true rfl) ⟨by decide, by decide⟩ (fun v6 _ => ?_)
      exact tg_vret C0 dX3_parseCommand_26
    · refine tg_goto 16 C0 dX3_parseCommand_12 (by decide) ?_
      refine tg_astore_n [(1, .ref (adE i5)), (0, .ref (ad 251))] C0 dX3_parseCommand_16 rfl (by decide) rfl ?_
      refine tg_aload_n 0 C0 dX3_parseCommand_17 rfl rfl ?_
      refine ty_nn 27 C0 dX3_parseCommand_18 (by decide) ?_
      refine tg_aload_n 1 C0 dX3_parseCommand_27 rfl rfl ?_
      refine tg_get 251 5 C0 dX3_parseCommand_28 (by decide) rfl rfl tu_X3 (by decide) tf_X3_29 rfl rfl rfl ?_
      refine tg_bipush (x := 30) C0 dX3_parseCommand_31 (by decide) ?_
      refine tg_icmp_lt 42 C0 dX3_parseCommand_33 (by decide) (fun _ => ?_) (fun _ => ?_)
      · refine tg_aload_n 1 C0 dX3_parseCommand_42 rfl rfl ?_
        refine tg_callVv (As := []) 251 0 C0 dX3_parseCommand_43 (c_X3_nextToken l v3) rfl rfl (by decide) rfl rfl (tm_gV tl_X3_38 ti_X3_nextToken ts_X3_nextToken tn_X3 tc_X3_nextToken)  rfl rfl rfl rfl (by decide +kernel) ⟨by decide, by decide⟩ (Nat.le_of_ble_eq_true rfl) ⟨by decide, by decide⟩ (fun v8 _ => ?_)
        refine tg_aload_n 0 C0 dX3_parseCommand_46 rfl rfl ?_
        refine tg_g (fun h10 => ?_)
        refine ty_ogetN C0 dX3_parseCommand_47 (hE.2.2.2.2.2.2.1 i5 (of_decide_eq_true h10)) tm_nwC_X3_55 rfl ?_
        refine tg_iconst (x := 1) C0 dX3_parseCommand_50 (by decide) ?_
        refine tg_icmp_lt 69 C0 dX3_parseCommand_51 (by decide) (fun _ => ?_) (fun _ => ?_)
        · refine tg_iconst (x := 0) C0 dX3_parseCommand_69 (by decide) ?_
          refine tg_sub [1, 0] rfl ?_
          exact w_X3_parseCommand_70 C0 hE i5 0 v8
        · refine tg_aload_n 1 C0 dX3_parseCommand_54 rfl rfl ?_
          refine tg_aload_n 0 C0 dX3_parseCommand_55 rfl rfl ?_
          refine tg_g (fun h26 => ?_)
          refine ty_ogetN C0 dX3_parseCommand_56 (hE.2.2.2.2.2.2.2.1 i5 (of_decide_eq_true h26)) tm_nwC_X3_60 rfl ?_
          refine tg_aload_n 0 C0 dX3_parseCommand_59 rfl rfl ?_
          refine tg_g (fun h27 => ?_)
          refine ty_ogetN C0 dX3_parseCommand_60 (hE.2.2.2.2.2.2.2.2.1 i5 (of_decide_eq_true h27)) tm_nwC_X3_63 rfl ?_
          refine tg_callVi (As := [.int (tm_lea.getD i5 0), .int (tm_gre.getD i5 0)]) 251 2 C0 dX3_parseCommand_63 (c_X3_parseNumber l (tm_lea.getD i5 0) (tm_gre.getD i5 0) v8) rfl rfl (by decide) rfl rfl (tm_gV tl_X3_66 ti_X3_parseNumber ts_X3_parseNumber tn_X3 tc_X3_parseNumber)  rfl rfl rfl rfl (by decide +kernel) ⟨by decide, by decide⟩ (Nat.le_of_ble_eq_true rfl) ⟨by decide, by decide⟩ (fun r29 v28 _ => ?_)
          refine tg_goto 70 C0 dX3_parseCommand_66 (by decide) ?_
          refine tg_sub [1, 0] rfl ?_
          exact w_X3_parseCommand_70 C0 hE i5 r29 v28
      · refine tg_aload_n 1 C0 dX3_parseCommand_36 rfl rfl ?_
        refine tg_iconst (x := 3) C0 dX3_parseCommand_37 (by decide) ?_
        refine tg_callVv (As := [.int 3]) 251 1 C0 dX3_parseCommand_38 (c_X3_fail l 3 v3) rfl rfl (by decide) rfl rfl (tm_gV tl_X3_51 ti_X3_fail ts_X3_fail tn_X3 tc_X3_fail)  rfl rfl rfl rfl (by decide +kernel) ⟨by decide, by decide⟩ (Nat.le_of_ble_eq_true rfl) ⟨by decide, by decide⟩ (fun v30 _ => ?_)
        exact tg_vret C0 dX3_parseCommand_41
theorem c_X3_parseCommand (l : Launch) {adK adV adE : Nat → Nat} {tC : Nat} (v : tmM) : tmYv tm_NWC tm_shC 256 l adK adV adE tC yX3_parseCommand (Cond.code yX3_parseCommand cX3_parseCommand 5 none :: TMW) ({ frames := 6, cells := 0, slots := 0, locals := 131 } : Room) (fun ad => [.ref (ad 251)]) v (f_X3_parseCommand v) := by
  exact tmYv.of (cc := cX3_parseCommand) (nL := 5) (by decide +kernel) rfl tm_NWC_ok (fun _ => Nat.le_of_ble_eq_true rfl) (fun p e s m args below meth c A D cy ad z C0 hE => w_X3_parseCommand C0 hE v)
-- ----- X3_parse
theorem dX3_parse_0 : decode cX3_parse 0 = .ok (.aload_n 0, 1) := by decide +kernel
theorem dX3_parse_1 : decode cX3_parse 1 = .ok (.iconst 0, 1) := by decide +kernel
theorem dX3_parse_2 : decode cX3_parse 2 = .ok (.putfield 29, 3) := by decide +kernel
theorem dX3_parse_5 : decode cX3_parse 5 = .ok (.aload_n 0, 1) := by decide +kernel
theorem dX3_parse_6 : decode cX3_parse 6 = .ok (.iconst 0, 1) := by decide +kernel
theorem dX3_parse_7 : decode cX3_parse 7 = .ok (.putfield 32, 3) := by decide +kernel
theorem dX3_parse_10 : decode cX3_parse 10 = .ok (.aload_n 0, 1) := by decide +kernel
theorem dX3_parse_11 : decode cX3_parse 11 = .ok (.iconst (-1), 1) := by decide +kernel
theorem dX3_parse_12 : decode cX3_parse 12 = .ok (.putfield 25, 3) := by decide +kernel
theorem dX3_parse_15 : decode cX3_parse 15 = .ok (.aload_n 0, 1) := by decide +kernel
theorem dX3_parse_16 : decode cX3_parse 16 = .ok (.iconst 0, 1) := by decide +kernel
theorem dX3_parse_17 : decode cX3_parse 17 = .ok (.putfield 35, 3) := by decide +kernel
theorem dX3_parse_20 : decode cX3_parse 20 = .ok (.aload_n 0, 1) := by decide +kernel
theorem dX3_parse_21 : decode cX3_parse 21 = .ok (.invokevirtual 38, 3) := by decide +kernel
theorem dX3_parse_24 : decode cX3_parse 24 = .ok (.iconst 0, 1) := by decide +kernel
theorem dX3_parse_25 : decode cX3_parse 25 = .ok (.istore_n 1, 1) := by decide +kernel
theorem dX3_parse_26 : decode cX3_parse 26 = .ok (.iload_n 1, 1) := by decide +kernel
theorem dX3_parse_27 : decode cX3_parse 27 = .ok (.bipush 30, 2) := by decide +kernel
theorem dX3_parse_29 : decode cX3_parse 29 = .ok (.if_icmp .gt 27, 3) := by decide +kernel
theorem dX3_parse_32 : decode cX3_parse 32 = .ok (.aload_n 0, 1) := by decide +kernel
theorem dX3_parse_33 : decode cX3_parse 33 = .ok (.getfield 32, 3) := by decide +kernel
theorem dX3_parse_36 : decode cX3_parse 36 = .ok (.ifCond .ne 20, 3) := by decide +kernel
theorem dX3_parse_39 : decode cX3_parse 39 = .ok (.aload_n 0, 1) := by decide +kernel
theorem dX3_parse_40 : decode cX3_parse 40 = .ok (.getfield 41, 3) := by decide +kernel
theorem dX3_parse_43 : decode cX3_parse 43 = .ok (.ifCond .eq 13, 3) := by decide +kernel
theorem dX3_parse_46 : decode cX3_parse 46 = .ok (.aload_n 0, 1) := by decide +kernel
theorem dX3_parse_47 : decode cX3_parse 47 = .ok (.invokevirtual 44, 3) := by decide +kernel
theorem dX3_parse_50 : decode cX3_parse 50 = .ok (.iinc 1 1, 3) := by decide +kernel
theorem dX3_parse_53 : decode cX3_parse 53 = .ok (.goto (-27), 3) := by decide +kernel
theorem dX3_parse_56 : decode cX3_parse 56 = .ok (.return_, 1) := by decide +kernel
theorem tl_X3_44 : Cond.methodLink RX3 44 yX3_parseCommand ∈ TMW := tm_in 396 (by decide +kernel) (by decide +kernel)
theorem ti_X3_parseCommand : Cond.instanceMethod yX3_parseCommand ∈ TMW := tm_in 398 (by decide +kernel) (by decide +kernel)
theorem ts_X3_parseCommand : Cond.selects RX3 yX3_parseCommand yX3_parseCommand ∈ TMW := tm_in 1 (by decide +kernel) (by decide +kernel)
theorem tc_X3_parseCommand : Cond.code yX3_parseCommand cX3_parseCommand 5 none ∈ TMW := tm_in 399 (by decide +kernel) (by decide +kernel)
def f_X3_parse_26b (K0 : tmM → Option (Unit × tmM)) (L : Int32 → tmM → Option (Unit × tmM)) (x1 : Int32) (v : tmM) : Option (Unit × tmM) := (if 30 < x1 then K0 v else (if (v 251 6) = 0 then (if (v 251 8) = 0 then K0 v else tm_cl (f_X3_parseCommand v) fun _ v7 => L (x1 + 1) v7) else K0 v))
set_option maxRecDepth 100000 in
set_option maxHeartbeats 4000000 in
theorem w_X3_parse_26b {p : Program} {l : Launch} {e : Env} {s : State} {m : MethodId} {args : Array Value} {below : List Frame} {meth : Method} {c : Code} {D : va_G} {cy : Nat → ClassId} {ad : Nat → Nat} {A : Nat → Prop} {adK adV adE : Nat → Nat} {tC : Nat} {z : (Unit × tmM)} {K0 : tmM → Option (Unit × tmM)} {L : Int32 → tmM → Option (Unit × tmM)} (C0 : tmC p s m args meth c cX3_parse 2 none RX3 TMW tm_NWC D cy tm_shC ad 256 [] A) (hE : tmSc adK adV adE tC A s s.heap) (hK0 : ∀ (w : tmM), tmG p l e ({ frames := 7, cells := 0, slots := 0, locals := 155 } : Room) s m args below meth c 0 0 (MQ below (va_Qv (fun u => z = ((), u)) (tmAt tm_shC 256 D cy ad A) A) args s 0 0 A) 2 D cy tm_shC ad 256 [] A z 56 [] [] w (K0 w)) (hL : ∀ (a1 : Int32) (w : tmM), tmG p l e ({ frames := 7, cells := 0, slots := 0, locals := 155 } : Room) s m args below meth c 0 0 (MQ below (va_Qv (fun u => z = ((), u)) (tmAt tm_shC 256 D cy ad A) A) args s 0 0 A) 2 D cy tm_shC ad 256 [] A z 26 [(0, .ref (ad 251)), (1, .int a1)] [] w (L a1 w)) (x1 : Int32) (v : tmM) : tmG p l e ({ frames := 7, cells := 0, slots := 0, locals := 155 } : Room) s m args below meth c 0 0 (MQ below (va_Qv (fun u => z = ((), u)) (tmAt tm_shC 256 D cy ad A) A) args s 0 0 A) 2 D cy tm_shC ad 256 [] A z 26 [(0, .ref (ad 251)), (1, .int x1)] [] v (f_X3_parse_26b K0 L x1 v) := by
  unfold f_X3_parse_26b
  refine tg_iload_n 1 C0 dX3_parse_26 rfl rfl ?_
  refine tg_bipush (x := 30) C0 dX3_parse_27 (by decide) ?_
  refine tg_icmp_gt 56 C0 dX3_parse_29 (by decide) (fun _ => ?_) (fun _ => ?_)
  · refine tg_sub [] rfl ?_
    exact hK0 v
  · refine tg_aload_n 0 C0 dX3_parse_32 rfl rfl ?_
    refine tg_get 251 6 C0 dX3_parse_33 (by decide) rfl rfl tu_X3 (by decide) tf_X3_32 rfl rfl rfl ?_
    refine tg_if_ne 56 C0 dX3_parse_36 (by decide) (fun _ => ?_) (fun _ => ?_)
    · refine tg_sub [] rfl ?_
      exact hK0 v
    · refine tg_aload_n 0 C0 dX3_parse_39 rfl rfl ?_
      refine tg_get 251 8 C0 dX3_parse_40 (by decide) rfl rfl tu_X3 (by decide) tf_X3_41 rfl rfl rfl ?_
      refine tg_if_eq 56 C0 dX3_parse_43 (by decide) (fun _ => ?_) (fun _ => ?_)
      · refine tg_sub [] rfl ?_
        exact hK0 v
      · refine tg_aload_n 0 C0 dX3_parse_46 rfl rfl ?_
        refine ty_callVv (As := []) 0 C0 hE dX3_parse_47 (c_X3_parseCommand l v) rfl rfl (tm_gV tl_X3_44 ti_X3_parseCommand ts_X3_parseCommand tn_X3 tc_X3_parseCommand) (tm_rvW C0 (by decide) rfl rfl) rfl rfl rfl rfl (by decide +kernel) ⟨by decide, by decide⟩ (Nat.le_of_ble_eq_true rfl) ⟨by decide, by decide⟩ (fun v7 _ => ?_)
        refine tg_iinc [(1, .int (x1 + 1)), (0, .ref (ad 251))] 1 C0 dX3_parse_50 rfl rfl (by decide) rfl ?_
        refine tg_goto 26 C0 dX3_parse_53 (by decide) ?_
        refine tg_sub [1, 0] rfl ?_
        exact hL (x1 + 1) v7
def f_X3_parse_26 (K0 : tmM → Option (Unit × tmM)) : Nat → Int32 → tmM → Option (Unit × tmM)
  | 0 => fun _ _ => none
  | n + 1 => f_X3_parse_26b K0 (f_X3_parse_26 K0 n)
theorem w_X3_parse_26 {p : Program} {l : Launch} {e : Env} {s : State} {m : MethodId} {args : Array Value} {below : List Frame} {meth : Method} {c : Code} {D : va_G} {cy : Nat → ClassId} {ad : Nat → Nat} {A : Nat → Prop} {adK adV adE : Nat → Nat} {tC : Nat} {z : (Unit × tmM)} {K0 : tmM → Option (Unit × tmM)} (C0 : tmC p s m args meth c cX3_parse 2 none RX3 TMW tm_NWC D cy tm_shC ad 256 [] A) (hE : tmSc adK adV adE tC A s s.heap) (hK0 : ∀ (w : tmM), tmG p l e ({ frames := 7, cells := 0, slots := 0, locals := 155 } : Room) s m args below meth c 0 0 (MQ below (va_Qv (fun u => z = ((), u)) (tmAt tm_shC 256 D cy ad A) A) args s 0 0 A) 2 D cy tm_shC ad 256 [] A z 56 [] [] w (K0 w)) (nn : Nat) : ∀ (x1 : Int32) (v : tmM), tmG p l e ({ frames := 7, cells := 0, slots := 0, locals := 155 } : Room) s m args below meth c 0 0 (MQ below (va_Qv (fun u => z = ((), u)) (tmAt tm_shC 256 D cy ad A) A) args s 0 0 A) 2 D cy tm_shC ad 256 [] A z 26 [(0, .ref (ad 251)), (1, .int x1)] [] v (f_X3_parse_26 K0 nn x1 v) := by
  induction nn with
  | zero => intro _ _; exact tg_none
  | succ n ih => intro x1 v; exact w_X3_parse_26b C0 hE hK0 ih x1 v
def f_X3_parse (v : tmM) : Option (Unit × tmM) := tm_lt (tm_up v 251 5 0) fun v1 => tm_lt (tm_up v1 251 6 0) fun v2 => tm_lt (tm_up v2 251 7 (-1)) fun v3 => tm_lt (tm_up v3 251 10 0) fun v4 => tm_cl (f_X3_nextToken v4) fun _ v5 => f_X3_parse_26 (fun v9 => some ((), v9)) 10000 0 v5
set_option maxRecDepth 100000 in
set_option maxHeartbeats 4000000 in
theorem w_X3_parse {p : Program} {l : Launch} {e : Env} {s : State} {m : MethodId} {args : Array Value} {below : List Frame} {meth : Method} {c : Code} {D : va_G} {cy : Nat → ClassId} {ad : Nat → Nat} {A : Nat → Prop} {adK adV adE : Nat → Nat} {tC : Nat} {z : (Unit × tmM)} (C0 : tmC p s m args meth c cX3_parse 2 none RX3 TMW tm_NWC D cy tm_shC ad 256 [] A) (hE : tmSc adK adV adE tC A s s.heap) (v : tmM) : tmG p l e ({ frames := 7, cells := 0, slots := 0, locals := 155 } : Room) s m args below meth c 0 0 (MQ below (va_Qv (fun u => z = ((), u)) (tmAt tm_shC 256 D cy ad A) A) args s 0 0 A) 2 D cy tm_shC ad 256 [] A z 0 [(0, .ref (ad 251))] [] v (f_X3_parse v) := by
  unfold f_X3_parse
  refine tg_aload_n 0 C0 dX3_parse_0 rfl rfl ?_
  refine tg_iconst (x := 0) C0 dX3_parse_1 (by decide) ?_
  refine tg_put 251 5 C0 dX3_parse_2 (by decide) rfl rfl tu_X3 tyX3_ok nmX3 (by decide) tf_X3_29 rfl rfl rfl rfl rfl rfl ?_
  refine tg_letm (fun v1 _ => ?_)
  refine tg_aload_n 0 C0 dX3_parse_5 rfl rfl ?_
  refine tg_iconst (x := 0) C0 dX3_parse_6 (by decide) ?_
  refine tg_put 251 6 C0 dX3_parse_7 (by decide) rfl rfl tu_X3 tyX3_ok nmX3 (by decide) tf_X3_32 rfl rfl rfl rfl rfl rfl ?_
  refine tg_letm (fun v2 _ => ?_)
  refine tg_aload_n 0 C0 dX3_parse_10 rfl rfl ?_
  refine tg_iconst (x := (-1)) C0 dX3_parse_11 (by decide) ?_
  refine tg_put 251 7 C0 dX3_parse_12 (by decide) rfl rfl tu_X3 tyX3_ok nmX3 (by decide) tf_X3_25 rfl rfl rfl rfl rfl rfl ?_
  refine tg_letm (fun v3 _ => ?_)
  refine tg_aload_n 0 C0 dX3_parse_15 rfl rfl ?_
  refine tg_iconst (x := 0) C0 dX3_parse_16 (by decide) ?_
  refine tg_put 251 10 C0 dX3_parse_17 (by decide) rfl rfl tu_X3 tyX3_ok nmX3 (by decide) tf_X3_35 rfl rfl rfl rfl rfl rfl ?_
  refine tg_letm (fun v4 _ => ?_)
  refine tg_aload_n 0 C0 dX3_parse_20 rfl rfl ?_
  refine tg_callVv (As := []) 251 0 C0 dX3_parse_21 (c_X3_nextToken l v4) rfl rfl (by decide) rfl rfl (tm_gV tl_X3_38 ti_X3_nextToken ts_X3_nextToken tn_X3 tc_X3_nextToken)  rfl rfl rfl rfl (by decide +kernel) ⟨by decide, by decide⟩ (Nat.le_of_ble_eq_true rfl) ⟨by decide, by decide⟩ (fun v5 _ => ?_)
  refine tg_iconst (x := 0) C0 dX3_parse_24 (by decide) ?_
  refine tg_istore_n [(1, .int 0), (0, .ref (ad 251))] C0 dX3_parse_25 rfl (by decide) rfl ?_
  refine tg_sub [1, 0] rfl ?_
  refine w_X3_parse_26 C0 hE (fun v9 => ?_) 10000 0 v5
  exact tg_vret C0 dX3_parse_56
theorem c_X3_parse (l : Launch) {adK adV adE : Nat → Nat} {tC : Nat} (v : tmM) : tmYv tm_NWC tm_shC 256 l adK adV adE tC yX3_parse (Cond.code yX3_parse cX3_parse 2 none :: TMW) ({ frames := 7, cells := 0, slots := 0, locals := 155 } : Room) (fun ad => [.ref (ad 251)]) v (f_X3_parse v) := by
  exact tmYv.of (cc := cX3_parse) (nL := 2) (by decide +kernel) rfl tm_NWC_ok (fun _ => Nat.le_of_ble_eq_true rfl) (fun p e s m args below meth c A D cy ad z C0 hE => w_X3_parse C0 hE v)
-- ----- X7_runScript
theorem dX7_runScript_0 : decode cX7_runScript 0 = .ok (.aload_n 0, 1) := by decide +kernel
theorem dX7_runScript_1 : decode cX7_runScript 1 = .ok (.getfield 30, 3) := by decide +kernel
theorem dX7_runScript_4 : decode cX7_runScript 4 = .ok (.invokevirtual 56, 3) := by decide +kernel
theorem dX7_runScript_7 : decode cX7_runScript 7 = .ok (.aload_n 0, 1) := by decide +kernel
theorem dX7_runScript_8 : decode cX7_runScript 8 = .ok (.getfield 30, 3) := by decide +kernel
theorem dX7_runScript_11 : decode cX7_runScript 11 = .ok (.iconst 0, 1) := by decide +kernel
theorem dX7_runScript_12 : decode cX7_runScript 12 = .ok (.putfield 41, 3) := by decide +kernel
theorem dX7_runScript_15 : decode cX7_runScript 15 = .ok (.aload_n 0, 1) := by decide +kernel
theorem dX7_runScript_16 : decode cX7_runScript 16 = .ok (.getfield 30, 3) := by decide +kernel
theorem dX7_runScript_19 : decode cX7_runScript 19 = .ok (.getfield 59, 3) := by decide +kernel
theorem dX7_runScript_22 : decode cX7_runScript 22 = .ok (.ifCond .eq 5, 3) := by decide +kernel
theorem dX7_runScript_25 : decode cX7_runScript 25 = .ok (.iconst (-1), 1) := by decide +kernel
theorem dX7_runScript_26 : decode cX7_runScript 26 = .ok (.ireturn, 1) := by decide +kernel
theorem dX7_runScript_27 : decode cX7_runScript 27 = .ok (.iconst 0, 1) := by decide +kernel
theorem dX7_runScript_28 : decode cX7_runScript 28 = .ok (.istore_n 1, 1) := by decide +kernel
theorem dX7_runScript_29 : decode cX7_runScript 29 = .ok (.iload_n 1, 1) := by decide +kernel
theorem dX7_runScript_30 : decode cX7_runScript 30 = .ok (.aload_n 0, 1) := by decide +kernel
theorem dX7_runScript_31 : decode cX7_runScript 31 = .ok (.getfield 30, 3) := by decide +kernel
theorem dX7_runScript_34 : decode cX7_runScript 34 = .ok (.getfield 62, 3) := by decide +kernel
theorem dX7_runScript_37 : decode cX7_runScript 37 = .ok (.if_icmp .ge 104, 3) := by decide +kernel
theorem dX7_runScript_40 : decode cX7_runScript 40 = .ok (.aload_n 0, 1) := by decide +kernel
theorem dX7_runScript_41 : decode cX7_runScript 41 = .ok (.getfield 30, 3) := by decide +kernel
theorem dX7_runScript_44 : decode cX7_runScript 44 = .ok (.getfield 65, 3) := by decide +kernel
theorem dX7_runScript_47 : decode cX7_runScript 47 = .ok (.iload_n 1, 1) := by decide +kernel
theorem dX7_runScript_48 : decode cX7_runScript 48 = .ok (.iaload, 1) := by decide +kernel
theorem dX7_runScript_49 : decode cX7_runScript 49 = .ok (.istore_n 2, 1) := by decide +kernel
theorem dX7_runScript_50 : decode cX7_runScript 50 = .ok (.aload_n 0, 1) := by decide +kernel
theorem dX7_runScript_51 : decode cX7_runScript 51 = .ok (.getfield 30, 3) := by decide +kernel
theorem dX7_runScript_54 : decode cX7_runScript 54 = .ok (.getfield 68, 3) := by decide +kernel
theorem dX7_runScript_57 : decode cX7_runScript 57 = .ok (.iload_n 1, 1) := by decide +kernel
theorem dX7_runScript_58 : decode cX7_runScript 58 = .ok (.iaload, 1) := by decide +kernel
theorem dX7_runScript_59 : decode cX7_runScript 59 = .ok (.istore_n 3, 1) := by decide +kernel
theorem dX7_runScript_60 : decode cX7_runScript 60 = .ok (.iload_n 2, 1) := by decide +kernel
theorem dX7_runScript_61 : decode cX7_runScript 61 = .ok (.lookupswitch 59 #[(11, 27), (12, 48)], 27) := by decide +kernel
theorem dX7_runScript_88 : decode cX7_runScript 88 = .ok (.aload_n 0, 1) := by decide +kernel
theorem dX7_runScript_89 : decode cX7_runScript 89 = .ok (.iload_n 3, 1) := by decide +kernel
theorem dX7_runScript_90 : decode cX7_runScript 90 = .ok (.iload_n 3, 1) := by decide +kernel
theorem dX7_runScript_91 : decode cX7_runScript 91 = .ok (.aload_n 0, 1) := by decide +kernel
theorem dX7_runScript_92 : decode cX7_runScript 92 = .ok (.getfield 30, 3) := by decide +kernel
theorem dX7_runScript_95 : decode cX7_runScript 95 = .ok (.getfield 71, 3) := by decide +kernel
theorem dX7_runScript_98 : decode cX7_runScript 98 = .ok (.iload_n 1, 1) := by decide +kernel
theorem dX7_runScript_99 : decode cX7_runScript 99 = .ok (.iaload, 1) := by decide +kernel
theorem dX7_runScript_100 : decode cX7_runScript 100 = .ok (.iconst 0, 1) := by decide +kernel
theorem dX7_runScript_101 : decode cX7_runScript 101 = .ok (.invokevirtual 74, 3) := by decide +kernel
theorem dX7_runScript_104 : decode cX7_runScript 104 = .ok (.istore 4, 2) := by decide +kernel
theorem dX7_runScript_106 : decode cX7_runScript 106 = .ok (.goto 22, 3) := by decide +kernel
theorem dX7_runScript_109 : decode cX7_runScript 109 = .ok (.aload_n 0, 1) := by decide +kernel
theorem dX7_runScript_110 : decode cX7_runScript 110 = .ok (.iload_n 3, 1) := by decide +kernel
theorem dX7_runScript_111 : decode cX7_runScript 111 = .ok (.iload_n 3, 1) := by decide +kernel
theorem dX7_runScript_112 : decode cX7_runScript 112 = .ok (.invokevirtual 78, 3) := by decide +kernel
theorem dX7_runScript_115 : decode cX7_runScript 115 = .ok (.istore 4, 2) := by decide +kernel
theorem dX7_runScript_117 : decode cX7_runScript 117 = .ok (.goto 11, 3) := by decide +kernel
theorem dX7_runScript_120 : decode cX7_runScript 120 = .ok (.aload_n 0, 1) := by decide +kernel
theorem dX7_runScript_121 : decode cX7_runScript 121 = .ok (.iload_n 2, 1) := by decide +kernel
theorem dX7_runScript_122 : decode cX7_runScript 122 = .ok (.iload_n 3, 1) := by decide +kernel
theorem dX7_runScript_123 : decode cX7_runScript 123 = .ok (.invokevirtual 82, 3) := by decide +kernel
theorem dX7_runScript_126 : decode cX7_runScript 126 = .ok (.istore 4, 2) := by decide +kernel
theorem dX7_runScript_128 : decode cX7_runScript 128 = .ok (.iload 4, 2) := by decide +kernel
theorem dX7_runScript_130 : decode cX7_runScript 130 = .ok (.ifCond .eq 5, 3) := by decide +kernel
theorem dX7_runScript_133 : decode cX7_runScript 133 = .ok (.iload_n 1, 1) := by decide +kernel
theorem dX7_runScript_134 : decode cX7_runScript 134 = .ok (.ireturn, 1) := by decide +kernel
theorem dX7_runScript_135 : decode cX7_runScript 135 = .ok (.iinc 1 1, 3) := by decide +kernel
theorem dX7_runScript_138 : decode cX7_runScript 138 = .ok (.goto (-109), 3) := by decide +kernel
theorem dX7_runScript_141 : decode cX7_runScript 141 = .ok (.aload_n 0, 1) := by decide +kernel
theorem dX7_runScript_142 : decode cX7_runScript 142 = .ok (.getfield 30, 3) := by decide +kernel
theorem dX7_runScript_145 : decode cX7_runScript 145 = .ok (.getfield 62, 3) := by decide +kernel
theorem dX7_runScript_148 : decode cX7_runScript 148 = .ok (.ireturn, 1) := by decide +kernel
theorem tl_X7_56 : Cond.methodLink RX7 56 yX3_parse ∈ TMW := tm_in 385 (by decide +kernel) (by decide +kernel)
theorem ti_X3_parse : Cond.instanceMethod yX3_parse ∈ TMW := tm_in 386 (by decide +kernel) (by decide +kernel)
theorem ts_X3_parse : Cond.selects RX3 yX3_parse yX3_parse ∈ TMW := tm_in 387 (by decide +kernel) (by decide +kernel)
theorem tc_X3_parse : Cond.code yX3_parse cX3_parse 2 none ∈ TMW := tm_in 388 (by decide +kernel) (by decide +kernel)
def f_X7_runScript_128 (K0 : tmM → Option (Int32 × tmM)) (L : Int32 → tmM → Option (Int32 × tmM)) (x1 x4 : Int32) (v : tmM) : Option (Int32 × tmM) := (if x4 = 0 then L (x1 + 1) v else some (x1, v))
set_option maxRecDepth 100000 in
set_option maxHeartbeats 4000000 in
theorem w_X7_runScript_128 {p : Program} {l : Launch} {e : Env} {s : State} {m : MethodId} {args : Array Value} {below : List Frame} {meth : Method} {c : Code} {D : va_G} {cy : Nat → ClassId} {ad : Nat → Nat} {A : Nat → Prop} {adK adV adE : Nat → Nat} {tC : Nat} {z : (Int32 × tmM)} {K0 : tmM → Option (Int32 × tmM)} {L : Int32 → tmM → Option (Int32 × tmM)} (C0 : tmC p s m args meth c cX7_runScript 5 (some .int) RX7 TMW tm_NWC D cy tm_shC ad 256 [] A) (hE : tmSc adK adV adE tC A s s.heap) (hK0 : ∀ (w : tmM), tmG p l e ({ frames := 8, cells := 0, slots := 0, locals := 176 } : Room) s m args below meth c 0 0 (MQ below (va_Qi (fun r u => z = (r, u)) (tmAt tm_shC 256 D cy ad A) A) args s 0 0 A) 5 D cy tm_shC ad 256 [] A z 141 [(0, .ref (ad 247))] [] w (K0 w)) (hL : ∀ (a1 : Int32) (w : tmM), tmG p l e ({ frames := 8, cells := 0, slots := 0, locals := 176 } : Room) s m args below meth c 0 0 (MQ below (va_Qi (fun r u => z = (r, u)) (tmAt tm_shC 256 D cy ad A) A) args s 0 0 A) 5 D cy tm_shC ad 256 [] A z 29 [(0, .ref (ad 247)), (1, .int a1)] [] w (L a1 w)) (x1 x4 : Int32) (v : tmM) : tmG p l e ({ frames := 8, cells := 0, slots := 0, locals := 176 } : Room) s m args below meth c 0 0 (MQ below (va_Qi (fun r u => z = (r, u)) (tmAt tm_shC 256 D cy ad A) A) args s 0 0 A) 5 D cy tm_shC ad 256 [] A z 128 [(0, .ref (ad 247)), (1, .int x1), (4, .int x4)] [] v (f_X7_runScript_128 K0 L x1 x4 v) := by
  unfold f_X7_runScript_128
  refine tg_iload 2 C0 dX7_runScript_128 rfl ?_
  refine tg_if_eq 135 C0 dX7_runScript_130 (by decide) (fun _ => ?_) (fun _ => ?_)
  · refine tg_iinc [(1, .int (x1 + 1)), (0, .ref (ad 247)), (4, .int x4)] 1 C0 dX7_runScript_135 rfl rfl (by decide) rfl ?_
    refine tg_goto 29 C0 dX7_runScript_138 (by decide) ?_
    refine tg_sub [1, 0] rfl ?_
    exact hL (x1 + 1) v
  · refine tg_iload_n 1 C0 dX7_runScript_133 rfl rfl ?_
    exact tg_iret C0 dX7_runScript_134
def f_X7_runScript_29b (K0 : tmM → Option (Int32 × tmM)) (L : Int32 → tmM → Option (Int32 × tmM)) (x1 : Int32) (v : tmM) : Option (Int32 × tmM) := (if (v 251 5) ≤ x1 then K0 v else tm_g (tm_ix x1 30) (tm_lt (v 253 x1.toNatClampNeg) fun y4 => tm_g (tm_ix x1 30) (tm_lt (v 254 x1.toNatClampNeg) fun y5 => (if y4 = 11 then tm_g (tm_ix x1 30) (tm_cl (f_X7_writeRows y5 y5 (v 255 x1.toNatClampNeg) 0 v) fun r7 v6 => f_X7_runScript_128 K0 L x1 r7 v6) else if y4 = 12 then tm_cl (f_X7_removeRows y5 y5 v) fun r10 v9 => f_X7_runScript_128 K0 L x1 r10 v9 else tm_cl (f_X7_attempt y4 y5 v) fun r13 v12 => f_X7_runScript_128 K0 L x1 r13 v12))))
set_option maxRecDepth 100000 in
set_option maxHeartbeats 4000000 in
theorem w_X7_runScript_29b {p : Program} {l : Launch} {e : Env} {s : State} {m : MethodId} {args : Array Value} {below : List Frame} {meth : Method} {c : Code} {D : va_G} {cy : Nat → ClassId} {ad : Nat → Nat} {A : Nat → Prop} {adK adV adE : Nat → Nat} {tC : Nat} {z : (Int32 × tmM)} {K0 : tmM → Option (Int32 × tmM)} {L : Int32 → tmM → Option (Int32 × tmM)} (C0 : tmC p s m args meth c cX7_runScript 5 (some .int) RX7 TMW tm_NWC D cy tm_shC ad 256 [] A) (hE : tmSc adK adV adE tC A s s.heap) (hK0 : ∀ (w : tmM), tmG p l e ({ frames := 8, cells := 0, slots := 0, locals := 176 } : Room) s m args below meth c 0 0 (MQ below (va_Qi (fun r u => z = (r, u)) (tmAt tm_shC 256 D cy ad A) A) args s 0 0 A) 5 D cy tm_shC ad 256 [] A z 141 [(0, .ref (ad 247))] [] w (K0 w)) (hL : ∀ (a1 : Int32) (w : tmM), tmG p l e ({ frames := 8, cells := 0, slots := 0, locals := 176 } : Room) s m args below meth c 0 0 (MQ below (va_Qi (fun r u => z = (r, u)) (tmAt tm_shC 256 D cy ad A) A) args s 0 0 A) 5 D cy tm_shC ad 256 [] A z 29 [(0, .ref (ad 247)), (1, .int a1)] [] w (L a1 w)) (x1 : Int32) (v : tmM) : tmG p l e ({ frames := 8, cells := 0, slots := 0, locals := 176 } : Room) s m args below meth c 0 0 (MQ below (va_Qi (fun r u => z = (r, u)) (tmAt tm_shC 256 D cy ad A) A) args s 0 0 A) 5 D cy tm_shC ad 256 [] A z 29 [(0, .ref (ad 247)), (1, .int x1)] [] v (f_X7_runScript_29b K0 L x1 v) := by
  unfold f_X7_runScript_29b
  refine tg_iload_n 1 C0 dX7_runScript_29 rfl rfl ?_
  refine tg_aload_n 0 C0 dX7_runScript_30 rfl rfl ?_
  refine tg_get 247 7 C0 dX7_runScript_31 (by decide) rfl rfl tu_X7 (by decide) tf_X7_30 rfl rfl rfl ?_
  refine tg_getN 251 5 C0 dX7_runScript_34 (by decide) rfl rfl tu_X3 (by decide) tm_nwC_X7_62 rfl rfl rfl ?_
  refine tg_icmp_ge 141 C0 dX7_runScript_37 (by decide) (fun _ => ?_) (fun _ => ?_)
  · refine tg_sub [0] rfl ?_
    exact hK0 v
  · refine tg_aload_n 0 C0 dX7_runScript_40 rfl rfl ?_
    refine tg_get 247 7 C0 dX7_runScript_41 (by decide) rfl rfl tu_X7 (by decide) tf_X7_30 rfl rfl rfl ?_
    refine tg_getN 251 2 C0 dX7_runScript_44 (by decide) rfl rfl tu_X3 (by decide) tm_nwC_X7_65 rfl rfl rfl ?_
    refine tg_iload_n 1 C0 dX7_runScript_47 rfl rfl ?_
    refine tg_iald 253 C0 dX7_runScript_48 (by decide) rfl (fun _ => ?_)
    refine tg_leti (fun y4 _ => ?_)
    refine tg_istore_n [(2, .int y4), (0, .ref (ad 247)), (1, .int x1)] C0 dX7_runScript_49 rfl (by decide) rfl ?_
    refine tg_aload_n 1 C0 dX7_runScript_50 rfl rfl ?_
    refine tg_get 247 7 C0 dX7_runScript_51 (by decide) rfl rfl tu_X7 (by decide) tf_X7_30 rfl rfl rfl ?_
    refine tg_getN 251 3 C0 dX7_runScript_54 (by decide) rfl rfl tu_X3 (by decide) tm_nwC_X7_68 rfl rfl rfl ?_
    refine tg_iload_n 2 C0 dX7_runScript_57 rfl rfl ?_
    refine tg_iald 254 C0 dX7_runScript_58 (by decide) rfl (fun _ => ?_)
    refine tg_leti (fun y5 _ => ?_)
    refine tg_istore_n [(3, .int y5), (2, .int y4), (0, .ref (ad 247)), (1, .int x1)] C0 dX7_runScript_59 rfl (by decide) rfl ?_
    refine tg_iload_n 1 C0 dX7_runScript_60 rfl rfl ?_
    refine tg_look 88 (cst := 11) (off := 27) C0 dX7_runScript_61 (by decide) (by decide) (by decide) (fun _ => ?_) (fun h8 => ?_)
    · refine tg_aload_n 2 C0 dX7_runScript_88 rfl rfl ?_
      refine tg_iload_n 0 C0 dX7_runScript_89 rfl rfl ?_
      refine tg_iload_n 0 C0 dX7_runScript_90 rfl rfl ?_
      refine tg_aload_n 2 C0 dX7_runScript_91 rfl rfl ?_
      refine tg_get 247 7 C0 dX7_runScript_92 (by decide) rfl rfl tu_X7 (by decide) tf_X7_30 rfl rfl rfl ?_
      refine tg_getN 251 4 C0 dX7_runScript_95 (by decide) rfl rfl tu_X3 (by decide) tm_nwC_X7_71 rfl rfl rfl ?_
      refine tg_iload_n 3 C0 dX7_runScript_98 rfl rfl ?_
      refine tg_iald 255 C0 dX7_runScript_99 (by decide) rfl (fun _ => ?_)
      refine tg_iconst (x := 0) C0 dX7_runScript_100 (by decide) ?_
      refine tg_callVi (As := [.int y5, .int y5, .int (v 255 x1.toNatClampNeg), .int 0]) 247 4 C0 dX7_runScript_101 (c_X7_writeRows l y5 y5 (v 255 x1.toNatClampNeg) 0 v) rfl rfl (by decide) rfl rfl (tm_gV tl_X7_74 ti_X7_writeRows ts_X7_writeRows tn_X7 tc_X7_writeRows)  rfl rfl rfl rfl (by decide +kernel) ⟨by decide, by decide⟩ (Nat.le_of_ble_eq_true rfl) ⟨by decide, by decide⟩ (fun r7 v6 _ => ?_)
      refine tg_istore [(4, .int r7), (3, .int y5), (2, .int y4), (0, .ref (ad 247)), (1, .int x1)] C0 dX7_runScript_104 (by decide) rfl ?_
      refine tg_goto 128 C0 dX7_runScript_106 (by decide) ?_
      refine tg_sub [3, 4, 0] rfl ?_
      exact w_X7_runScript_128 C0 hE hK0 hL x1 r7 v6
    refine tg_look 109 (cst := 12) (off := 48) C0 dX7_runScript_61 (by decide) (by decide) (by decide) (fun _ => ?_) (fun h11 => ?_)
    · refine tg_aload_n 2 C0 dX7_runScript_109 rfl rfl ?_
      refine tg_iload_n 0 C0 dX7_runScript_110 rfl rfl ?_
      refine tg_iload_n 0 C0 dX7_runScript_111 rfl rfl ?_
      refine tg_callVi (As := [.int y5, .int y5]) 247 2 C0 dX7_runScript_112 (c_X7_removeRows l y5 y5 v) rfl rfl (by decide) rfl rfl (tm_gV tl_X7_78 ti_X7_removeRows ts_X7_removeRows tn_X7 tc_X7_removeRows)  rfl rfl rfl rfl (by decide +kernel) ⟨by decide, by decide⟩ (Nat.le_of_ble_eq_true rfl) ⟨by decide, by decide⟩ (fun r10 v9 _ => ?_)
      refine tg_istore [(4, .int r10), (3, .int y5), (2, .int y4), (0, .ref (ad 247)), (1, .int x1)] C0 dX7_runScript_115 (by decide) rfl ?_
      refine tg_goto 128 C0 dX7_runScript_117 (by decide) ?_
      refine tg_sub [3, 4, 0] rfl ?_
      exact w_X7_runScript_128 C0 hE hK0 hL x1 r10 v9
    refine tg_look2 120 C0 dX7_runScript_61 (by decide) h8 h11 rfl (by decide) (by decide) ?_
    refine tg_aload_n 2 C0 dX7_runScript_120 rfl rfl ?_
    refine tg_iload_n 1 C0 dX7_runScript_121 rfl rfl ?_
    refine tg_iload_n 0 C0 dX7_runScript_122 rfl rfl ?_
    refine tg_callVi (As := [.int y4, .int y5]) 247 2 C0 dX7_runScript_123 (c_X7_attempt l y4 y5 v) rfl rfl (by decide) rfl rfl (tm_gV tl_X7_82 ti_X7_attempt ts_X7_attempt tn_X7 tc_X7_attempt)  rfl rfl rfl rfl (by decide +kernel) ⟨by decide, by decide⟩ (Nat.le_of_ble_eq_true rfl) ⟨by decide, by decide⟩ (fun r13 v12 _ => ?_)
    refine tg_istore [(4, .int r13), (3, .int y5), (2, .int y4), (0, .ref (ad 247)), (1, .int x1)] C0 dX7_runScript_126 (by decide) rfl ?_
    refine tg_sub [3, 4, 0] rfl ?_
    exact w_X7_runScript_128 C0 hE hK0 hL x1 r13 v12
def f_X7_runScript_29 (K0 : tmM → Option (Int32 × tmM)) : Nat → Int32 → tmM → Option (Int32 × tmM)
  | 0 => fun _ _ => none
  | n + 1 => f_X7_runScript_29b K0 (f_X7_runScript_29 K0 n)
theorem w_X7_runScript_29 {p : Program} {l : Launch} {e : Env} {s : State} {m : MethodId} {args : Array Value} {below : List Frame} {meth : Method} {c : Code} {D : va_G} {cy : Nat → ClassId} {ad : Nat → Nat} {A : Nat → Prop} {adK adV adE : Nat → Nat} {tC : Nat} {z : (Int32 × tmM)} {K0 : tmM → Option (Int32 × tmM)} (C0 : tmC p s m args meth c cX7_runScript 5 (some .int) RX7 TMW tm_NWC D cy tm_shC ad 256 [] A) (hE : tmSc adK adV adE tC A s s.heap) (hK0 : ∀ (w : tmM), tmG p l e ({ frames := 8, cells := 0, slots := 0, locals := 176 } : Room) s m args below meth c 0 0 (MQ below (va_Qi (fun r u => z = (r, u)) (tmAt tm_shC 256 D cy ad A) A) args s 0 0 A) 5 D cy tm_shC ad 256 [] A z 141 [(0, .ref (ad 247))] [] w (K0 w)) (nn : Nat) : ∀ (x1 : Int32) (v : tmM), tmG p l e ({ frames := 8, cells := 0, slots := 0, locals := 176 } : Room) s m args below meth c 0 0 (MQ below (va_Qi (fun r u => z = (r, u)) (tmAt tm_shC 256 D cy ad A) A) args s 0 0 A) 5 D cy tm_shC ad 256 [] A z 29 [(0, .ref (ad 247)), (1, .int x1)] [] v (f_X7_runScript_29 K0 nn x1 v) := by
  induction nn with
  | zero => intro _ _; exact tg_none
  | succ n ih => intro x1 v; exact w_X7_runScript_29b C0 hE hK0 ih x1 v
def f_X7_runScript (v : tmM) : Option (Int32 × tmM) := tm_cl (f_X3_parse v) fun _ v1 => tm_lt (tm_up v1 251 1 0) fun v3 => (if (v3 251 6) = 0 then f_X7_runScript_29 (fun v14 => some (v14 251 5, v14)) 10000 0 v3 else some ((-1), v3))
set_option maxRecDepth 100000 in
set_option maxHeartbeats 4000000 in
theorem w_X7_runScript {p : Program} {l : Launch} {e : Env} {s : State} {m : MethodId} {args : Array Value} {below : List Frame} {meth : Method} {c : Code} {D : va_G} {cy : Nat → ClassId} {ad : Nat → Nat} {A : Nat → Prop} {adK adV adE : Nat → Nat} {tC : Nat} {z : (Int32 × tmM)} (C0 : tmC p s m args meth c cX7_runScript 5 (some .int) RX7 TMW tm_NWC D cy tm_shC ad 256 [] A) (hE : tmSc adK adV adE tC A s s.heap) (v : tmM) : tmG p l e ({ frames := 8, cells := 0, slots := 0, locals := 176 } : Room) s m args below meth c 0 0 (MQ below (va_Qi (fun r u => z = (r, u)) (tmAt tm_shC 256 D cy ad A) A) args s 0 0 A) 5 D cy tm_shC ad 256 [] A z 0 [(0, .ref (ad 247))] [] v (f_X7_runScript v) := by
  unfold f_X7_runScript
  refine tg_aload_n 0 C0 dX7_runScript_0 rfl rfl ?_
  refine tg_get 247 7 C0 dX7_runScript_1 (by decide) rfl rfl tu_X7 (by decide) tf_X7_30 rfl rfl rfl ?_
  refine ty_callVv (As := []) 0 C0 hE dX7_runScript_4 (c_X3_parse l v) rfl rfl (tm_gV tl_X7_56 ti_X3_parse ts_X3_parse tn_X3 tc_X3_parse) (tm_rvW C0 (by decide) rfl rfl) rfl rfl rfl rfl (by decide +kernel) ⟨by decide, by decide⟩ (Nat.le_of_ble_eq_true rfl) ⟨by decide, by decide⟩ (fun v1 _ => ?_)
  refine tg_aload_n 0 C0 dX7_runScript_7 rfl rfl ?_
  refine tg_get 247 7 C0 dX7_runScript_8 (by decide) rfl rfl tu_X7 (by decide) tf_X7_30 rfl rfl rfl ?_
  refine tg_iconst (x := 0) C0 dX7_runScript_11 (by decide) ?_
  refine tg_putN 251 1 C0 dX7_runScript_12 (by decide) rfl rfl tu_X3 tyX3_ok nmX3 (by decide) tm_nwC_X7_41 rfl rfl rfl rfl rfl rfl ?_
  refine tg_letm (fun v3 _ => ?_)
  refine tg_aload_n 0 C0 dX7_runScript_15 rfl rfl ?_
  refine tg_get 247 7 C0 dX7_runScript_16 (by decide) rfl rfl tu_X7 (by decide) tf_X7_30 rfl rfl rfl ?_
  refine tg_getN 251 6 C0 dX7_runScript_19 (by decide) rfl rfl tu_X3 (by decide) tm_nwC_X7_59 rfl rfl rfl ?_
  refine tg_if_eq 27 C0 dX7_runScript_22 (by decide) (fun _ => ?_) (fun _ => ?_)
  · refine tg_iconst (x := 0) C0 dX7_runScript_27 (by decide) ?_
    refine tg_istore_n [(1, .int 0), (0, .ref (ad 247))] C0 dX7_runScript_28 rfl (by decide) rfl ?_
    refine tg_sub [1, 0] rfl ?_
    refine w_X7_runScript_29 C0 hE (fun v14 => ?_) 10000 0 v3
    refine tg_aload_n 0 C0 dX7_runScript_141 rfl rfl ?_
    refine tg_get 247 7 C0 dX7_runScript_142 (by decide) rfl rfl tu_X7 (by decide) tf_X7_30 rfl rfl rfl ?_
    refine tg_getN 251 5 C0 dX7_runScript_145 (by decide) rfl rfl tu_X3 (by decide) tm_nwC_X7_62 rfl rfl rfl ?_
    exact tg_iret C0 dX7_runScript_148
  · refine tg_iconst (x := (-1)) C0 dX7_runScript_25 (by decide) ?_
    exact tg_iret C0 dX7_runScript_26
theorem c_X7_runScript (l : Launch) {adK adV adE : Nat → Nat} {tC : Nat} (v : tmM) : tmYi tm_NWC tm_shC 256 l adK adV adE tC yX7_runScript (Cond.code yX7_runScript cX7_runScript 5 (some .int) :: TMW) ({ frames := 8, cells := 0, slots := 0, locals := 176 } : Room) (fun ad => [.ref (ad 247)]) v (f_X7_runScript v) := by
  exact tmYi.of (cc := cX7_runScript) (nL := 5) (by decide +kernel) rfl tm_NWC_ok (fun _ => Nat.le_of_ble_eq_true rfl) (fun p e s m args below meth c A D cy ad z C0 hE => w_X7_runScript C0 hE v)
