-- ----- X7_describeValue
theorem dX7_describeValue_0 : decode cX7_describeValue 0 = .ok (.iload_n 1, 1) := by decide +kernel
theorem dX7_describeValue_1 : decode cX7_describeValue 1 = .ok (.iconst (-1), 1) := by decide +kernel
theorem dX7_describeValue_2 : decode cX7_describeValue 2 = .ok (.if_icmp .ne 16, 3) := by decide +kernel
theorem dX7_describeValue_5 : decode cX7_describeValue 5 = .ok (.aload_n 0, 1) := by decide +kernel
theorem dX7_describeValue_6 : decode cX7_describeValue 6 = .ok (.getfield 37, 3) := by decide +kernel
theorem dX7_describeValue_9 : decode cX7_describeValue 9 = .ok (.bipush 45, 2) := by decide +kernel
theorem dX7_describeValue_11 : decode cX7_describeValue 11 = .ok (.invokevirtual 347, 3) := by decide +kernel
theorem dX7_describeValue_14 : decode cX7_describeValue 14 = .ok (.pop, 1) := by decide +kernel
theorem dX7_describeValue_15 : decode cX7_describeValue 15 = .ok (.goto 31, 3) := by decide +kernel
theorem dX7_describeValue_18 : decode cX7_describeValue 18 = .ok (.iload_n 1, 1) := by decide +kernel
theorem dX7_describeValue_19 : decode cX7_describeValue 19 = .ok (.bipush (-3), 2) := by decide +kernel
theorem dX7_describeValue_21 : decode cX7_describeValue 21 = .ok (.if_icmp .ne 16, 3) := by decide +kernel
theorem dX7_describeValue_24 : decode cX7_describeValue 24 = .ok (.aload_n 0, 1) := by decide +kernel
theorem dX7_describeValue_25 : decode cX7_describeValue 25 = .ok (.getfield 37, 3) := by decide +kernel
theorem dX7_describeValue_28 : decode cX7_describeValue 28 = .ok (.bipush 63, 2) := by decide +kernel
theorem dX7_describeValue_30 : decode cX7_describeValue 30 = .ok (.invokevirtual 347, 3) := by decide +kernel
theorem dX7_describeValue_33 : decode cX7_describeValue 33 = .ok (.pop, 1) := by decide +kernel
theorem dX7_describeValue_34 : decode cX7_describeValue 34 = .ok (.goto 12, 3) := by decide +kernel
theorem dX7_describeValue_37 : decode cX7_describeValue 37 = .ok (.aload_n 0, 1) := by decide +kernel
theorem dX7_describeValue_38 : decode cX7_describeValue 38 = .ok (.getfield 37, 3) := by decide +kernel
theorem dX7_describeValue_41 : decode cX7_describeValue 41 = .ok (.iload_n 1, 1) := by decide +kernel
theorem dX7_describeValue_42 : decode cX7_describeValue 42 = .ok (.invokevirtual 281, 3) := by decide +kernel
theorem dX7_describeValue_45 : decode cX7_describeValue 45 = .ok (.pop, 1) := by decide +kernel
theorem dX7_describeValue_46 : decode cX7_describeValue 46 = .ok (.return_, 1) := by decide +kernel
theorem tf_X7_37 : Cond.fieldLink RX7 37 "TableMove" (TX7 8).2.1 (TX7 8).2.2.1 ∈ TMW := tm_in 361 (by decide +kernel) (by decide +kernel)
theorem tl_X7_281 : Cond.methodLink RX7 281 yJ4_append_bf812 ∈ TMW := tm_in 1500 (by decide +kernel) (by decide +kernel)
theorem ti_J4_append_bf812 : Cond.instanceMethod yJ4_append_bf812 ∈ TMW := tm_in 1371 (by decide +kernel) (by decide +kernel)
theorem ts_J4_append_bf812 : Cond.selects RJ4 yJ4_append_bf812 yJ4_append_bf812 ∈ TMW := tm_in 1372 (by decide +kernel) (by decide +kernel)
theorem tn_J4 : Cond.initialized RJ4 ∈ TMW := tm_in 118 (by decide +kernel) (by decide +kernel)
theorem tc_J4_append_bf812 : Cond.code yJ4_append_bf812 cJ4_append_bf812 2 (some (.object "java/lang/StringBuilder")) ∈ TMW := tm_in 1373 (by decide +kernel) (by decide +kernel)
theorem tl_X7_347 : Cond.methodLink RX7 347 yJ4_append_cf468 ∈ TMW := tm_in 1510 (by decide +kernel) (by decide +kernel)
theorem ti_J4_append_cf468 : Cond.instanceMethod yJ4_append_cf468 ∈ TMW := tm_in 1511 (by decide +kernel) (by decide +kernel)
theorem ts_J4_append_cf468 : Cond.selects RJ4 yJ4_append_cf468 yJ4_append_cf468 ∈ TMW := tm_in 1512 (by decide +kernel) (by decide +kernel)
theorem tc_J4_append_cf468 : Cond.code yJ4_append_cf468 cJ4_append_cf468 2 (some (.object "java/lang/StringBuilder")) ∈ TMW := tm_in 1513 (by decide +kernel) (by decide +kernel)
def f_X7_describeValue (x1 : Int32) (v : tmM) (bs : List Int32) : Option (Unit × (tmM × List Int32)) := (if x1 = (-1) then tm_g (decide (bs.length + 1 ≤ 70)) (tm_lt (bs ++ [45]) fun bs3 => some ((), (v, bs3))) else (if x1 = (-3) then tm_g (decide (bs.length + 1 ≤ 70)) (tm_lt (bs ++ [63]) fun bs2 => some ((), (v, bs2))) else tm_g (decide (¬ x1 < 0 ∧ x1.toNatClampNeg < 1000 ∧ bs.length + 3 ≤ 70)) (tm_lt (bs ++ tm_dec x1.toNatClampNeg) fun bs1 => some ((), (v, bs1)))))
set_option maxRecDepth 100000 in
set_option maxHeartbeats 4000000 in
theorem w_X7_describeValue {p : Program} {l : Launch} {e : Env} {s : State} {m : MethodId} {args : Array Value} {below : List Frame} {meth : Method} {c : Code} {D : va_G} {cy : Nat → ClassId} {ad : Nat → Nat} {A : Nat → Prop} {adK adV adE : Nat → Nat} {tC κ b0 : Nat} {u : tmM} {bs : List Int32} {z : (Unit × (tmM × List Int32))} (C0 : tmC p s m args meth c cX7_describeValue 2 none RX7 TMW tm_NWC D cy tm_shC ad 256 (tmXB cy (ad 256) κ b0 u) A) (hE : tmSc adK adV adE tC A s s.heap) (hT : tmTx κ u bs) (x1 : Int32) (v : tmM) : tmG p l e ({ frames := 6, cells := 1, slots := 70, locals := 160 } : Room) s m args below meth c 0 0 (MQ below (va_Qv (fun r => z = ((), r)) (tmWt tm_shC 256 D cy ad A) A) args s 1 70 A) 2 D cy tm_shC ad 256 (tmXB cy (ad 256) κ b0 u) A z 0 [(0, .ref (ad 247)), (1, .int x1)] [] v (f_X7_describeValue x1 v bs) := by
  unfold f_X7_describeValue
  refine tg_iload_n 1 C0 dX7_describeValue_0 rfl rfl ?_
  refine tg_iconst (x := (-1)) C0 dX7_describeValue_1 (by decide) ?_
  refine tg_icmp_ne 18 C0 dX7_describeValue_2 (by decide) (fun _ => ?_) (fun _ => ?_)
  · refine tg_iload_n 1 C0 dX7_describeValue_18 rfl rfl ?_
    refine tg_bipush (x := (-3)) C0 dX7_describeValue_19 (by decide) ?_
    refine tg_icmp_ne 37 C0 dX7_describeValue_21 (by decide) (fun _ => ?_) (fun _ => ?_)
    · refine tg_aload_n 0 C0 dX7_describeValue_37 rfl rfl ?_
      refine tg_get 247 8 C0 dX7_describeValue_38 (by decide) rfl rfl tu_X7 (by decide) tf_X7_37 rfl rfl rfl ?_
      refine tg_iload_n 1 C0 dX7_describeValue_41 rfl rfl ?_
      refine tw_appi C0 hE hT dX7_describeValue_42 (tm_gV tl_X7_281 ti_J4_append_bf812 ts_J4_append_bf812 tn_J4 tc_J4_append_bf812) ⟨by decide, by decide⟩ (Nat.le_of_ble_eq_true rfl) ⟨by decide, by decide⟩ (fun κ b0 u bs1 _ C0 hT => ?_)
      refine tg_pop C0 dX7_describeValue_45 rfl ?_
      exact tw_vret C0 hT dX7_describeValue_46 ⟨by decide, by decide⟩
    · refine tg_aload_n 0 C0 dX7_describeValue_24 rfl rfl ?_
      refine tg_get 247 8 C0 dX7_describeValue_25 (by decide) rfl rfl tu_X7 (by decide) tf_X7_37 rfl rfl rfl ?_
      refine tg_bipush (x := 63) C0 dX7_describeValue_28 (by decide) ?_
      refine tw_appc 63 rfl (by decide) C0 hE hT dX7_describeValue_30 (tm_gV tl_X7_347 ti_J4_append_cf468 ts_J4_append_cf468 tn_J4 tc_J4_append_cf468) ⟨by decide, by decide⟩ (Nat.le_of_ble_eq_true rfl) ⟨by decide, by decide⟩ (fun κ b0 u bs2 _ C0 hT => ?_)
      refine tg_pop C0 dX7_describeValue_33 rfl ?_
      refine tg_goto 46 C0 dX7_describeValue_34 (by decide) ?_
      exact tw_vret C0 hT dX7_describeValue_46 ⟨by decide, by decide⟩
  · refine tg_aload_n 0 C0 dX7_describeValue_5 rfl rfl ?_
    refine tg_get 247 8 C0 dX7_describeValue_6 (by decide) rfl rfl tu_X7 (by decide) tf_X7_37 rfl rfl rfl ?_
    refine tg_bipush (x := 45) C0 dX7_describeValue_9 (by decide) ?_
    refine tw_appc 45 rfl (by decide) C0 hE hT dX7_describeValue_11 (tm_gV tl_X7_347 ti_J4_append_cf468 ts_J4_append_cf468 tn_J4 tc_J4_append_cf468) ⟨by decide, by decide⟩ (Nat.le_of_ble_eq_true rfl) ⟨by decide, by decide⟩ (fun κ b0 u bs3 _ C0 hT => ?_)
    refine tg_pop C0 dX7_describeValue_14 rfl ?_
    refine tg_goto 46 C0 dX7_describeValue_15 (by decide) ?_
    exact tw_vret C0 hT dX7_describeValue_46 ⟨by decide, by decide⟩
theorem c_X7_describeValue (l : Launch) {adK adV adE : Nat → Nat} {tC : Nat} (x1 : Int32) (v : tmM) (bs : List Int32) : tmWv tm_NWC tm_shC 256 l adK adV adE tC yX7_describeValue (Cond.code yX7_describeValue cX7_describeValue 2 none :: TMW) ({ frames := 6, cells := 1, slots := 70, locals := 160 } : Room) (fun ad => [.ref (ad 247), .int x1]) v bs 1 70 (f_X7_describeValue x1 v bs) :=
  tmWv.of (cc := cX7_describeValue) (nL := 2) (by decide +kernel) rfl tm_NWC_ok (fun _ => Nat.le_of_ble_eq_true rfl) (fun p e s m args below meth c A D cy ad κ b0 u z C0 hE hT => w_X7_describeValue C0 hE hT x1 v)
-- ----- X7_describeRow
theorem dX7_describeRow_0 : decode cX7_describeRow 0 = .ok (.aload_n 0, 1) := by decide +kernel
theorem dX7_describeRow_1 : decode cX7_describeRow 1 = .ok (.getfield 37, 3) := by decide +kernel
theorem dX7_describeRow_4 : decode cX7_describeRow 4 = .ok (.bipush 32, 2) := by decide +kernel
theorem dX7_describeRow_6 : decode cX7_describeRow 6 = .ok (.invokevirtual 347, 3) := by decide +kernel
theorem dX7_describeRow_9 : decode cX7_describeRow 9 = .ok (.pop, 1) := by decide +kernel
theorem dX7_describeRow_10 : decode cX7_describeRow 10 = .ok (.aload_n 0, 1) := by decide +kernel
theorem dX7_describeRow_11 : decode cX7_describeRow 11 = .ok (.getfield 37, 3) := by decide +kernel
theorem dX7_describeRow_14 : decode cX7_describeRow 14 = .ok (.iload_n 1, 1) := by decide +kernel
theorem dX7_describeRow_15 : decode cX7_describeRow 15 = .ok (.invokevirtual 281, 3) := by decide +kernel
theorem dX7_describeRow_18 : decode cX7_describeRow 18 = .ok (.pop, 1) := by decide +kernel
theorem dX7_describeRow_19 : decode cX7_describeRow 19 = .ok (.aload_n 0, 1) := by decide +kernel
theorem dX7_describeRow_20 : decode cX7_describeRow 20 = .ok (.getfield 37, 3) := by decide +kernel
theorem dX7_describeRow_23 : decode cX7_describeRow 23 = .ok (.bipush 58, 2) := by decide +kernel
theorem dX7_describeRow_25 : decode cX7_describeRow 25 = .ok (.invokevirtual 347, 3) := by decide +kernel
theorem dX7_describeRow_28 : decode cX7_describeRow 28 = .ok (.pop, 1) := by decide +kernel
theorem dX7_describeRow_29 : decode cX7_describeRow 29 = .ok (.aload_n 0, 1) := by decide +kernel
theorem dX7_describeRow_30 : decode cX7_describeRow 30 = .ok (.aload_n 0, 1) := by decide +kernel
theorem dX7_describeRow_31 : decode cX7_describeRow 31 = .ok (.getfield 12, 3) := by decide +kernel
theorem dX7_describeRow_34 : decode cX7_describeRow 34 = .ok (.getfield 98, 3) := by decide +kernel
theorem dX7_describeRow_37 : decode cX7_describeRow 37 = .ok (.iconst 0, 1) := by decide +kernel
theorem dX7_describeRow_38 : decode cX7_describeRow 38 = .ok (.iload_n 1, 1) := by decide +kernel
theorem dX7_describeRow_39 : decode cX7_describeRow 39 = .ok (.invokevirtual 186, 3) := by decide +kernel
theorem dX7_describeRow_42 : decode cX7_describeRow 42 = .ok (.invokevirtual 350, 3) := by decide +kernel
theorem dX7_describeRow_45 : decode cX7_describeRow 45 = .ok (.aload_n 0, 1) := by decide +kernel
theorem dX7_describeRow_46 : decode cX7_describeRow 46 = .ok (.getfield 37, 3) := by decide +kernel
theorem dX7_describeRow_49 : decode cX7_describeRow 49 = .ok (.bipush 47, 2) := by decide +kernel
theorem dX7_describeRow_51 : decode cX7_describeRow 51 = .ok (.invokevirtual 347, 3) := by decide +kernel
theorem dX7_describeRow_54 : decode cX7_describeRow 54 = .ok (.pop, 1) := by decide +kernel
theorem dX7_describeRow_55 : decode cX7_describeRow 55 = .ok (.aload_n 0, 1) := by decide +kernel
theorem dX7_describeRow_56 : decode cX7_describeRow 56 = .ok (.aload_n 0, 1) := by decide +kernel
theorem dX7_describeRow_57 : decode cX7_describeRow 57 = .ok (.getfield 12, 3) := by decide +kernel
theorem dX7_describeRow_60 : decode cX7_describeRow 60 = .ok (.getfield 98, 3) := by decide +kernel
theorem dX7_describeRow_63 : decode cX7_describeRow 63 = .ok (.iconst 1, 1) := by decide +kernel
theorem dX7_describeRow_64 : decode cX7_describeRow 64 = .ok (.iload_n 1, 1) := by decide +kernel
theorem dX7_describeRow_65 : decode cX7_describeRow 65 = .ok (.invokevirtual 186, 3) := by decide +kernel
theorem dX7_describeRow_68 : decode cX7_describeRow 68 = .ok (.invokevirtual 350, 3) := by decide +kernel
theorem dX7_describeRow_71 : decode cX7_describeRow 71 = .ok (.aload_n 0, 1) := by decide +kernel
theorem dX7_describeRow_72 : decode cX7_describeRow 72 = .ok (.getfield 12, 3) := by decide +kernel
theorem dX7_describeRow_75 : decode cX7_describeRow 75 = .ok (.getfield 145, 3) := by decide +kernel
theorem dX7_describeRow_78 : decode cX7_describeRow 78 = .ok (.iload_n 1, 1) := by decide +kernel
theorem dX7_describeRow_79 : decode cX7_describeRow 79 = .ok (.invokevirtual 208, 3) := by decide +kernel
theorem dX7_describeRow_82 : decode cX7_describeRow 82 = .ok (.ifCond .eq 13, 3) := by decide +kernel
theorem dX7_describeRow_85 : decode cX7_describeRow 85 = .ok (.aload_n 0, 1) := by decide +kernel
theorem dX7_describeRow_86 : decode cX7_describeRow 86 = .ok (.getfield 37, 3) := by decide +kernel
theorem dX7_describeRow_89 : decode cX7_describeRow 89 = .ok (.bipush 33, 2) := by decide +kernel
theorem dX7_describeRow_91 : decode cX7_describeRow 91 = .ok (.invokevirtual 347, 3) := by decide +kernel
theorem dX7_describeRow_94 : decode cX7_describeRow 94 = .ok (.pop, 1) := by decide +kernel
theorem dX7_describeRow_95 : decode cX7_describeRow 95 = .ok (.return_, 1) := by decide +kernel
theorem tl_X7_350 : Cond.methodLink RX7 350 yX7_describeValue ∈ TMW := tm_in 1523 (by decide +kernel) (by decide +kernel)
theorem ti_X7_describeValue : Cond.instanceMethod yX7_describeValue ∈ TMW := tm_in 1525 (by decide +kernel) (by decide +kernel)
theorem ts_X7_describeValue : Cond.selects RX7 yX7_describeValue yX7_describeValue ∈ TMW := tm_in 39 (by decide +kernel) (by decide +kernel)
theorem tc_X7_describeValue : Cond.code yX7_describeValue cX7_describeValue 2 none ∈ TMW := tm_in 1526 (by decide +kernel) (by decide +kernel)
def f_X7_describeRow (x1 : Int32) (v : tmM) (bs : List Int32) : Option (Unit × (tmM × List Int32)) := tm_g (decide (bs.length + 1 ≤ 70)) (tm_lt (bs ++ [32]) fun bs1 => tm_g (decide (¬ x1 < 0 ∧ x1.toNatClampNeg < 1000 ∧ bs1.length + 3 ≤ 70)) (tm_lt (bs1 ++ tm_dec x1.toNatClampNeg) fun bs2 => tm_g (decide (bs2.length + 1 ≤ 70)) (tm_lt (bs2 ++ [58]) fun bs3 => tm_cl (f_X5_valueAt 0 x1 v) fun r5 v4 => tm_cw (f_X7_describeValue r5 v4 bs3) fun _ v6 bs7 => tm_g (decide (bs7.length + 1 ≤ 70)) (tm_lt (bs7 ++ [47]) fun bs8 => tm_cl (f_X5_valueAt 1 x1 v6) fun r10 v9 => tm_cw (f_X7_describeValue r10 v9 bs8) fun _ v11 bs12 => tm_cl (f_X2_holds x1 v11) fun r14 v13 => (if r14 = 0 then some ((), (v13, bs12)) else tm_g (decide (bs12.length + 1 ≤ 70)) (tm_lt (bs12 ++ [33]) fun bs15 => some ((), (v13, bs15))))))))
set_option maxRecDepth 100000 in
set_option maxHeartbeats 4000000 in
theorem w_X7_describeRow {p : Program} {l : Launch} {e : Env} {s : State} {m : MethodId} {args : Array Value} {below : List Frame} {meth : Method} {c : Code} {D : va_G} {cy : Nat → ClassId} {ad : Nat → Nat} {A : Nat → Prop} {adK adV adE : Nat → Nat} {tC κ b0 : Nat} {u : tmM} {bs : List Int32} {z : (Unit × (tmM × List Int32))} (C0 : tmC p s m args meth c cX7_describeRow 2 none RX7 TMW tm_NWC D cy tm_shC ad 256 (tmXB cy (ad 256) κ b0 u) A) (hE : tmSc adK adV adE tC A s s.heap) (hT : tmTx κ u bs) (x1 : Int32) (v : tmM) : tmG p l e ({ frames := 7, cells := 7, slots := 490, locals := 181 } : Room) s m args below meth c 0 0 (MQ below (va_Qv (fun r => z = ((), r)) (tmWt tm_shC 256 D cy ad A) A) args s 7 490 A) 2 D cy tm_shC ad 256 (tmXB cy (ad 256) κ b0 u) A z 0 [(0, .ref (ad 247)), (1, .int x1)] [] v (f_X7_describeRow x1 v bs) := by
  unfold f_X7_describeRow
  refine tg_aload_n 0 C0 dX7_describeRow_0 rfl rfl ?_
  refine tg_get 247 8 C0 dX7_describeRow_1 (by decide) rfl rfl tu_X7 (by decide) tf_X7_37 rfl rfl rfl ?_
  refine tg_bipush (x := 32) C0 dX7_describeRow_4 (by decide) ?_
  refine tw_appc 32 rfl (by decide) C0 hE hT dX7_describeRow_6 (tm_gV tl_X7_347 ti_J4_append_cf468 ts_J4_append_cf468 tn_J4 tc_J4_append_cf468) ⟨by decide, by decide⟩ (Nat.le_of_ble_eq_true rfl) ⟨by decide, by decide⟩ (fun κ b0 u bs1 _ C0 hT => ?_)
  refine tg_pop C0 dX7_describeRow_9 rfl ?_
  refine tg_aload_n 0 C0 dX7_describeRow_10 rfl rfl ?_
  refine tg_get 247 8 C0 dX7_describeRow_11 (by decide) rfl rfl tu_X7 (by decide) tf_X7_37 rfl rfl rfl ?_
  refine tg_iload_n 1 C0 dX7_describeRow_14 rfl rfl ?_
  refine tw_appi C0 hE hT dX7_describeRow_15 (tm_gV tl_X7_281 ti_J4_append_bf812 ts_J4_append_bf812 tn_J4 tc_J4_append_bf812) ⟨by decide, by decide⟩ (Nat.le_of_ble_eq_true rfl) ⟨by decide, by decide⟩ (fun κ b0 u bs2 _ C0 hT => ?_)
  refine tg_pop C0 dX7_describeRow_18 rfl ?_
  refine tg_aload_n 0 C0 dX7_describeRow_19 rfl rfl ?_
  refine tg_get 247 8 C0 dX7_describeRow_20 (by decide) rfl rfl tu_X7 (by decide) tf_X7_37 rfl rfl rfl ?_
  refine tg_bipush (x := 58) C0 dX7_describeRow_23 (by decide) ?_
  refine tw_appc 58 rfl (by decide) C0 hE hT dX7_describeRow_25 (tm_gV tl_X7_347 ti_J4_append_cf468 ts_J4_append_cf468 tn_J4 tc_J4_append_cf468) ⟨by decide, by decide⟩ (Nat.le_of_ble_eq_true rfl) ⟨by decide, by decide⟩ (fun κ b0 u bs3 _ C0 hT => ?_)
  refine tg_pop C0 dX7_describeRow_28 rfl ?_
  refine tg_aload_n 0 C0 dX7_describeRow_29 rfl rfl ?_
  refine tg_aload_n 0 C0 dX7_describeRow_30 rfl rfl ?_
  refine tg_get 247 0 C0 dX7_describeRow_31 (by decide) rfl rfl tu_X7 (by decide) tf_X7_12 rfl rfl rfl ?_
  refine tg_getN 0 5 C0 dX7_describeRow_34 (by decide) rfl rfl tu_X4 (by decide) tm_nwC_X7_98 rfl rfl rfl ?_
  refine tg_iconst (x := 0) C0 dX7_describeRow_37 (by decide) ?_
  refine tg_iload_n 1 C0 dX7_describeRow_38 rfl rfl ?_
  refine tg_callVi (As := [.int 0, .int x1]) 1 2 C0 dX7_describeRow_39 (c_X5_valueAt l 0 x1 v) rfl rfl (by decide) rfl rfl (tm_gV tl_X7_186 ti_X5_valueAt ts_X5_valueAt tn_X5 tc_X5_valueAt)  rfl rfl rfl rfl (by decide +kernel) ⟨by decide, by decide⟩ (Nat.le_of_ble_eq_true rfl) ⟨by decide, by decide⟩ (fun r5 v4 _ => ?_)
  refine tw_callWv (As := [.int r5]) 247 1 C0 hE hT dX7_describeRow_42 (c_X7_describeValue l r5 v4 bs3) rfl rfl (by decide) rfl rfl (tm_gV tl_X7_350 ti_X7_describeValue ts_X7_describeValue tn_X7 tc_X7_describeValue) rfl rfl rfl rfl (by decide +kernel) ⟨by decide, by decide⟩ (Nat.le_of_ble_eq_true rfl) ⟨by decide, by decide⟩ (fun κ b0 u v6 bs7 _ C0 hT => ?_)
  refine tg_aload_n 0 C0 dX7_describeRow_45 rfl rfl ?_
  refine tg_get 247 8 C0 dX7_describeRow_46 (by decide) rfl rfl tu_X7 (by decide) tf_X7_37 rfl rfl rfl ?_
  refine tg_bipush (x := 47) C0 dX7_describeRow_49 (by decide) ?_
  refine tw_appc 47 rfl (by decide) C0 hE hT dX7_describeRow_51 (tm_gV tl_X7_347 ti_J4_append_cf468 ts_J4_append_cf468 tn_J4 tc_J4_append_cf468) ⟨by decide, by decide⟩ (Nat.le_of_ble_eq_true rfl) ⟨by decide, by decide⟩ (fun κ b0 u bs8 _ C0 hT => ?_)
  refine tg_pop C0 dX7_describeRow_54 rfl ?_
  refine tg_aload_n 0 C0 dX7_describeRow_55 rfl rfl ?_
  refine tg_aload_n 0 C0 dX7_describeRow_56 rfl rfl ?_
  refine tg_get 247 0 C0 dX7_describeRow_57 (by decide) rfl rfl tu_X7 (by decide) tf_X7_12 rfl rfl rfl ?_
  refine tg_getN 0 5 C0 dX7_describeRow_60 (by decide) rfl rfl tu_X4 (by decide) tm_nwC_X7_98 rfl rfl rfl ?_
  refine tg_iconst (x := 1) C0 dX7_describeRow_63 (by decide) ?_
  refine tg_iload_n 1 C0 dX7_describeRow_64 rfl rfl ?_
  refine tg_callVi (As := [.int 1, .int x1]) 1 2 C0 dX7_describeRow_65 (c_X5_valueAt l 1 x1 v6) rfl rfl (by decide) rfl rfl (tm_gV tl_X7_186 ti_X5_valueAt ts_X5_valueAt tn_X5 tc_X5_valueAt)  rfl rfl rfl rfl (by decide +kernel) ⟨by decide, by decide⟩ (Nat.le_of_ble_eq_true rfl) ⟨by decide, by decide⟩ (fun r10 v9 _ => ?_)
  refine tw_callWv (As := [.int r10]) 247 1 C0 hE hT dX7_describeRow_68 (c_X7_describeValue l r10 v9 bs8) rfl rfl (by decide) rfl rfl (tm_gV tl_X7_350 ti_X7_describeValue ts_X7_describeValue tn_X7 tc_X7_describeValue) rfl rfl rfl rfl (by decide +kernel) ⟨by decide, by decide⟩ (Nat.le_of_ble_eq_true rfl) ⟨by decide, by decide⟩ (fun κ b0 u v11 bs12 _ C0 hT => ?_)
  refine tg_aload_n 0 C0 dX7_describeRow_71 rfl rfl ?_
  refine tg_get 247 0 C0 dX7_describeRow_72 (by decide) rfl rfl tu_X7 (by decide) tf_X7_12 rfl rfl rfl ?_
  refine tg_getN 0 6 C0 dX7_describeRow_75 (by decide) rfl rfl tu_X4 (by decide) tm_nwC_X7_145 rfl rfl rfl ?_
  refine tg_iload_n 1 C0 dX7_describeRow_78 rfl rfl ?_
  refine tg_callVi (As := [.int x1]) 8 1 C0 dX7_describeRow_79 (c_X2_holds l x1 v11) rfl rfl (by decide) rfl rfl (tm_gV tl_X7_208 ti_X2_holds ts_X2_holds tn_X2 tc_X2_holds)  rfl rfl rfl rfl (by decide +kernel) ⟨by decide, by decide⟩ (Nat.le_of_ble_eq_true rfl) ⟨by decide, by decide⟩ (fun r14 v13 _ => ?_)
  refine tg_if_eq 95 C0 dX7_describeRow_82 (by decide) (fun _ => ?_) (fun _ => ?_)
  · exact tw_vret C0 hT dX7_describeRow_95 ⟨by decide, by decide⟩
  · refine tg_aload_n 0 C0 dX7_describeRow_85 rfl rfl ?_
    refine tg_get 247 8 C0 dX7_describeRow_86 (by decide) rfl rfl tu_X7 (by decide) tf_X7_37 rfl rfl rfl ?_
    refine tg_bipush (x := 33) C0 dX7_describeRow_89 (by decide) ?_
    refine tw_appc 33 rfl (by decide) C0 hE hT dX7_describeRow_91 (tm_gV tl_X7_347 ti_J4_append_cf468 ts_J4_append_cf468 tn_J4 tc_J4_append_cf468) ⟨by decide, by decide⟩ (Nat.le_of_ble_eq_true rfl) ⟨by decide, by decide⟩ (fun κ b0 u bs15 _ C0 hT => ?_)
    refine tg_pop C0 dX7_describeRow_94 rfl ?_
    exact tw_vret C0 hT dX7_describeRow_95 ⟨by decide, by decide⟩
theorem c_X7_describeRow (l : Launch) {adK adV adE : Nat → Nat} {tC : Nat} (x1 : Int32) (v : tmM) (bs : List Int32) : tmWv tm_NWC tm_shC 256 l adK adV adE tC yX7_describeRow (Cond.code yX7_describeRow cX7_describeRow 2 none :: TMW) ({ frames := 7, cells := 7, slots := 490, locals := 181 } : Room) (fun ad => [.ref (ad 247), .int x1]) v bs 7 490 (f_X7_describeRow x1 v bs) :=
  tmWv.of (cc := cX7_describeRow) (nL := 2) (by decide +kernel) rfl tm_NWC_ok (fun _ => Nat.le_of_ble_eq_true rfl) (fun p e s m args below meth c A D cy ad κ b0 u z C0 hE hT => w_X7_describeRow C0 hE hT x1 v)
-- ----- X7_output
theorem dX7_output_0 : decode cX7_output 0 = .ok (.iload_n 1, 1) := by decide +kernel
theorem dX7_output_1 : decode cX7_output 1 = .ok (.ifCond .lt 25, 3) := by decide +kernel
theorem dX7_output_4 : decode cX7_output 4 = .ok (.iload_n 1, 1) := by decide +kernel
theorem dX7_output_5 : decode cX7_output 5 = .ok (.aload_n 0, 1) := by decide +kernel
theorem dX7_output_6 : decode cX7_output 6 = .ok (.getfield 37, 3) := by decide +kernel
theorem dX7_output_9 : decode cX7_output 9 = .ok (.invokevirtual 301, 3) := by decide +kernel
theorem dX7_output_12 : decode cX7_output 12 = .ok (.if_icmp .ge 14, 3) := by decide +kernel
theorem dX7_output_15 : decode cX7_output 15 = .ok (.aload_n 0, 1) := by decide +kernel
theorem dX7_output_16 : decode cX7_output 16 = .ok (.getfield 37, 3) := by decide +kernel
theorem dX7_output_19 : decode cX7_output 19 = .ok (.iload_n 1, 1) := by decide +kernel
theorem dX7_output_20 : decode cX7_output 20 = .ok (.invokevirtual 303, 3) := by decide +kernel
theorem dX7_output_23 : decode cX7_output 23 = .ok (.goto 4, 3) := by decide +kernel
theorem dX7_output_26 : decode cX7_output 26 = .ok (.iconst (-1), 1) := by decide +kernel
theorem dX7_output_27 : decode cX7_output 27 = .ok (.ireturn, 1) := by decide +kernel
theorem tl_X7_301 : Cond.methodLink RX7 301 yJ4_length_8abf5 ∈ TMW := tm_in 794 (by decide +kernel) (by decide +kernel)
theorem ti_J4_length_8abf5 : Cond.instanceMethod yJ4_length_8abf5 ∈ TMW := tm_in 795 (by decide +kernel) (by decide +kernel)
theorem ts_J4_length_8abf5 : Cond.selects RJ4 yJ4_length_8abf5 yJ4_length_8abf5 ∈ TMW := tm_in 796 (by decide +kernel) (by decide +kernel)
theorem tc_J4_length_8abf5 : Cond.code yJ4_length_8abf5 cJ4_length_8abf5 1 (some .int) ∈ TMW := tm_in 797 (by decide +kernel) (by decide +kernel)
theorem tl_X7_303 : Cond.methodLink RX7 303 yJ4_charAt_5068e ∈ TMW := tm_in 801 (by decide +kernel) (by decide +kernel)
theorem ti_J4_charAt_5068e : Cond.instanceMethod yJ4_charAt_5068e ∈ TMW := tm_in 802 (by decide +kernel) (by decide +kernel)
theorem ts_J4_charAt_5068e : Cond.selects RJ4 yJ4_charAt_5068e yJ4_charAt_5068e ∈ TMW := tm_in 803 (by decide +kernel) (by decide +kernel)
theorem tc_J4_charAt_5068e : Cond.code yJ4_charAt_5068e cJ4_charAt_5068e 2 (some .char) ∈ TMW := tm_in 804 (by decide +kernel) (by decide +kernel)
def f_X7_output (x1 : Int32) (v : tmM) (bs : List Int32) : Option (Int32 × (tmM × List Int32)) := (if x1 < 0 then some ((-1), (v, bs)) else tm_lt (nI bs.length) fun r2 => (if r2 ≤ x1 then some ((-1), (v, bs)) else tm_g (decide (¬ x1 < 0 ∧ x1.toNatClampNeg < bs.length)) (tm_lt (bs.getD x1.toNatClampNeg 0) fun r4 => some (r4, (v, bs)))))
set_option maxRecDepth 100000 in
set_option maxHeartbeats 4000000 in
theorem w_X7_output {p : Program} {l : Launch} {e : Env} {s : State} {m : MethodId} {args : Array Value} {below : List Frame} {meth : Method} {c : Code} {D : va_G} {cy : Nat → ClassId} {ad : Nat → Nat} {A : Nat → Prop} {adK adV adE : Nat → Nat} {tC κ b0 : Nat} {u : tmM} {bs : List Int32} {z : (Int32 × (tmM × List Int32))} (C0 : tmC p s m args meth c cX7_output 2 (some .int) RX7 TMW tm_NWC D cy tm_shC ad 256 (tmXB cy (ad 256) κ b0 u) A) (hE : tmSc adK adV adE tC A s s.heap) (hT : tmTx κ u bs) (x1 : Int32) (v : tmM) : tmG p l e ({ frames := 6, cells := 0, slots := 0, locals := 160 } : Room) s m args below meth c 0 0 (MQ below (va_Qi (fun r w => z = (r, w)) (tmWt tm_shC 256 D cy ad A) A) args s 0 0 A) 2 D cy tm_shC ad 256 (tmXB cy (ad 256) κ b0 u) A z 0 [(0, .ref (ad 247)), (1, .int x1)] [] v (f_X7_output x1 v bs) := by
  unfold f_X7_output
  refine tg_iload_n 1 C0 dX7_output_0 rfl rfl ?_
  refine tg_if_lt 26 C0 dX7_output_1 (by decide) (fun _ => ?_) (fun _ => ?_)
  · refine tg_iconst (x := (-1)) C0 dX7_output_26 (by decide) ?_
    exact tw_iret C0 hT dX7_output_27 ⟨by decide, by decide⟩
  · refine tg_iload_n 1 C0 dX7_output_4 rfl rfl ?_
    refine tg_aload_n 0 C0 dX7_output_5 rfl rfl ?_
    refine tg_get 247 8 C0 dX7_output_6 (by decide) rfl rfl tu_X7 (by decide) tf_X7_37 rfl rfl rfl ?_
    refine tw_len C0 hE hT dX7_output_9 (tm_gV tl_X7_301 ti_J4_length_8abf5 ts_J4_length_8abf5 tn_J4 tc_J4_length_8abf5) ⟨by decide, by decide⟩ (Nat.le_of_ble_eq_true rfl) ⟨by decide, by decide⟩ (fun r2 _ => ?_)
    refine tg_icmp_ge 26 C0 dX7_output_12 (by decide) (fun _ => ?_) (fun _ => ?_)
    · refine tg_iconst (x := (-1)) C0 dX7_output_26 (by decide) ?_
      exact tw_iret C0 hT dX7_output_27 ⟨by decide, by decide⟩
    · refine tg_aload_n 0 C0 dX7_output_15 rfl rfl ?_
      refine tg_get 247 8 C0 dX7_output_16 (by decide) rfl rfl tu_X7 (by decide) tf_X7_37 rfl rfl rfl ?_
      refine tg_iload_n 1 C0 dX7_output_19 rfl rfl ?_
      refine tw_chr C0 hE hT dX7_output_20 (tm_gV tl_X7_303 ti_J4_charAt_5068e ts_J4_charAt_5068e tn_J4 tc_J4_charAt_5068e) ⟨by decide, by decide⟩ (Nat.le_of_ble_eq_true rfl) ⟨by decide, by decide⟩ (fun r4 _ => ?_)
      refine tg_goto 27 C0 dX7_output_23 (by decide) ?_
      exact tw_iret C0 hT dX7_output_27 ⟨by decide, by decide⟩
theorem c_X7_output (l : Launch) {adK adV adE : Nat → Nat} {tC : Nat} (x1 : Int32) (v : tmM) (bs : List Int32) : tmWi tm_NWC tm_shC 256 l adK adV adE tC yX7_output (Cond.code yX7_output cX7_output 2 (some .int) :: TMW) ({ frames := 6, cells := 0, slots := 0, locals := 160 } : Room) (fun ad => [.ref (ad 247), .int x1]) v bs 0 0 (f_X7_output x1 v bs) :=
  tmWi.of (cc := cX7_output) (nL := 2) (by decide +kernel) rfl tm_NWC_ok (fun _ => Nat.le_of_ble_eq_true rfl) (fun p e s m args below meth c A D cy ad κ b0 u z C0 hE hT => w_X7_output C0 hE hT x1 v)
