-- ----- X4_isDouble
theorem dX4_isDouble_0 : decode cX4_isDouble 0 = .ok (.aload_n 0, 1) := by decide +kernel
theorem dX4_isDouble_1 : decode cX4_isDouble 1 = .ok (.getfield 9, 3) := by decide +kernel
theorem dX4_isDouble_4 : decode cX4_isDouble 4 = .ok (.iconst 1, 1) := by decide +kernel
theorem dX4_isDouble_5 : decode cX4_isDouble 5 = .ok (.if_icmp .eq 11, 3) := by decide +kernel
theorem dX4_isDouble_8 : decode cX4_isDouble 8 = .ok (.aload_n 0, 1) := by decide +kernel
theorem dX4_isDouble_9 : decode cX4_isDouble 9 = .ok (.getfield 9, 3) := by decide +kernel
theorem dX4_isDouble_12 : decode cX4_isDouble 12 = .ok (.iconst 2, 1) := by decide +kernel
theorem dX4_isDouble_13 : decode cX4_isDouble 13 = .ok (.if_icmp .ne 7, 3) := by decide +kernel
theorem dX4_isDouble_16 : decode cX4_isDouble 16 = .ok (.iconst 1, 1) := by decide +kernel
theorem dX4_isDouble_17 : decode cX4_isDouble 17 = .ok (.goto 4, 3) := by decide +kernel
theorem dX4_isDouble_20 : decode cX4_isDouble 20 = .ok (.iconst 0, 1) := by decide +kernel
theorem dX4_isDouble_21 : decode cX4_isDouble 21 = .ok (.ireturn, 1) := by decide +kernel
theorem tf_X4_9 : Cond.fieldLink RX4 9 "TableMove$State" (TX4 0).2.1 (TX4 0).2.2.1 ∈ TMW := tm_in 229 (by decide +kernel) (by decide +kernel)
theorem tu_X4 : ∀ w ∈ u_ws RX4 TX4 10, w ∈ TMW := tm_us [249, 251, 253, 255, 257, 259, 261, 263, 265, 267] (by decide +kernel) (by decide +kernel)
def f_X4_isDouble_16 (v : tmM) : Option (Int32 × tmM) := some (1, v)
set_option maxRecDepth 100000 in
set_option maxHeartbeats 4000000 in
theorem w_X4_isDouble_16 {p : Program} {l : Launch} {e : Env} {s : State} {m : MethodId} {args : Array Value} {below : List Frame} {meth : Method} {c : Code} {D : va_G} {cy : Nat → ClassId} {ad : Nat → Nat} {A : Nat → Prop} {z : (Int32 × tmM)} (C0 : tmC p s m args meth c cX4_isDouble 1 (some .boolean) RX4 TMW tm_NWC D cy tm_shC ad 256 [] A) (v : tmM) : tmG p l e ({ frames := 0, cells := 0, slots := 0, locals := 0 } : Room) s m args below meth c 0 0 (MQ below (va_Qi (fun r u => z = (r, u)) (tmAt tm_shC 256 D cy ad A) A) args s 0 0 A) 1 D cy tm_shC ad 256 [] A z 16 [] [] v (f_X4_isDouble_16 v) := by
  unfold f_X4_isDouble_16
  refine tg_iconst (x := 1) C0 dX4_isDouble_16 (by decide) ?_
  refine tg_goto 21 C0 dX4_isDouble_17 (by decide) ?_
  exact tg_zret C0 dX4_isDouble_21 rfl
def f_X4_isDouble (v : tmM) : Option (Int32 × tmM) := (if (v 0 0) = 1 then f_X4_isDouble_16 v else (if (v 0 0) = 2 then f_X4_isDouble_16 v else some (0, v)))
set_option maxRecDepth 100000 in
set_option maxHeartbeats 4000000 in
theorem w_X4_isDouble {p : Program} {l : Launch} {e : Env} {s : State} {m : MethodId} {args : Array Value} {below : List Frame} {meth : Method} {c : Code} {D : va_G} {cy : Nat → ClassId} {ad : Nat → Nat} {A : Nat → Prop} {z : (Int32 × tmM)} (C0 : tmC p s m args meth c cX4_isDouble 1 (some .boolean) RX4 TMW tm_NWC D cy tm_shC ad 256 [] A) (v : tmM) : tmG p l e ({ frames := 0, cells := 0, slots := 0, locals := 0 } : Room) s m args below meth c 0 0 (MQ below (va_Qi (fun r u => z = (r, u)) (tmAt tm_shC 256 D cy ad A) A) args s 0 0 A) 1 D cy tm_shC ad 256 [] A z 0 [(0, .ref (ad 0))] [] v (f_X4_isDouble v) := by
  unfold f_X4_isDouble
  refine tg_aload_n 0 C0 dX4_isDouble_0 rfl rfl ?_
  refine tg_get 0 0 C0 dX4_isDouble_1 (by decide) rfl rfl tu_X4 (by decide) tf_X4_9 rfl rfl rfl ?_
  refine tg_iconst (x := 1) C0 dX4_isDouble_4 (by decide) ?_
  refine tg_icmp_eq 16 C0 dX4_isDouble_5 (by decide) (fun _ => ?_) (fun _ => ?_)
  · refine tg_sub [] rfl ?_
    exact w_X4_isDouble_16 C0 v
  · refine tg_aload_n 0 C0 dX4_isDouble_8 rfl rfl ?_
    refine tg_get 0 0 C0 dX4_isDouble_9 (by decide) rfl rfl tu_X4 (by decide) tf_X4_9 rfl rfl rfl ?_
    refine tg_iconst (x := 2) C0 dX4_isDouble_12 (by decide) ?_
    refine tg_icmp_ne 20 C0 dX4_isDouble_13 (by decide) (fun _ => ?_) (fun _ => ?_)
    · refine tg_iconst (x := 0) C0 dX4_isDouble_20 (by decide) ?_
      exact tg_zret C0 dX4_isDouble_21 rfl
    · refine tg_sub [] rfl ?_
      exact w_X4_isDouble_16 C0 v
theorem c_X4_isDouble (l : Launch) (v : tmM) : tmMi tm_NWC tm_shC 256 l yX4_isDouble (Cond.code yX4_isDouble cX4_isDouble 1 (some .boolean) :: TMW) ({ frames := 0, cells := 0, slots := 0, locals := 0 } : Room) (fun ad => [.ref (ad 0)]) v (f_X4_isDouble v) :=
  tmMi.of (cc := cX4_isDouble) (nL := 1) (by decide +kernel) rfl tm_NWC_ok (fun _ => Nat.le_of_ble_eq_true rfl) (fun p e s m args below meth c A D cy ad z C0 => w_X4_isDouble C0 v)
-- ----- X4_leader
theorem dX4_leader_0 : decode cX4_leader 0 = .ok (.aload_n 0, 1) := by decide +kernel
theorem dX4_leader_1 : decode cX4_leader 1 = .ok (.getfield 9, 3) := by decide +kernel
theorem dX4_leader_4 : decode cX4_leader 4 = .ok (.ifCond .eq 11, 3) := by decide +kernel
theorem dX4_leader_7 : decode cX4_leader 7 = .ok (.aload_n 0, 1) := by decide +kernel
theorem dX4_leader_8 : decode cX4_leader 8 = .ok (.getfield 9, 3) := by decide +kernel
theorem dX4_leader_11 : decode cX4_leader 11 = .ok (.iconst 1, 1) := by decide +kernel
theorem dX4_leader_12 : decode cX4_leader 12 = .ok (.if_icmp .ne 7, 3) := by decide +kernel
theorem dX4_leader_15 : decode cX4_leader 15 = .ok (.iconst 0, 1) := by decide +kernel
theorem dX4_leader_16 : decode cX4_leader 16 = .ok (.goto 4, 3) := by decide +kernel
theorem dX4_leader_19 : decode cX4_leader 19 = .ok (.iconst 1, 1) := by decide +kernel
theorem dX4_leader_20 : decode cX4_leader 20 = .ok (.ireturn, 1) := by decide +kernel
def f_X4_leader_15 (v : tmM) : Option (Int32 × tmM) := some (0, v)
set_option maxRecDepth 100000 in
set_option maxHeartbeats 4000000 in
theorem w_X4_leader_15 {p : Program} {l : Launch} {e : Env} {s : State} {m : MethodId} {args : Array Value} {below : List Frame} {meth : Method} {c : Code} {D : va_G} {cy : Nat → ClassId} {ad : Nat → Nat} {A : Nat → Prop} {z : (Int32 × tmM)} (C0 : tmC p s m args meth c cX4_leader 1 (some .int) RX4 TMW tm_NWC D cy tm_shC ad 256 [] A) (v : tmM) : tmG p l e ({ frames := 0, cells := 0, slots := 0, locals := 0 } : Room) s m args below meth c 0 0 (MQ below (va_Qi (fun r u => z = (r, u)) (tmAt tm_shC 256 D cy ad A) A) args s 0 0 A) 1 D cy tm_shC ad 256 [] A z 15 [] [] v (f_X4_leader_15 v) := by
  unfold f_X4_leader_15
  refine tg_iconst (x := 0) C0 dX4_leader_15 (by decide) ?_
  refine tg_goto 20 C0 dX4_leader_16 (by decide) ?_
  exact tg_iret C0 dX4_leader_20
def f_X4_leader (v : tmM) : Option (Int32 × tmM) := (if (v 0 0) = 0 then f_X4_leader_15 v else (if (v 0 0) = 1 then f_X4_leader_15 v else some (1, v)))
set_option maxRecDepth 100000 in
set_option maxHeartbeats 4000000 in
theorem w_X4_leader {p : Program} {l : Launch} {e : Env} {s : State} {m : MethodId} {args : Array Value} {below : List Frame} {meth : Method} {c : Code} {D : va_G} {cy : Nat → ClassId} {ad : Nat → Nat} {A : Nat → Prop} {z : (Int32 × tmM)} (C0 : tmC p s m args meth c cX4_leader 1 (some .int) RX4 TMW tm_NWC D cy tm_shC ad 256 [] A) (v : tmM) : tmG p l e ({ frames := 0, cells := 0, slots := 0, locals := 0 } : Room) s m args below meth c 0 0 (MQ below (va_Qi (fun r u => z = (r, u)) (tmAt tm_shC 256 D cy ad A) A) args s 0 0 A) 1 D cy tm_shC ad 256 [] A z 0 [(0, .ref (ad 0))] [] v (f_X4_leader v) := by
  unfold f_X4_leader
  refine tg_aload_n 0 C0 dX4_leader_0 rfl rfl ?_
  refine tg_get 0 0 C0 dX4_leader_1 (by decide) rfl rfl tu_X4 (by decide) tf_X4_9 rfl rfl rfl ?_
  refine tg_if_eq 15 C0 dX4_leader_4 (by decide) (fun _ => ?_) (fun _ => ?_)
  · refine tg_sub [] rfl ?_
    exact w_X4_leader_15 C0 v
  · refine tg_aload_n 0 C0 dX4_leader_7 rfl rfl ?_
    refine tg_get 0 0 C0 dX4_leader_8 (by decide) rfl rfl tu_X4 (by decide) tf_X4_9 rfl rfl rfl ?_
    refine tg_iconst (x := 1) C0 dX4_leader_11 (by decide) ?_
    refine tg_icmp_ne 19 C0 dX4_leader_12 (by decide) (fun _ => ?_) (fun _ => ?_)
    · refine tg_iconst (x := 1) C0 dX4_leader_19 (by decide) ?_
      exact tg_iret C0 dX4_leader_20
    · refine tg_sub [] rfl ?_
      exact w_X4_leader_15 C0 v
theorem c_X4_leader (l : Launch) (v : tmM) : tmMi tm_NWC tm_shC 256 l yX4_leader (Cond.code yX4_leader cX4_leader 1 (some .int) :: TMW) ({ frames := 0, cells := 0, slots := 0, locals := 0 } : Room) (fun ad => [.ref (ad 0)]) v (f_X4_leader v) :=
  tmMi.of (cc := cX4_leader) (nL := 1) (by decide +kernel) rfl tm_NWC_ok (fun _ => Nat.le_of_ble_eq_true rfl) (fun p e s m args below meth c A D cy ad z C0 => w_X4_leader C0 v)
-- ----- X4_sideOf
theorem dX4_sideOf_0 : decode cX4_sideOf 0 = .ok (.aload_n 0, 1) := by decide +kernel
theorem dX4_sideOf_1 : decode cX4_sideOf 1 = .ok (.getfield 56, 3) := by decide +kernel
theorem dX4_sideOf_4 : decode cX4_sideOf 4 = .ok (.iload_n 1, 1) := by decide +kernel
theorem dX4_sideOf_5 : decode cX4_sideOf 5 = .ok (.invokestatic 78, 3) := by decide +kernel
theorem dX4_sideOf_8 : decode cX4_sideOf 8 = .ok (.ifCond .eq 7, 3) := by decide +kernel
theorem dX4_sideOf_11 : decode cX4_sideOf 11 = .ok (.iconst 1, 1) := by decide +kernel
theorem dX4_sideOf_12 : decode cX4_sideOf 12 = .ok (.goto 4, 3) := by decide +kernel
theorem dX4_sideOf_15 : decode cX4_sideOf 15 = .ok (.iconst 0, 1) := by decide +kernel
theorem dX4_sideOf_16 : decode cX4_sideOf 16 = .ok (.ireturn, 1) := by decide +kernel
theorem tf_X4_56 : Cond.fieldLink RX4 56 "TableMove$State" (TX4 4).2.1 (TX4 4).2.2.1 ∈ TMW := tm_in 237 (by decide +kernel) (by decide +kernel)
def f_X4_sideOf (x1 : Int32) (v : tmM) : Option (Int32 × tmM) := tm_cl (f_X7_has (v 0 4) x1 v) fun r2 v1 => (if r2 = 0 then some (0, v1) else some (1, v1))
set_option maxRecDepth 100000 in
set_option maxHeartbeats 4000000 in
theorem w_X4_sideOf {p : Program} {l : Launch} {e : Env} {s : State} {m : MethodId} {args : Array Value} {below : List Frame} {meth : Method} {c : Code} {D : va_G} {cy : Nat → ClassId} {ad : Nat → Nat} {A : Nat → Prop} {z : (Int32 × tmM)} (C0 : tmC p s m args meth c cX4_sideOf 2 (some .int) RX4 TMW tm_NWC D cy tm_shC ad 256 [] A) (x1 : Int32) (v : tmM) : tmG p l e ({ frames := 1, cells := 0, slots := 0, locals := 21 } : Room) s m args below meth c 0 0 (MQ below (va_Qi (fun r u => z = (r, u)) (tmAt tm_shC 256 D cy ad A) A) args s 0 0 A) 2 D cy tm_shC ad 256 [] A z 0 [(0, .ref (ad 0)), (1, .int x1)] [] v (f_X4_sideOf x1 v) := by
  unfold f_X4_sideOf
  refine tg_aload_n 0 C0 dX4_sideOf_0 rfl rfl ?_
  refine tg_get 0 4 C0 dX4_sideOf_1 (by decide) rfl rfl tu_X4 (by decide) tf_X4_56 rfl rfl rfl ?_
  refine tg_iload_n 1 C0 dX4_sideOf_4 rfl rfl ?_
  refine tg_callSNi (As := [.int (v 0 4), .int x1]) 2 C0 dX4_sideOf_5 (c_X7_has l (v 0 4) x1 v) rfl rfl (tm_gc tc_X7_has) tm_nwC_X4_78 tn_X7 tst_X7_has rfl rfl rfl rfl (by decide +kernel) ⟨by decide, by decide⟩ (Nat.le_of_ble_eq_true rfl) ⟨by decide, by decide⟩ (fun r2 v1 _ => ?_)
  refine tg_if_eq 15 C0 dX4_sideOf_8 (by decide) (fun _ => ?_) (fun _ => ?_)
  · refine tg_iconst (x := 0) C0 dX4_sideOf_15 (by decide) ?_
    exact tg_iret C0 dX4_sideOf_16
  · refine tg_iconst (x := 1) C0 dX4_sideOf_11 (by decide) ?_
    refine tg_goto 16 C0 dX4_sideOf_12 (by decide) ?_
    exact tg_iret C0 dX4_sideOf_16
theorem c_X4_sideOf (l : Launch) (x1 : Int32) (v : tmM) : tmMi tm_NWC tm_shC 256 l yX4_sideOf (Cond.code yX4_sideOf cX4_sideOf 2 (some .int) :: TMW) ({ frames := 1, cells := 0, slots := 0, locals := 21 } : Room) (fun ad => [.ref (ad 0), .int x1]) v (f_X4_sideOf x1 v) :=
  tmMi.of (cc := cX4_sideOf) (nL := 2) (by decide +kernel) rfl tm_NWC_ok (fun _ => Nat.le_of_ble_eq_true rfl) (fun p e s m args below meth c A D cy ad z C0 => w_X4_sideOf C0 x1 v)
-- ----- X4_leadsRow
theorem dX4_leadsRow_0 : decode cX4_leadsRow 0 = .ok (.aload_n 0, 1) := by decide +kernel
theorem dX4_leadsRow_1 : decode cX4_leadsRow 1 = .ok (.getfield 21, 3) := by decide +kernel
theorem dX4_leadsRow_4 : decode cX4_leadsRow 4 = .ok (.getfield 82, 3) := by decide +kernel
theorem dX4_leadsRow_7 : decode cX4_leadsRow 7 = .ok (.aload_n 0, 1) := by decide +kernel
theorem dX4_leadsRow_8 : decode cX4_leadsRow 8 = .ok (.invokevirtual 86, 3) := by decide +kernel
theorem dX4_leadsRow_11 : decode cX4_leadsRow 11 = .ok (.aaload, 1) := by decide +kernel
theorem dX4_leadsRow_12 : decode cX4_leadsRow 12 = .ok (.iload_n 1, 1) := by decide +kernel
theorem dX4_leadsRow_13 : decode cX4_leadsRow 13 = .ok (.iaload, 1) := by decide +kernel
theorem dX4_leadsRow_14 : decode cX4_leadsRow 14 = .ok (.iconst (-1), 1) := by decide +kernel
theorem dX4_leadsRow_15 : decode cX4_leadsRow 15 = .ok (.if_icmp .eq 7, 3) := by decide +kernel
theorem dX4_leadsRow_18 : decode cX4_leadsRow 18 = .ok (.iconst 1, 1) := by decide +kernel
theorem dX4_leadsRow_19 : decode cX4_leadsRow 19 = .ok (.goto 4, 3) := by decide +kernel
theorem dX4_leadsRow_22 : decode cX4_leadsRow 22 = .ok (.iconst 0, 1) := by decide +kernel
theorem dX4_leadsRow_23 : decode cX4_leadsRow 23 = .ok (.ireturn, 1) := by decide +kernel
theorem tf_X4_21 : Cond.fieldLink RX4 21 "TableMove$State" (TX4 5).2.1 (TX4 5).2.2.1 ∈ TMW := tm_in 239 (by decide +kernel) (by decide +kernel)
theorem tl_X4_86 : Cond.methodLink RX4 86 yX4_leader ∈ TMW := tm_in 486 (by decide +kernel) (by decide +kernel)
theorem ti_X4_leader : Cond.instanceMethod yX4_leader ∈ TMW := tm_in 487 (by decide +kernel) (by decide +kernel)
theorem ts_X4_leader : Cond.selects RX4 yX4_leader yX4_leader ∈ TMW := tm_in 488 (by decide +kernel) (by decide +kernel)
theorem tn_X4 : Cond.initialized RX4 ∈ TMW := tm_in 111 (by decide +kernel) (by decide +kernel)
theorem tc_X4_leader : Cond.code yX4_leader cX4_leader 1 (some .int) ∈ TMW := tm_in 489 (by decide +kernel) (by decide +kernel)
def f_X4_leadsRow (x1 : Int32) (v : tmM) : Option (Int32 × tmM) := tm_cl (f_X4_leader v) fun r2 v1 => tm_g (tm_ix r2 2) (tm_lt (([3, 4] : List Nat).getD r2.toNatClampNeg 0) fun q4 => tm_g (tm_ix x1 60) ((if (v1 q4 x1.toNatClampNeg) = (-1) then some (0, v1) else some (1, v1))))
set_option maxRecDepth 100000 in
set_option maxHeartbeats 4000000 in
theorem w_X4_leadsRow {p : Program} {l : Launch} {e : Env} {s : State} {m : MethodId} {args : Array Value} {below : List Frame} {meth : Method} {c : Code} {D : va_G} {cy : Nat → ClassId} {ad : Nat → Nat} {A : Nat → Prop} {z : (Int32 × tmM)} (C0 : tmC p s m args meth c cX4_leadsRow 2 (some .boolean) RX4 TMW tm_NWC D cy tm_shC ad 256 [] A) (x1 : Int32) (v : tmM) : tmG p l e ({ frames := 1, cells := 0, slots := 0, locals := 20 } : Room) s m args below meth c 0 0 (MQ below (va_Qi (fun r u => z = (r, u)) (tmAt tm_shC 256 D cy ad A) A) args s 0 0 A) 2 D cy tm_shC ad 256 [] A z 0 [(0, .ref (ad 0)), (1, .int x1)] [] v (f_X4_leadsRow x1 v) := by
  unfold f_X4_leadsRow
  refine tg_aload_n 0 C0 dX4_leadsRow_0 rfl rfl ?_
  refine tg_get 0 5 C0 dX4_leadsRow_1 (by decide) rfl rfl tu_X4 (by decide) tf_X4_21 rfl rfl rfl ?_
  refine tg_getN 1 2 C0 dX4_leadsRow_4 (by decide) rfl rfl tu_X5 (by decide) tm_nwC_X4_82 rfl rfl rfl ?_
  refine tg_aload_n 0 C0 dX4_leadsRow_7 rfl rfl ?_
  refine tg_callVi (As := []) 0 0 C0 dX4_leadsRow_8 (c_X4_leader l v) rfl rfl (by decide) rfl rfl (tm_gV tl_X4_86 ti_X4_leader ts_X4_leader tn_X4 tc_X4_leader)  rfl rfl rfl rfl (by decide +kernel) ⟨by decide, by decide⟩ (Nat.le_of_ble_eq_true rfl) ⟨by decide, by decide⟩ (fun r2 v1 _ => ?_)
  refine tg_aald 2 C0 dX4_leadsRow_11 (by decide) rfl (by decide) rfl (fun q4 h3 e5 => ?_)
  have q4f := tm_all (P := fun r => tm_shC r = .inl (0, 60) ∧ r < 256) h3 e5 (by decide +kernel)
  refine tg_iload_n 1 C0 dX4_leadsRow_12 rfl rfl ?_
  refine tg_iald q4 C0 dX4_leadsRow_13 q4f.2 q4f.1 (fun _ => ?_)
  refine tg_iconst (x := (-1)) C0 dX4_leadsRow_14 (by decide) ?_
  refine tg_icmp_eq 22 C0 dX4_leadsRow_15 (by decide) (fun _ => ?_) (fun _ => ?_)
  · refine tg_iconst (x := 0) C0 dX4_leadsRow_22 (by decide) ?_
    exact tg_zret C0 dX4_leadsRow_23 rfl
  · refine tg_iconst (x := 1) C0 dX4_leadsRow_18 (by decide) ?_
    refine tg_goto 23 C0 dX4_leadsRow_19 (by decide) ?_
    exact tg_zret C0 dX4_leadsRow_23 rfl
theorem c_X4_leadsRow (l : Launch) (x1 : Int32) (v : tmM) : tmMi tm_NWC tm_shC 256 l yX4_leadsRow (Cond.code yX4_leadsRow cX4_leadsRow 2 (some .boolean) :: TMW) ({ frames := 1, cells := 0, slots := 0, locals := 20 } : Room) (fun ad => [.ref (ad 0), .int x1]) v (f_X4_leadsRow x1 v) :=
  tmMi.of (cc := cX4_leadsRow) (nL := 2) (by decide +kernel) rfl tm_NWC_ok (fun _ => Nat.le_of_ble_eq_true rfl) (fun p e s m args below meth c A D cy ad z C0 => w_X4_leadsRow C0 x1 v)
-- ----- X4_reasonAgainstWriting
theorem dX4_reasonAgainstWriting_0 : decode cX4_reasonAgainstWriting 0 = .ok (.aload_n 0, 1) := by decide +kernel
theorem dX4_reasonAgainstWriting_1 : decode cX4_reasonAgainstWriting 1 = .ok (.getfield 15, 3) := by decide +kernel
theorem dX4_reasonAgainstWriting_4 : decode cX4_reasonAgainstWriting 4 = .ok (.aload_n 0, 1) := by decide +kernel
theorem dX4_reasonAgainstWriting_5 : decode cX4_reasonAgainstWriting 5 = .ok (.invokevirtual 86, 3) := by decide +kernel
theorem dX4_reasonAgainstWriting_8 : decode cX4_reasonAgainstWriting 8 = .ok (.invokestatic 78, 3) := by decide +kernel
theorem dX4_reasonAgainstWriting_11 : decode cX4_reasonAgainstWriting 11 = .ok (.ifCond .eq 7, 3) := by decide +kernel
theorem dX4_reasonAgainstWriting_14 : decode cX4_reasonAgainstWriting 14 = .ok (.iconst 0, 1) := by decide +kernel
theorem dX4_reasonAgainstWriting_15 : decode cX4_reasonAgainstWriting 15 = .ok (.goto 4, 3) := by decide +kernel
theorem dX4_reasonAgainstWriting_18 : decode cX4_reasonAgainstWriting 18 = .ok (.iconst 1, 1) := by decide +kernel
theorem dX4_reasonAgainstWriting_19 : decode cX4_reasonAgainstWriting 19 = .ok (.ireturn, 1) := by decide +kernel
theorem tf_X4_15 : Cond.fieldLink RX4 15 "TableMove$State" (TX4 1).2.1 (TX4 1).2.2.1 ∈ TMW := tm_in 231 (by decide +kernel) (by decide +kernel)
def f_X4_reasonAgainstWriting (v : tmM) : Option (Int32 × tmM) := tm_cl (f_X4_leader v) fun r2 v1 => tm_cl (f_X7_has (v 0 1) r2 v1) fun r4 v3 => (if r4 = 0 then some (1, v3) else some (0, v3))
set_option maxRecDepth 100000 in
set_option maxHeartbeats 4000000 in
theorem w_X4_reasonAgainstWriting {p : Program} {l : Launch} {e : Env} {s : State} {m : MethodId} {args : Array Value} {below : List Frame} {meth : Method} {c : Code} {D : va_G} {cy : Nat → ClassId} {ad : Nat → Nat} {A : Nat → Prop} {z : (Int32 × tmM)} (C0 : tmC p s m args meth c cX4_reasonAgainstWriting 1 (some .int) RX4 TMW tm_NWC D cy tm_shC ad 256 [] A) (v : tmM) : tmG p l e ({ frames := 1, cells := 0, slots := 0, locals := 21 } : Room) s m args below meth c 0 0 (MQ below (va_Qi (fun r u => z = (r, u)) (tmAt tm_shC 256 D cy ad A) A) args s 0 0 A) 1 D cy tm_shC ad 256 [] A z 0 [(0, .ref (ad 0))] [] v (f_X4_reasonAgainstWriting v) := by
  unfold f_X4_reasonAgainstWriting
  refine tg_aload_n 0 C0 dX4_reasonAgainstWriting_0 rfl rfl ?_
  refine tg_get 0 1 C0 dX4_reasonAgainstWriting_1 (by decide) rfl rfl tu_X4 (by decide) tf_X4_15 rfl rfl rfl ?_
  refine tg_aload_n 0 C0 dX4_reasonAgainstWriting_4 rfl rfl ?_
  refine tg_callVi (As := []) 0 0 C0 dX4_reasonAgainstWriting_5 (c_X4_leader l v) rfl rfl (by decide) rfl rfl (tm_gV tl_X4_86 ti_X4_leader ts_X4_leader tn_X4 tc_X4_leader)  rfl rfl rfl rfl (by decide +kernel) ⟨by decide, by decide⟩ (Nat.le_of_ble_eq_true rfl) ⟨by decide, by decide⟩ (fun r2 v1 _ => ?_)
  refine tg_callSNi (As := [.int (v 0 1), .int r2]) 2 C0 dX4_reasonAgainstWriting_8 (c_X7_has l (v 0 1) r2 v1) rfl rfl (tm_gc tc_X7_has) tm_nwC_X4_78 tn_X7 tst_X7_has rfl rfl rfl rfl (by decide +kernel) ⟨by decide, by decide⟩ (Nat.le_of_ble_eq_true rfl) ⟨by decide, by decide⟩ (fun r4 v3 _ => ?_)
  refine tg_if_eq 18 C0 dX4_reasonAgainstWriting_11 (by decide) (fun _ => ?_) (fun _ => ?_)
  · refine tg_iconst (x := 1) C0 dX4_reasonAgainstWriting_18 (by decide) ?_
    exact tg_iret C0 dX4_reasonAgainstWriting_19
  · refine tg_iconst (x := 0) C0 dX4_reasonAgainstWriting_14 (by decide) ?_
    refine tg_goto 19 C0 dX4_reasonAgainstWriting_15 (by decide) ?_
    exact tg_iret C0 dX4_reasonAgainstWriting_19
theorem c_X4_reasonAgainstWriting (l : Launch) (v : tmM) : tmMi tm_NWC tm_shC 256 l yX4_reasonAgainstWriting (Cond.code yX4_reasonAgainstWriting cX4_reasonAgainstWriting 1 (some .int) :: TMW) ({ frames := 1, cells := 0, slots := 0, locals := 21 } : Room) (fun ad => [.ref (ad 0)]) v (f_X4_reasonAgainstWriting v) :=
  tmMi.of (cc := cX4_reasonAgainstWriting) (nL := 1) (by decide +kernel) rfl tm_NWC_ok (fun _ => Nat.le_of_ble_eq_true rfl) (fun p e s m args below meth c A D cy ad z C0 => w_X4_reasonAgainstWriting C0 v)
-- ----- X4_reasonAgainstRemoving
theorem dX4_reasonAgainstRemoving_0 : decode cX4_reasonAgainstRemoving 0 = .ok (.aload_n 0, 1) := by decide +kernel
theorem dX4_reasonAgainstRemoving_1 : decode cX4_reasonAgainstRemoving 1 = .ok (.getfield 15, 3) := by decide +kernel
theorem dX4_reasonAgainstRemoving_4 : decode cX4_reasonAgainstRemoving 4 = .ok (.aload_n 0, 1) := by decide +kernel
theorem dX4_reasonAgainstRemoving_5 : decode cX4_reasonAgainstRemoving 5 = .ok (.invokevirtual 86, 3) := by decide +kernel
theorem dX4_reasonAgainstRemoving_8 : decode cX4_reasonAgainstRemoving 8 = .ok (.invokestatic 78, 3) := by decide +kernel
theorem dX4_reasonAgainstRemoving_11 : decode cX4_reasonAgainstRemoving 11 = .ok (.ifCond .ne 5, 3) := by decide +kernel
theorem dX4_reasonAgainstRemoving_14 : decode cX4_reasonAgainstRemoving 14 = .ok (.iconst 1, 1) := by decide +kernel
theorem dX4_reasonAgainstRemoving_15 : decode cX4_reasonAgainstRemoving 15 = .ok (.ireturn, 1) := by decide +kernel
theorem dX4_reasonAgainstRemoving_16 : decode cX4_reasonAgainstRemoving 16 = .ok (.iload_n 1, 1) := by decide +kernel
theorem dX4_reasonAgainstRemoving_17 : decode cX4_reasonAgainstRemoving 17 = .ok (.istore_n 3, 1) := by decide +kernel
theorem dX4_reasonAgainstRemoving_18 : decode cX4_reasonAgainstRemoving 18 = .ok (.iload_n 3, 1) := by decide +kernel
theorem dX4_reasonAgainstRemoving_19 : decode cX4_reasonAgainstRemoving 19 = .ok (.iload_n 2, 1) := by decide +kernel
theorem dX4_reasonAgainstRemoving_20 : decode cX4_reasonAgainstRemoving 20 = .ok (.if_icmp .gt 19, 3) := by decide +kernel
theorem dX4_reasonAgainstRemoving_23 : decode cX4_reasonAgainstRemoving 23 = .ok (.aload_n 0, 1) := by decide +kernel
theorem dX4_reasonAgainstRemoving_24 : decode cX4_reasonAgainstRemoving 24 = .ok (.iload_n 3, 1) := by decide +kernel
theorem dX4_reasonAgainstRemoving_25 : decode cX4_reasonAgainstRemoving 25 = .ok (.invokevirtual 122, 3) := by decide +kernel
theorem dX4_reasonAgainstRemoving_28 : decode cX4_reasonAgainstRemoving 28 = .ok (.ifCond .eq 5, 3) := by decide +kernel
theorem dX4_reasonAgainstRemoving_31 : decode cX4_reasonAgainstRemoving 31 = .ok (.iconst 0, 1) := by decide +kernel
theorem dX4_reasonAgainstRemoving_32 : decode cX4_reasonAgainstRemoving 32 = .ok (.ireturn, 1) := by decide +kernel
theorem dX4_reasonAgainstRemoving_33 : decode cX4_reasonAgainstRemoving 33 = .ok (.iinc 3 1, 3) := by decide +kernel
theorem dX4_reasonAgainstRemoving_36 : decode cX4_reasonAgainstRemoving 36 = .ok (.goto (-18), 3) := by decide +kernel
theorem dX4_reasonAgainstRemoving_39 : decode cX4_reasonAgainstRemoving 39 = .ok (.bipush 8, 2) := by decide +kernel
theorem dX4_reasonAgainstRemoving_41 : decode cX4_reasonAgainstRemoving 41 = .ok (.ireturn, 1) := by decide +kernel
theorem tl_X4_122 : Cond.methodLink RX4 122 yX4_leadsRow ∈ TMW := tm_in 587 (by decide +kernel) (by decide +kernel)
theorem ti_X4_leadsRow : Cond.instanceMethod yX4_leadsRow ∈ TMW := tm_in 588 (by decide +kernel) (by decide +kernel)
theorem ts_X4_leadsRow : Cond.selects RX4 yX4_leadsRow yX4_leadsRow ∈ TMW := tm_in 589 (by decide +kernel) (by decide +kernel)
theorem tc_X4_leadsRow : Cond.code yX4_leadsRow cX4_leadsRow 2 (some .boolean) ∈ TMW := tm_in 590 (by decide +kernel) (by decide +kernel)
def f_X4_reasonAgainstRemoving_18b (K0 : tmM → Option (Int32 × tmM)) (L : Int32 → Int32 → tmM → Option (Int32 × tmM)) (x2 x3 : Int32) (v : tmM) : Option (Int32 × tmM) := (if x2 < x3 then K0 v else tm_cl (f_X4_leadsRow x3 v) fun r6 v5 => (if r6 = 0 then L x2 (x3 + 1) v5 else some (0, v5)))
set_option maxRecDepth 100000 in
set_option maxHeartbeats 4000000 in
theorem w_X4_reasonAgainstRemoving_18b {p : Program} {l : Launch} {e : Env} {s : State} {m : MethodId} {args : Array Value} {below : List Frame} {meth : Method} {c : Code} {D : va_G} {cy : Nat → ClassId} {ad : Nat → Nat} {A : Nat → Prop} {z : (Int32 × tmM)} {K0 : tmM → Option (Int32 × tmM)} {L : Int32 → Int32 → tmM → Option (Int32 × tmM)} (C0 : tmC p s m args meth c cX4_reasonAgainstRemoving 4 (some .int) RX4 TMW tm_NWC D cy tm_shC ad 256 [] A) (hK0 : ∀ (w : tmM), tmG p l e ({ frames := 2, cells := 0, slots := 0, locals := 41 } : Room) s m args below meth c 0 0 (MQ below (va_Qi (fun r u => z = (r, u)) (tmAt tm_shC 256 D cy ad A) A) args s 0 0 A) 4 D cy tm_shC ad 256 [] A z 39 [] [] w (K0 w)) (hL : ∀ (a2 a3 : Int32) (w : tmM), tmG p l e ({ frames := 2, cells := 0, slots := 0, locals := 41 } : Room) s m args below meth c 0 0 (MQ below (va_Qi (fun r u => z = (r, u)) (tmAt tm_shC 256 D cy ad A) A) args s 0 0 A) 4 D cy tm_shC ad 256 [] A z 18 [(0, .ref (ad 0)), (2, .int a2), (3, .int a3)] [] w (L a2 a3 w)) (x2 x3 : Int32) (v : tmM) : tmG p l e ({ frames := 2, cells := 0, slots := 0, locals := 41 } : Room) s m args below meth c 0 0 (MQ below (va_Qi (fun r u => z = (r, u)) (tmAt tm_shC 256 D cy ad A) A) args s 0 0 A) 4 D cy tm_shC ad 256 [] A z 18 [(0, .ref (ad 0)), (2, .int x2), (3, .int x3)] [] v (f_X4_reasonAgainstRemoving_18b K0 L x2 x3 v) := by
  unfold f_X4_reasonAgainstRemoving_18b
  refine tg_iload_n 2 C0 dX4_reasonAgainstRemoving_18 rfl rfl ?_
  refine tg_iload_n 1 C0 dX4_reasonAgainstRemoving_19 rfl rfl ?_
  refine tg_icmp_gt 39 C0 dX4_reasonAgainstRemoving_20 (by decide) (fun _ => ?_) (fun _ => ?_)
  · refine tg_sub [] rfl ?_
    exact hK0 v
  · refine tg_aload_n 0 C0 dX4_reasonAgainstRemoving_23 rfl rfl ?_
    refine tg_iload_n 2 C0 dX4_reasonAgainstRemoving_24 rfl rfl ?_
    refine tg_callVi (As := [.int x3]) 0 1 C0 dX4_reasonAgainstRemoving_25 (c_X4_leadsRow l x3 v) rfl rfl (by decide) rfl rfl (tm_gV tl_X4_122 ti_X4_leadsRow ts_X4_leadsRow tn_X4 tc_X4_leadsRow)  rfl rfl rfl rfl (by decide +kernel) ⟨by decide, by decide⟩ (Nat.le_of_ble_eq_true rfl) ⟨by decide, by decide⟩ (fun r6 v5 _ => ?_)
    refine tg_if_eq 33 C0 dX4_reasonAgainstRemoving_28 (by decide) (fun _ => ?_) (fun _ => ?_)
    · refine tg_iinc [(3, .int (x3 + 1)), (0, .ref (ad 0)), (2, .int x2)] 2 C0 dX4_reasonAgainstRemoving_33 rfl rfl (by decide) rfl ?_
      refine tg_goto 18 C0 dX4_reasonAgainstRemoving_36 (by decide) ?_
      refine tg_sub [1, 2, 0] rfl ?_
      exact hL x2 (x3 + 1) v5
    · refine tg_iconst (x := 0) C0 dX4_reasonAgainstRemoving_31 (by decide) ?_
      exact tg_iret C0 dX4_reasonAgainstRemoving_32
def f_X4_reasonAgainstRemoving_18 (K0 : tmM → Option (Int32 × tmM)) : Nat → Int32 → Int32 → tmM → Option (Int32 × tmM)
  | 0 => fun _ _ _ => none
  | n + 1 => f_X4_reasonAgainstRemoving_18b K0 (f_X4_reasonAgainstRemoving_18 K0 n)
theorem w_X4_reasonAgainstRemoving_18 {p : Program} {l : Launch} {e : Env} {s : State} {m : MethodId} {args : Array Value} {below : List Frame} {meth : Method} {c : Code} {D : va_G} {cy : Nat → ClassId} {ad : Nat → Nat} {A : Nat → Prop} {z : (Int32 × tmM)} {K0 : tmM → Option (Int32 × tmM)} (C0 : tmC p s m args meth c cX4_reasonAgainstRemoving 4 (some .int) RX4 TMW tm_NWC D cy tm_shC ad 256 [] A) (hK0 : ∀ (w : tmM), tmG p l e ({ frames := 2, cells := 0, slots := 0, locals := 41 } : Room) s m args below meth c 0 0 (MQ below (va_Qi (fun r u => z = (r, u)) (tmAt tm_shC 256 D cy ad A) A) args s 0 0 A) 4 D cy tm_shC ad 256 [] A z 39 [] [] w (K0 w)) (nn : Nat) : ∀ (x2 x3 : Int32) (v : tmM), tmG p l e ({ frames := 2, cells := 0, slots := 0, locals := 41 } : Room) s m args below meth c 0 0 (MQ below (va_Qi (fun r u => z = (r, u)) (tmAt tm_shC 256 D cy ad A) A) args s 0 0 A) 4 D cy tm_shC ad 256 [] A z 18 [(0, .ref (ad 0)), (2, .int x2), (3, .int x3)] [] v (f_X4_reasonAgainstRemoving_18 K0 nn x2 x3 v) := by
  induction nn with
  | zero => intro _ _ _; exact tg_none
  | succ n ih => intro x2 x3 v; exact w_X4_reasonAgainstRemoving_18b C0 hK0 ih x2 x3 v
def f_X4_reasonAgainstRemoving (x1 x2 : Int32) (v : tmM) : Option (Int32 × tmM) := tm_cl (f_X4_leader v) fun r2 v1 => tm_cl (f_X7_has (v 0 1) r2 v1) fun r4 v3 => (if r4 = 0 then some (1, v3) else f_X4_reasonAgainstRemoving_18 (fun v7 => some (8, v7)) 10000 x2 x1 v3)
set_option maxRecDepth 100000 in
set_option maxHeartbeats 4000000 in
theorem w_X4_reasonAgainstRemoving {p : Program} {l : Launch} {e : Env} {s : State} {m : MethodId} {args : Array Value} {below : List Frame} {meth : Method} {c : Code} {D : va_G} {cy : Nat → ClassId} {ad : Nat → Nat} {A : Nat → Prop} {z : (Int32 × tmM)} (C0 : tmC p s m args meth c cX4_reasonAgainstRemoving 4 (some .int) RX4 TMW tm_NWC D cy tm_shC ad 256 [] A) (x1 x2 : Int32) (v : tmM) : tmG p l e ({ frames := 2, cells := 0, slots := 0, locals := 41 } : Room) s m args below meth c 0 0 (MQ below (va_Qi (fun r u => z = (r, u)) (tmAt tm_shC 256 D cy ad A) A) args s 0 0 A) 4 D cy tm_shC ad 256 [] A z 0 [(0, .ref (ad 0)), (1, .int x1), (2, .int x2)] [] v (f_X4_reasonAgainstRemoving x1 x2 v) := by
  unfold f_X4_reasonAgainstRemoving
  refine tg_aload_n 0 C0 dX4_reasonAgainstRemoving_0 rfl rfl ?_
  refine tg_get 0 1 C0 dX4_reasonAgainstRemoving_1 (by decide) rfl rfl tu_X4 (by decide) tf_X4_15 rfl rfl rfl ?_
  refine tg_aload_n 0 C0 dX4_reasonAgainstRemoving_4 rfl rfl ?_
  refine tg_callVi (As := []) 0 0 C0 dX4_reasonAgainstRemoving_5 (c_X4_leader l v) rfl rfl (by decide) rfl rfl (tm_gV tl_X4_86 ti_X4_leader ts_X4_leader tn_X4 tc_X4_leader)  rfl rfl rfl rfl (by decide +kernel) ⟨by decide, by decide⟩ (Nat.le_of_ble_eq_true rfl) ⟨by decide, by decide⟩ (fun r2 v1 _ => ?_)
  refine tg_callSNi (As := [.int (v 0 1), .int r2]) 2 C0 dX4_reasonAgainstRemoving_8 (c_X7_has l (v 0 1) r2 v1) rfl rfl (tm_gc tc_X7_has) tm_nwC_X4_78 tn_X7 tst_X7_has rfl rfl rfl rfl (by decide +kernel) ⟨by decide, by decide⟩ (Nat.le_of_ble_eq_true rfl) ⟨by decide, by decide⟩ (fun r4 v3 _ => ?_)
  refine tg_if_ne 16 C0 dX4_reasonAgainstRemoving_11 (by decide) (fun _ => ?_) (fun _ => ?_)
  · refine tg_iload_n 1 C0 dX4_reasonAgainstRemoving_16 rfl rfl ?_
    refine tg_istore_n [(3, .int x1), (0, .ref (ad 0)), (1, .int x1), (2, .int x2)] C0 dX4_reasonAgainstRemoving_17 rfl (by decide) rfl ?_
    refine tg_sub [1, 3, 0] rfl ?_
    refine w_X4_reasonAgainstRemoving_18 C0 (fun v7 => ?_) 10000 x2 x1 v3
    refine tg_bipush (x := 8) C0 dX4_reasonAgainstRemoving_39 (by decide) ?_
    exact tg_iret C0 dX4_reasonAgainstRemoving_41
  · refine tg_iconst (x := 1) C0 dX4_reasonAgainstRemoving_14 (by decide) ?_
    exact tg_iret C0 dX4_reasonAgainstRemoving_15
theorem c_X4_reasonAgainstRemoving (l : Launch) (x1 x2 : Int32) (v : tmM) : tmMi tm_NWC tm_shC 256 l yX4_reasonAgainstRemoving (Cond.code yX4_reasonAgainstRemoving cX4_reasonAgainstRemoving 4 (some .int) :: TMW) ({ frames := 2, cells := 0, slots := 0, locals := 41 } : Room) (fun ad => [.ref (ad 0), .int x1, .int x2]) v (f_X4_reasonAgainstRemoving x1 x2 v) :=
  tmMi.of (cc := cX4_reasonAgainstRemoving) (nL := 4) (by decide +kernel) rfl tm_NWC_ok (fun _ => Nat.le_of_ble_eq_true rfl) (fun p e s m args below meth c A D cy ad z C0 => w_X4_reasonAgainstRemoving C0 x1 x2 v)
-- ----- X4_reasonAgainstBegin
theorem dX4_reasonAgainstBegin_0 : decode cX4_reasonAgainstBegin 0 = .ok (.aload_n 0, 1) := by decide +kernel
theorem dX4_reasonAgainstBegin_1 : decode cX4_reasonAgainstBegin 1 = .ok (.getfield 9, 3) := by decide +kernel
theorem dX4_reasonAgainstBegin_4 : decode cX4_reasonAgainstBegin 4 = .ok (.ifCond .eq 5, 3) := by decide +kernel
theorem dX4_reasonAgainstBegin_7 : decode cX4_reasonAgainstBegin 7 = .ok (.iconst 2, 1) := by decide +kernel
theorem dX4_reasonAgainstBegin_8 : decode cX4_reasonAgainstBegin 8 = .ok (.ireturn, 1) := by decide +kernel
theorem dX4_reasonAgainstBegin_9 : decode cX4_reasonAgainstBegin 9 = .ok (.aload_n 0, 1) := by decide +kernel
theorem dX4_reasonAgainstBegin_10 : decode cX4_reasonAgainstBegin 10 = .ok (.getfield 15, 3) := by decide +kernel
theorem dX4_reasonAgainstBegin_13 : decode cX4_reasonAgainstBegin 13 = .ok (.iconst 3, 1) := by decide +kernel
theorem dX4_reasonAgainstBegin_14 : decode cX4_reasonAgainstBegin 14 = .ok (.if_icmp .ne 7, 3) := by decide +kernel
theorem dX4_reasonAgainstBegin_17 : decode cX4_reasonAgainstBegin 17 = .ok (.iconst 0, 1) := by decide +kernel
theorem dX4_reasonAgainstBegin_18 : decode cX4_reasonAgainstBegin 18 = .ok (.goto 4, 3) := by decide +kernel
theorem dX4_reasonAgainstBegin_21 : decode cX4_reasonAgainstBegin 21 = .ok (.iconst 1, 1) := by decide +kernel
theorem dX4_reasonAgainstBegin_22 : decode cX4_reasonAgainstBegin 22 = .ok (.ireturn, 1) := by decide +kernel
def f_X4_reasonAgainstBegin (v : tmM) : Option (Int32 × tmM) := (if (v 0 0) = 0 then (if (v 0 1) = 3 then some (0, v) else some (1, v)) else some (2, v))
set_option maxRecDepth 100000 in
set_option maxHeartbeats 4000000 in
theorem w_X4_reasonAgainstBegin {p : Program} {l : Launch} {e : Env} {s : State} {m : MethodId} {args : Array Value} {below : List Frame} {meth : Method} {c : Code} {D : va_G} {cy : Nat → ClassId} {ad : Nat → Nat} {A : Nat → Prop} {z : (Int32 × tmM)} (C0 : tmC p s m args meth c cX4_reasonAgainstBegin 1 (some .int) RX4 TMW tm_NWC D cy tm_shC ad 256 [] A) (v : tmM) : tmG p l e ({ frames := 0, cells := 0, slots := 0, locals := 0 } : Room) s m args below meth c 0 0 (MQ below (va_Qi (fun r u => z = (r, u)) (tmAt tm_shC 256 D cy ad A) A) args s 0 0 A) 1 D cy tm_shC ad 256 [] A z 0 [(0, .ref (ad 0))] [] v (f_X4_reasonAgainstBegin v) := by
  unfold f_X4_reasonAgainstBegin
  refine tg_aload_n 0 C0 dX4_reasonAgainstBegin_0 rfl rfl ?_
  refine tg_get 0 0 C0 dX4_reasonAgainstBegin_1 (by decide) rfl rfl tu_X4 (by decide) tf_X4_9 rfl rfl rfl ?_
  refine tg_if_eq 9 C0 dX4_reasonAgainstBegin_4 (by decide) (fun _ => ?_) (fun _ => ?_)
  · refine tg_aload_n 0 C0 dX4_reasonAgainstBegin_9 rfl rfl ?_
    refine tg_get 0 1 C0 dX4_reasonAgainstBegin_10 (by decide) rfl rfl tu_X4 (by decide) tf_X4_15 rfl rfl rfl ?_
    refine tg_iconst (x := 3) C0 dX4_reasonAgainstBegin_13 (by decide) ?_
    refine tg_icmp_ne 21 C0 dX4_reasonAgainstBegin_14 (by decide) (fun _ => ?_) (fun _ => ?_)
    · refine tg_iconst (x := 1) C0 dX4_reasonAgainstBegin_21 (by decide) ?_
      exact tg_iret C0 dX4_reasonAgainstBegin_22
    · refine tg_iconst (x := 0) C0 dX4_reasonAgainstBegin_17 (by decide) ?_
      refine tg_goto 22 C0 dX4_reasonAgainstBegin_18 (by decide) ?_
      exact tg_iret C0 dX4_reasonAgainstBegin_22
  · refine tg_iconst (x := 2) C0 dX4_reasonAgainstBegin_7 (by decide) ?_
    exact tg_iret C0 dX4_reasonAgainstBegin_8
theorem c_X4_reasonAgainstBegin (l : Launch) (v : tmM) : tmMi tm_NWC tm_shC 256 l yX4_reasonAgainstBegin (Cond.code yX4_reasonAgainstBegin cX4_reasonAgainstBegin 1 (some .int) :: TMW) ({ frames := 0, cells := 0, slots := 0, locals := 0 } : Room) (fun ad => [.ref (ad 0)]) v (f_X4_reasonAgainstBegin v) :=
  tmMi.of (cc := cX4_reasonAgainstBegin) (nL := 1) (by decide +kernel) rfl tm_NWC_ok (fun _ => Nat.le_of_ble_eq_true rfl) (fun p e s m args below meth c A D cy ad z C0 => w_X4_reasonAgainstBegin C0 v)
-- ----- X4_reasonAgainstCopy
theorem dX4_reasonAgainstCopy_0 : decode cX4_reasonAgainstCopy 0 = .ok (.aload_n 0, 1) := by decide +kernel
theorem dX4_reasonAgainstCopy_1 : decode cX4_reasonAgainstCopy 1 = .ok (.getfield 9, 3) := by decide +kernel
theorem dX4_reasonAgainstCopy_4 : decode cX4_reasonAgainstCopy 4 = .ok (.iconst 1, 1) := by decide +kernel
theorem dX4_reasonAgainstCopy_5 : decode cX4_reasonAgainstCopy 5 = .ok (.if_icmp .eq 5, 3) := by decide +kernel
theorem dX4_reasonAgainstCopy_8 : decode cX4_reasonAgainstCopy 8 = .ok (.iconst 2, 1) := by decide +kernel
theorem dX4_reasonAgainstCopy_9 : decode cX4_reasonAgainstCopy 9 = .ok (.ireturn, 1) := by decide +kernel
theorem dX4_reasonAgainstCopy_10 : decode cX4_reasonAgainstCopy 10 = .ok (.aload_n 0, 1) := by decide +kernel
theorem dX4_reasonAgainstCopy_11 : decode cX4_reasonAgainstCopy 11 = .ok (.getfield 15, 3) := by decide +kernel
theorem dX4_reasonAgainstCopy_14 : decode cX4_reasonAgainstCopy 14 = .ok (.iconst 3, 1) := by decide +kernel
theorem dX4_reasonAgainstCopy_15 : decode cX4_reasonAgainstCopy 15 = .ok (.if_icmp .eq 5, 3) := by decide +kernel
theorem dX4_reasonAgainstCopy_18 : decode cX4_reasonAgainstCopy 18 = .ok (.iconst 1, 1) := by decide +kernel
theorem dX4_reasonAgainstCopy_19 : decode cX4_reasonAgainstCopy 19 = .ok (.ireturn, 1) := by decide +kernel
theorem dX4_reasonAgainstCopy_20 : decode cX4_reasonAgainstCopy 20 = .ok (.aload_n 0, 1) := by decide +kernel
theorem dX4_reasonAgainstCopy_21 : decode cX4_reasonAgainstCopy 21 = .ok (.getfield 50, 3) := by decide +kernel
theorem dX4_reasonAgainstCopy_24 : decode cX4_reasonAgainstCopy 24 = .ok (.sipush 32767, 3) := by decide +kernel
theorem dX4_reasonAgainstCopy_27 : decode cX4_reasonAgainstCopy 27 = .ok (.if_icmp .ne 8, 3) := by decide +kernel
theorem dX4_reasonAgainstCopy_30 : decode cX4_reasonAgainstCopy 30 = .ok (.bipush 9, 2) := by decide +kernel
theorem dX4_reasonAgainstCopy_32 : decode cX4_reasonAgainstCopy 32 = .ok (.goto 4, 3) := by decide +kernel
theorem dX4_reasonAgainstCopy_35 : decode cX4_reasonAgainstCopy 35 = .ok (.iconst 0, 1) := by decide +kernel
theorem dX4_reasonAgainstCopy_36 : decode cX4_reasonAgainstCopy 36 = .ok (.ireturn, 1) := by decide +kernel
theorem tf_X4_50 : Cond.fieldLink RX4 50 "TableMove$State" (TX4 2).2.1 (TX4 2).2.2.1 ∈ TMW := tm_in 233 (by decide +kernel) (by decide +kernel)
def f_X4_reasonAgainstCopy (v : tmM) : Option (Int32 × tmM) := (if (v 0 0) = 1 then (if (v 0 1) = 3 then (if (v 0 2) = 32767 then some (9, v) else some (0, v)) else some (1, v)) else some (2, v))
set_option maxRecDepth 100000 in
set_option maxHeartbeats 4000000 in
theorem w_X4_reasonAgainstCopy {p : Program} {l : Launch} {e : Env} {s : State} {m : MethodId} {args : Array Value} {below : List Frame} {meth : Method} {c : Code} {D : va_G} {cy : Nat → ClassId} {ad : Nat → Nat} {A : Nat → Prop} {z : (Int32 × tmM)} (C0 : tmC p s m args meth c cX4_reasonAgainstCopy 1 (some .int) RX4 TMW tm_NWC D cy tm_shC ad 256 [] A) (v : tmM) : tmG p l e ({ frames := 0, cells := 0, slots := 0, locals := 0 } : Room) s m args below meth c 0 0 (MQ below (va_Qi (fun r u => z = (r, u)) (tmAt tm_shC 256 D cy ad A) A) args s 0 0 A) 1 D cy tm_shC ad 256 [] A z 0 [(0, .ref (ad 0))] [] v (f_X4_reasonAgainstCopy v) := by
  unfold f_X4_reasonAgainstCopy
  refine tg_aload_n 0 C0 dX4_reasonAgainstCopy_0 rfl rfl ?_
  refine tg_get 0 0 C0 dX4_reasonAgainstCopy_1 (by decide) rfl rfl tu_X4 (by decide) tf_X4_9 rfl rfl rfl ?_
  refine tg_iconst (x := 1) C0 dX4_reasonAgainstCopy_4 (by decide) ?_
  refine tg_icmp_eq 10 C0 dX4_reasonAgainstCopy_5 (by decide) (fun _ => ?_) (fun _ => ?_)
  · refine tg_aload_n 0 C0 dX4_reasonAgainstCopy_10 rfl rfl ?_
    refine tg_get 0 1 C0 dX4_reasonAgainstCopy_11 (by decide) rfl rfl tu_X4 (by decide) tf_X4_15 rfl rfl rfl ?_
    refine tg_iconst (x := 3) C0 dX4_reasonAgainstCopy_14 (by decide) ?_
    refine tg_icmp_eq 20 C0 dX4_reasonAgainstCopy_15 (by decide) (fun _ => ?_) (fun _ => ?_)
    · refine tg_aload_n 0 C0 dX4_reasonAgainstCopy_20 rfl rfl ?_
      refine tg_get 0 2 C0 dX4_reasonAgainstCopy_21 (by decide) rfl rfl tu_X4 (by decide) tf_X4_50 rfl rfl rfl ?_
      refine tg_sipush (x := 32767) C0 dX4_reasonAgainstCopy_24 (by decide) ?_
      refine tg_icmp_ne 35 C0 dX4_reasonAgainstCopy_27 (by decide) (fun _ => ?_) (fun _ => ?_)
      · refine tg_iconst (x := 0) C0 dX4_reasonAgainstCopy_35 (by decide) ?_
        exact tg_iret C0 dX4_reasonAgainstCopy_36
      · refine tg_bipush (x := 9) C0 dX4_reasonAgainstCopy_30 (by decide) ?_
        refine tg_goto 36 C0 dX4_reasonAgainstCopy_32 (by decide) ?_
        exact tg_iret C0 dX4_reasonAgainstCopy_36
    · refine tg_iconst (x := 1) C0 dX4_reasonAgainstCopy_18 (by decide) ?_
      exact tg_iret C0 dX4_reasonAgainstCopy_19
  · refine tg_iconst (x := 2) C0 dX4_reasonAgainstCopy_8 (by decide) ?_
    exact tg_iret C0 dX4_reasonAgainstCopy_9
theorem c_X4_reasonAgainstCopy (l : Launch) (v : tmM) : tmMi tm_NWC tm_shC 256 l yX4_reasonAgainstCopy (Cond.code yX4_reasonAgainstCopy cX4_reasonAgainstCopy 1 (some .int) :: TMW) ({ frames := 0, cells := 0, slots := 0, locals := 0 } : Room) (fun ad => [.ref (ad 0)]) v (f_X4_reasonAgainstCopy v) :=
  tmMi.of (cc := cX4_reasonAgainstCopy) (nL := 1) (by decide +kernel) rfl tm_NWC_ok (fun _ => Nat.le_of_ble_eq_true rfl) (fun p e s m args below meth c A D cy ad z C0 => w_X4_reasonAgainstCopy C0 v)
-- ----- X4_reasonAgainstRepair
theorem dX4_reasonAgainstRepair_0 : decode cX4_reasonAgainstRepair 0 = .ok (.aload_n 0, 1) := by decide +kernel
theorem dX4_reasonAgainstRepair_1 : decode cX4_reasonAgainstRepair 1 = .ok (.invokevirtual 126, 3) := by decide +kernel
theorem dX4_reasonAgainstRepair_4 : decode cX4_reasonAgainstRepair 4 = .ok (.ifCond .ne 5, 3) := by decide +kernel
theorem dX4_reasonAgainstRepair_7 : decode cX4_reasonAgainstRepair 7 = .ok (.iconst 2, 1) := by decide +kernel
theorem dX4_reasonAgainstRepair_8 : decode cX4_reasonAgainstRepair 8 = .ok (.ireturn, 1) := by decide +kernel
theorem dX4_reasonAgainstRepair_9 : decode cX4_reasonAgainstRepair 9 = .ok (.aload_n 0, 1) := by decide +kernel
theorem dX4_reasonAgainstRepair_10 : decode cX4_reasonAgainstRepair 10 = .ok (.getfield 15, 3) := by decide +kernel
theorem dX4_reasonAgainstRepair_13 : decode cX4_reasonAgainstRepair 13 = .ok (.iconst 3, 1) := by decide +kernel
theorem dX4_reasonAgainstRepair_14 : decode cX4_reasonAgainstRepair 14 = .ok (.if_icmp .eq 5, 3) := by decide +kernel
theorem dX4_reasonAgainstRepair_17 : decode cX4_reasonAgainstRepair 17 = .ok (.iconst 1, 1) := by decide +kernel
theorem dX4_reasonAgainstRepair_18 : decode cX4_reasonAgainstRepair 18 = .ok (.ireturn, 1) := by decide +kernel
theorem dX4_reasonAgainstRepair_19 : decode cX4_reasonAgainstRepair 19 = .ok (.aload_n 0, 1) := by decide +kernel
theorem dX4_reasonAgainstRepair_20 : decode cX4_reasonAgainstRepair 20 = .ok (.getfield 28, 3) := by decide +kernel
theorem dX4_reasonAgainstRepair_23 : decode cX4_reasonAgainstRepair 23 = .ok (.getfield 130, 3) := by decide +kernel
theorem dX4_reasonAgainstRepair_26 : decode cX4_reasonAgainstRepair 26 = .ok (.ifCond .ne 8, 3) := by decide +kernel
theorem dX4_reasonAgainstRepair_29 : decode cX4_reasonAgainstRepair 29 = .ok (.bipush 9, 2) := by decide +kernel
theorem dX4_reasonAgainstRepair_31 : decode cX4_reasonAgainstRepair 31 = .ok (.goto 4, 3) := by decide +kernel
theorem dX4_reasonAgainstRepair_34 : decode cX4_reasonAgainstRepair 34 = .ok (.iconst 0, 1) := by decide +kernel
theorem dX4_reasonAgainstRepair_35 : decode cX4_reasonAgainstRepair 35 = .ok (.ireturn, 1) := by decide +kernel
theorem tl_X4_126 : Cond.methodLink RX4 126 yX4_isDouble ∈ TMW := tm_in 551 (by decide +kernel) (by decide +kernel)
theorem ti_X4_isDouble : Cond.instanceMethod yX4_isDouble ∈ TMW := tm_in 552 (by decide +kernel) (by decide +kernel)
theorem ts_X4_isDouble : Cond.selects RX4 yX4_isDouble yX4_isDouble ∈ TMW := tm_in 553 (by decide +kernel) (by decide +kernel)
theorem tc_X4_isDouble : Cond.code yX4_isDouble cX4_isDouble 1 (some .boolean) ∈ TMW := tm_in 554 (by decide +kernel) (by decide +kernel)
theorem tf_X4_28 : Cond.fieldLink RX4 28 "TableMove$State" (TX4 6).2.1 (TX4 6).2.2.1 ∈ TMW := tm_in 241 (by decide +kernel) (by decide +kernel)
def f_X4_reasonAgainstRepair (v : tmM) : Option (Int32 × tmM) := tm_cl (f_X4_isDouble v) fun r2 v1 => (if r2 = 0 then some (2, v1) else (if (v1 0 1) = 3 then (if (v1 8 1) = 0 then some (9, v1) else some (0, v1)) else some (1, v1)))
set_option maxRecDepth 100000 in
set_option maxHeartbeats 4000000 in
theorem w_X4_reasonAgainstRepair {p : Program} {l : Launch} {e : Env} {s : State} {m : MethodId} {args : Array Value} {below : List Frame} {meth : Method} {c : Code} {D : va_G} {cy : Nat → ClassId} {ad : Nat → Nat} {A : Nat → Prop} {z : (Int32 × tmM)} (C0 : tmC p s m args meth c cX4_reasonAgainstRepair 1 (some .int) RX4 TMW tm_NWC D cy tm_shC ad 256 [] A) (v : tmM) : tmG p l e ({ frames := 1, cells := 0, slots := 0, locals := 20 } : Room) s m args below meth c 0 0 (MQ below (va_Qi (fun r u => z = (r, u)) (tmAt tm_shC 256 D cy ad A) A) args s 0 0 A) 1 D cy tm_shC ad 256 [] A z 0 [(0, .ref (ad 0))] [] v (f_X4_reasonAgainstRepair v) := by
  unfold f_X4_reasonAgainstRepair
  refine tg_aload_n 0 C0 dX4_reasonAgainstRepair_0 rfl rfl ?_
  refine tg_callVi (As := []) 0 0 C0 dX4_reasonAgainstRepair_1 (c_X4_isDouble l v) rfl rfl (by decide) rfl rfl (tm_gV tl_X4_126 ti_X4_isDouble ts_X4_isDouble tn_X4 tc_X4_isDouble)  rfl rfl rfl rfl (by decide +kernel) ⟨by decide, by decide⟩ (Nat.le_of_ble_eq_true rfl) ⟨by decide, by decide⟩ (fun r2 v1 _ => ?_)
  refine tg_if_ne 9 C0 dX4_reasonAgainstRepair_4 (by decide) (fun _ => ?_) (fun _ => ?_)
  · refine tg_aload_n 0 C0 dX4_reasonAgainstRepair_9 rfl rfl ?_
    refine tg_get 0 1 C0 dX4_reasonAgainstRepair_10 (by decide) rfl rfl tu_X4 (by decide) tf_X4_15 rfl rfl rfl ?_
    refine tg_iconst (x := 3) C0 dX4_reasonAgainstRepair_13 (by decide) ?_
    refine tg_icmp_eq 19 C0 dX4_reasonAgainstRepair_14 (by decide) (fun _ => ?_) (fun _ => ?_)
    · refine tg_aload_n 0 C0 dX4_reasonAgainstRepair_19 rfl rfl ?_
      refine tg_get 0 6 C0 dX4_reasonAgainstRepair_20 (by decide) rfl rfl tu_X4 (by decide) tf_X4_28 rfl rfl rfl ?_
      refine tg_getN 8 1 C0 dX4_reasonAgainstRepair_23 (by decide) rfl rfl tu_X2 (by decide) tm_nwC_X4_130 rfl rfl rfl ?_
      refine tg_if_ne 34 C0 dX4_reasonAgainstRepair_26 (by decide) (fun _ => ?_) (fun _ => ?_)
      · refine tg_iconst (x := 0) C0 dX4_reasonAgainstRepair_34 (by decide) ?_
        exact tg_iret C0 dX4_reasonAgainstRepair_35
      · refine tg_bipush (x := 9) C0 dX4_reasonAgainstRepair_29 (by decide) ?_
        refine tg_goto 35 C0 dX4_reasonAgainstRepair_31 (by decide) ?_
        exact tg_iret C0 dX4_reasonAgainstRepair_35
    · refine tg_iconst (x := 1) C0 dX4_reasonAgainstRepair_17 (by decide) ?_
      exact tg_iret C0 dX4_reasonAgainstRepair_18
  · refine tg_iconst (x := 2) C0 dX4_reasonAgainstRepair_7 (by decide) ?_
    exact tg_iret C0 dX4_reasonAgainstRepair_8
theorem c_X4_reasonAgainstRepair (l : Launch) (v : tmM) : tmMi tm_NWC tm_shC 256 l yX4_reasonAgainstRepair (Cond.code yX4_reasonAgainstRepair cX4_reasonAgainstRepair 1 (some .int) :: TMW) ({ frames := 1, cells := 0, slots := 0, locals := 20 } : Room) (fun ad => [.ref (ad 0)]) v (f_X4_reasonAgainstRepair v) :=
  tmMi.of (cc := cX4_reasonAgainstRepair) (nL := 1) (by decide +kernel) rfl tm_NWC_ok (fun _ => Nat.le_of_ble_eq_true rfl) (fun p e s m args below meth c A D cy ad z C0 => w_X4_reasonAgainstRepair C0 v)
-- ----- X4_reasonAgainstCheck
theorem dX4_reasonAgainstCheck_0 : decode cX4_reasonAgainstCheck 0 = .ok (.aload_n 0, 1) := by decide +kernel
theorem dX4_reasonAgainstCheck_1 : decode cX4_reasonAgainstCheck 1 = .ok (.invokevirtual 126, 3) := by decide +kernel
theorem dX4_reasonAgainstCheck_4 : decode cX4_reasonAgainstCheck 4 = .ok (.ifCond .ne 5, 3) := by decide +kernel
theorem dX4_reasonAgainstCheck_7 : decode cX4_reasonAgainstCheck 7 = .ok (.iconst 2, 1) := by decide +kernel
theorem dX4_reasonAgainstCheck_8 : decode cX4_reasonAgainstCheck 8 = .ok (.ireturn, 1) := by decide +kernel
theorem dX4_reasonAgainstCheck_9 : decode cX4_reasonAgainstCheck 9 = .ok (.aload_n 0, 1) := by decide +kernel
theorem dX4_reasonAgainstCheck_10 : decode cX4_reasonAgainstCheck 10 = .ok (.getfield 15, 3) := by decide +kernel
theorem dX4_reasonAgainstCheck_13 : decode cX4_reasonAgainstCheck 13 = .ok (.iconst 3, 1) := by decide +kernel
theorem dX4_reasonAgainstCheck_14 : decode cX4_reasonAgainstCheck 14 = .ok (.if_icmp .eq 5, 3) := by decide +kernel
theorem dX4_reasonAgainstCheck_17 : decode cX4_reasonAgainstCheck 17 = .ok (.iconst 1, 1) := by decide +kernel
theorem dX4_reasonAgainstCheck_18 : decode cX4_reasonAgainstCheck 18 = .ok (.ireturn, 1) := by decide +kernel
theorem dX4_reasonAgainstCheck_19 : decode cX4_reasonAgainstCheck 19 = .ok (.aload_n 0, 1) := by decide +kernel
theorem dX4_reasonAgainstCheck_20 : decode cX4_reasonAgainstCheck 20 = .ok (.getfield 50, 3) := by decide +kernel
theorem dX4_reasonAgainstCheck_23 : decode cX4_reasonAgainstCheck 23 = .ok (.iload_n 1, 1) := by decide +kernel
theorem dX4_reasonAgainstCheck_24 : decode cX4_reasonAgainstCheck 24 = .ok (.invokestatic 78, 3) := by decide +kernel
theorem dX4_reasonAgainstCheck_27 : decode cX4_reasonAgainstCheck 27 = .ok (.ifCond .ne 5, 3) := by decide +kernel
theorem dX4_reasonAgainstCheck_30 : decode cX4_reasonAgainstCheck 30 = .ok (.iconst 3, 1) := by decide +kernel
theorem dX4_reasonAgainstCheck_31 : decode cX4_reasonAgainstCheck 31 = .ok (.ireturn, 1) := by decide +kernel
theorem dX4_reasonAgainstCheck_32 : decode cX4_reasonAgainstCheck 32 = .ok (.aload_n 0, 1) := by decide +kernel
theorem dX4_reasonAgainstCheck_33 : decode cX4_reasonAgainstCheck 33 = .ok (.getfield 28, 3) := by decide +kernel
theorem dX4_reasonAgainstCheck_36 : decode cX4_reasonAgainstCheck 36 = .ok (.iload_n 1, 1) := by decide +kernel
theorem dX4_reasonAgainstCheck_37 : decode cX4_reasonAgainstCheck 37 = .ok (.invokevirtual 133, 3) := by decide +kernel
theorem dX4_reasonAgainstCheck_40 : decode cX4_reasonAgainstCheck 40 = .ok (.ifCond .le 7, 3) := by decide +kernel
theorem dX4_reasonAgainstCheck_43 : decode cX4_reasonAgainstCheck 43 = .ok (.iconst 4, 1) := by decide +kernel
theorem dX4_reasonAgainstCheck_44 : decode cX4_reasonAgainstCheck 44 = .ok (.goto 4, 3) := by decide +kernel
theorem dX4_reasonAgainstCheck_47 : decode cX4_reasonAgainstCheck 47 = .ok (.iconst 0, 1) := by decide +kernel
theorem dX4_reasonAgainstCheck_48 : decode cX4_reasonAgainstCheck 48 = .ok (.ireturn, 1) := by decide +kernel
theorem tl_X4_133 : Cond.methodLink RX4 133 yX2_heldOf ∈ TMW := tm_in 616 (by decide +kernel) (by decide +kernel)
theorem ti_X2_heldOf : Cond.instanceMethod yX2_heldOf ∈ TMW := tm_in 617 (by decide +kernel) (by decide +kernel)
theorem ts_X2_heldOf : Cond.selects RX2 yX2_heldOf yX2_heldOf ∈ TMW := tm_in 618 (by decide +kernel) (by decide +kernel)
theorem tc_X2_heldOf : Cond.code yX2_heldOf cX2_heldOf 4 (some .int) ∈ TMW := tm_in 619 (by decide +kernel) (by decide +kernel)
def f_X4_reasonAgainstCheck (x1 : Int32) (v : tmM) : Option (Int32 × tmM) := tm_cl (f_X4_isDouble v) fun r2 v1 => (if r2 = 0 then some (2, v1) else (if (v1 0 1) = 3 then tm_cl (f_X7_has (v1 0 2) x1 v1) fun r4 v3 => (if r4 = 0 then some (3, v3) else tm_cl (f_X2_heldOf x1 v3) fun r6 v5 => (if r6 ≤ 0 then some (0, v5) else some (4, v5))) else some (1, v1)))
set_option maxRecDepth 100000 in
set_option maxHeartbeats 4000000 in
theorem w_X4_reasonAgainstCheck {p : Program} {l : Launch} {e : Env} {s : State} {m : MethodId} {args : Array Value} {below : List Frame} {meth : Method} {c : Code} {D : va_G} {cy : Nat → ClassId} {ad : Nat → Nat} {A : Nat → Prop} {z : (Int32 × tmM)} (C0 : tmC p s m args meth c cX4_reasonAgainstCheck 2 (some .int) RX4 TMW tm_NWC D cy tm_shC ad 256 [] A) (x1 : Int32) (v : tmM) : tmG p l e ({ frames := 1, cells := 0, slots := 0, locals := 23 } : Room) s m args below meth c 0 0 (MQ below (va_Qi (fun r u => z = (r, u)) (tmAt tm_shC 256 D cy ad A) A) args s 0 0 A) 2 D cy tm_shC ad 256 [] A z 0 [(0, .ref (ad 0)), (1, .int x1)] [] v (f_X4_reasonAgainstCheck x1 v) := by
  unfold f_X4_reasonAgainstCheck
  refine tg_aload_n 0 C0 dX4_reasonAgainstCheck_0 rfl rfl ?_
  refine tg_callVi (As := []) 0 0 C0 dX4_reasonAgainstCheck_1 (c_X4_isDouble l v) rfl rfl (by decide) rfl rfl (tm_gV tl_X4_126 ti_X4_isDouble ts_X4_isDouble tn_X4 tc_X4_isDouble)  rfl rfl rfl rfl (by decide +kernel) ⟨by decide, by decide⟩ (Nat.le_of_ble_eq_true rfl) ⟨by decide, by decide⟩ (fun r2 v1 _ => ?_)
  refine tg_if_ne 9 C0 dX4_reasonAgainstCheck_4 (by decide) (fun _ => ?_) (fun _ => ?_)
  · refine tg_aload_n 0 C0 dX4_reasonAgainstCheck_9 rfl rfl ?_
    refine tg_get 0 1 C0 dX4_reasonAgainstCheck_10 (by decide) rfl rfl tu_X4 (by decide) tf_X4_15 rfl rfl rfl ?_
    refine tg_iconst (x := 3) C0 dX4_reasonAgainstCheck_13 (by decide) ?_
    refine tg_icmp_eq 19 C0 dX4_reasonAgainstCheck_14 (by decide) (fun _ => ?_) (fun _ => ?_)
    · refine tg_aload_n 0 C0 dX4_reasonAgainstCheck_19 rfl rfl ?_
      refine tg_get 0 2 C0 dX4_reasonAgainstCheck_20 (by decide) rfl rfl tu_X4 (by decide) tf_X4_50 rfl rfl rfl ?_
      refine tg_iload_n 1 C0 dX4_reasonAgainstCheck_23 rfl rfl ?_
      refine tg_callSNi (As := [.int (v1 0 2), .int x1]) 2 C0 dX4_reasonAgainstCheck_24 (c_X7_has l (v1 0 2) x1 v1) rfl rfl (tm_gc tc_X7_has) tm_nwC_X4_78 tn_X7 tst_X7_has rfl rfl rfl rfl (by decide +kernel) ⟨by decide, by decide⟩ (Nat.le_of_ble_eq_true rfl) ⟨by decide, by decide⟩ (fun r4 v3 _ => ?_)
      refine tg_if_ne 32 C0 dX4_reasonAgainstCheck_27 (by decide) (fun _ => ?_) (fun _ => ?_)
      · refine tg_aload_n 0 C0 dX4_reasonAgainstCheck_32 rfl rfl ?_
        refine tg_get 0 6 C0 dX4_reasonAgainstCheck_33 (by decide) rfl rfl tu_X4 (by decide) tf_X4_28 rfl rfl rfl ?_
        refine tg_iload_n 1 C0 dX4_reasonAgainstCheck_36 rfl rfl ?_
        refine tg_callVi (As := [.int x1]) 8 1 C0 dX4_reasonAgainstCheck_37 (c_X2_heldOf l x1 v3) rfl rfl (by decide) rfl rfl (tm_gV tl_X4_133 ti_X2_heldOf ts_X2_heldOf tn_X2 tc_X2_heldOf)  rfl rfl rfl rfl (by decide +kernel) ⟨by decide, by decide⟩ (Nat.le_of_ble_eq_true rfl) ⟨by decide, by decide⟩ (fun r6 v5 _ => ?_)
        refine tg_if_le 47 C0 dX4_reasonAgainstCheck_40 (by decide) (fun _ => ?_) (fun _ => ?_)
        · refine tg_iconst (x := 0) C0 dX4_reasonAgainstCheck_47 (by decide) ?_
          exact tg_iret C0 dX4_reasonAgainstCheck_48
        · refine tg_iconst (x := 4) C0 dX4_reasonAgainstCheck_43 (by decide) ?_
          refine tg_goto 48 C0 dX4_reasonAgainstCheck_44 (by decide) ?_
          exact tg_iret C0 dX4_reasonAgainstCheck_48
      · refine tg_iconst (x := 3) C0 dX4_reasonAgainstCheck_30 (by decide) ?_
        exact tg_iret C0 dX4_reasonAgainstCheck_31
    · refine tg_iconst (x := 1) C0 dX4_reasonAgainstCheck_17 (by decide) ?_
      exact tg_iret C0 dX4_reasonAgainstCheck_18
  · refine tg_iconst (x := 2) C0 dX4_reasonAgainstCheck_7 (by decide) ?_
    exact tg_iret C0 dX4_reasonAgainstCheck_8
theorem c_X4_reasonAgainstCheck (l : Launch) (x1 : Int32) (v : tmM) : tmMi tm_NWC tm_shC 256 l yX4_reasonAgainstCheck (Cond.code yX4_reasonAgainstCheck cX4_reasonAgainstCheck 2 (some .int) :: TMW) ({ frames := 1, cells := 0, slots := 0, locals := 23 } : Room) (fun ad => [.ref (ad 0), .int x1]) v (f_X4_reasonAgainstCheck x1 v) :=
  tmMi.of (cc := cX4_reasonAgainstCheck) (nL := 2) (by decide +kernel) rfl tm_NWC_ok (fun _ => Nat.le_of_ble_eq_true rfl) (fun p e s m args below meth c A D cy ad z C0 => w_X4_reasonAgainstCheck C0 x1 v)
-- ----- X4_reasonAgainstSwitchOver
theorem dX4_reasonAgainstSwitchOver_0 : decode cX4_reasonAgainstSwitchOver 0 = .ok (.aload_n 0, 1) := by decide +kernel
theorem dX4_reasonAgainstSwitchOver_1 : decode cX4_reasonAgainstSwitchOver 1 = .ok (.invokevirtual 126, 3) := by decide +kernel
theorem dX4_reasonAgainstSwitchOver_4 : decode cX4_reasonAgainstSwitchOver 4 = .ok (.ifCond .ne 5, 3) := by decide +kernel
theorem dX4_reasonAgainstSwitchOver_7 : decode cX4_reasonAgainstSwitchOver 7 = .ok (.iconst 2, 1) := by decide +kernel
theorem dX4_reasonAgainstSwitchOver_8 : decode cX4_reasonAgainstSwitchOver 8 = .ok (.ireturn, 1) := by decide +kernel
theorem dX4_reasonAgainstSwitchOver_9 : decode cX4_reasonAgainstSwitchOver 9 = .ok (.aload_n 0, 1) := by decide +kernel
theorem dX4_reasonAgainstSwitchOver_10 : decode cX4_reasonAgainstSwitchOver 10 = .ok (.getfield 56, 3) := by decide +kernel
theorem dX4_reasonAgainstSwitchOver_13 : decode cX4_reasonAgainstSwitchOver 13 = .ok (.iload_n 1, 1) := by decide +kernel
theorem dX4_reasonAgainstSwitchOver_14 : decode cX4_reasonAgainstSwitchOver 14 = .ok (.invokestatic 78, 3) := by decide +kernel
theorem dX4_reasonAgainstSwitchOver_17 : decode cX4_reasonAgainstSwitchOver 17 = .ok (.ifCond .eq 5, 3) := by decide +kernel
theorem dX4_reasonAgainstSwitchOver_20 : decode cX4_reasonAgainstSwitchOver 20 = .ok (.iconst 5, 1) := by decide +kernel
theorem dX4_reasonAgainstSwitchOver_21 : decode cX4_reasonAgainstSwitchOver 21 = .ok (.ireturn, 1) := by decide +kernel
theorem dX4_reasonAgainstSwitchOver_22 : decode cX4_reasonAgainstSwitchOver 22 = .ok (.aload_n 0, 1) := by decide +kernel
theorem dX4_reasonAgainstSwitchOver_23 : decode cX4_reasonAgainstSwitchOver 23 = .ok (.getfield 15, 3) := by decide +kernel
theorem dX4_reasonAgainstSwitchOver_26 : decode cX4_reasonAgainstSwitchOver 26 = .ok (.iconst 1, 1) := by decide +kernel
theorem dX4_reasonAgainstSwitchOver_27 : decode cX4_reasonAgainstSwitchOver 27 = .ok (.invokestatic 78, 3) := by decide +kernel
theorem dX4_reasonAgainstSwitchOver_30 : decode cX4_reasonAgainstSwitchOver 30 = .ok (.ifCond .ne 5, 3) := by decide +kernel
theorem dX4_reasonAgainstSwitchOver_33 : decode cX4_reasonAgainstSwitchOver 33 = .ok (.iconst 1, 1) := by decide +kernel
theorem dX4_reasonAgainstSwitchOver_34 : decode cX4_reasonAgainstSwitchOver 34 = .ok (.ireturn, 1) := by decide +kernel
theorem dX4_reasonAgainstSwitchOver_35 : decode cX4_reasonAgainstSwitchOver 35 = .ok (.aload_n 0, 1) := by decide +kernel
theorem dX4_reasonAgainstSwitchOver_36 : decode cX4_reasonAgainstSwitchOver 36 = .ok (.getfield 50, 3) := by decide +kernel
theorem dX4_reasonAgainstSwitchOver_39 : decode cX4_reasonAgainstSwitchOver 39 = .ok (.sipush 32767, 3) := by decide +kernel
theorem dX4_reasonAgainstSwitchOver_42 : decode cX4_reasonAgainstSwitchOver 42 = .ok (.if_icmp .eq 5, 3) := by decide +kernel
theorem dX4_reasonAgainstSwitchOver_45 : decode cX4_reasonAgainstSwitchOver 45 = .ok (.iconst 3, 1) := by decide +kernel
theorem dX4_reasonAgainstSwitchOver_46 : decode cX4_reasonAgainstSwitchOver 46 = .ok (.ireturn, 1) := by decide +kernel
theorem dX4_reasonAgainstSwitchOver_47 : decode cX4_reasonAgainstSwitchOver 47 = .ok (.aload_n 0, 1) := by decide +kernel
theorem dX4_reasonAgainstSwitchOver_48 : decode cX4_reasonAgainstSwitchOver 48 = .ok (.getfield 28, 3) := by decide +kernel
theorem dX4_reasonAgainstSwitchOver_51 : decode cX4_reasonAgainstSwitchOver 51 = .ok (.getfield 130, 3) := by decide +kernel
theorem dX4_reasonAgainstSwitchOver_54 : decode cX4_reasonAgainstSwitchOver 54 = .ok (.ifCond .le 12, 3) := by decide +kernel
theorem dX4_reasonAgainstSwitchOver_57 : decode cX4_reasonAgainstSwitchOver 57 = .ok (.aload_n 0, 1) := by decide +kernel
theorem dX4_reasonAgainstSwitchOver_58 : decode cX4_reasonAgainstSwitchOver 58 = .ok (.invokevirtual 86, 3) := by decide +kernel
theorem dX4_reasonAgainstSwitchOver_61 : decode cX4_reasonAgainstSwitchOver 61 = .ok (.ifCond .ne 5, 3) := by decide +kernel
theorem dX4_reasonAgainstSwitchOver_64 : decode cX4_reasonAgainstSwitchOver 64 = .ok (.iconst 4, 1) := by decide +kernel
theorem dX4_reasonAgainstSwitchOver_65 : decode cX4_reasonAgainstSwitchOver 65 = .ok (.ireturn, 1) := by decide +kernel
theorem dX4_reasonAgainstSwitchOver_66 : decode cX4_reasonAgainstSwitchOver 66 = .ok (.aload_n 0, 1) := by decide +kernel
theorem dX4_reasonAgainstSwitchOver_67 : decode cX4_reasonAgainstSwitchOver 67 = .ok (.getfield 53, 3) := by decide +kernel
theorem dX4_reasonAgainstSwitchOver_70 : decode cX4_reasonAgainstSwitchOver 70 = .ok (.sipush 32767, 3) := by decide +kernel
theorem dX4_reasonAgainstSwitchOver_73 : decode cX4_reasonAgainstSwitchOver 73 = .ok (.if_icmp .ne 7, 3) := by decide +kernel
theorem dX4_reasonAgainstSwitchOver_76 : decode cX4_reasonAgainstSwitchOver 76 = .ok (.iconst 0, 1) := by decide +kernel
theorem dX4_reasonAgainstSwitchOver_77 : decode cX4_reasonAgainstSwitchOver 77 = .ok (.goto 5, 3) := by decide +kernel
theorem dX4_reasonAgainstSwitchOver_80 : decode cX4_reasonAgainstSwitchOver 80 = .ok (.bipush 6, 2) := by decide +kernel
theorem dX4_reasonAgainstSwitchOver_82 : decode cX4_reasonAgainstSwitchOver 82 = .ok (.ireturn, 1) := by decide +kernel
theorem tf_X4_53 : Cond.fieldLink RX4 53 "TableMove$State" (TX4 3).2.1 (TX4 3).2.2.1 ∈ TMW := tm_in 235 (by decide +kernel) (by decide +kernel)
def f_X4_reasonAgainstSwitchOver_66 (v : tmM) : Option (Int32 × tmM) := (if (v 0 3) = 32767 then some (0, v) else some (6, v))
set_option maxRecDepth 100000 in
set_option maxHeartbeats 4000000 in
theorem w_X4_reasonAgainstSwitchOver_66 {p : Program} {l : Launch} {e : Env} {s : State} {m : MethodId} {args : Array Value} {below : List Frame} {meth : Method} {c : Code} {D : va_G} {cy : Nat → ClassId} {ad : Nat → Nat} {A : Nat → Prop} {z : (Int32 × tmM)} (C0 : tmC p s m args meth c cX4_reasonAgainstSwitchOver 2 (some .int) RX4 TMW tm_NWC D cy tm_shC ad 256 [] A) (v : tmM) : tmG p l e ({ frames := 1, cells := 0, slots := 0, locals := 21 } : Room) s m args below meth c 0 0 (MQ below (va_Qi (fun r u => z = (r, u)) (tmAt tm_shC 256 D cy ad A) A) args s 0 0 A) 2 D cy tm_shC ad 256 [] A z 66 [(0, .ref (ad 0))] [] v (f_X4_reasonAgainstSwitchOver_66 v) := by
  unfold f_X4_reasonAgainstSwitchOver_66
  refine tg_aload_n 0 C0 dX4_reasonAgainstSwitchOver_66 rfl rfl ?_
  refine tg_get 0 3 C0 dX4_reasonAgainstSwitchOver_67 (by decide) rfl rfl tu_X4 (by decide) tf_X4_53 rfl rfl rfl ?_
  refine tg_sipush (x := 32767) C0 dX4_reasonAgainstSwitchOver_70 (by decide) ?_
  refine tg_icmp_ne 80 C0 dX4_reasonAgainstSwitchOver_73 (by decide) (fun _ => ?_) (fun _ => ?_)
  · refine tg_bipush (x := 6) C0 dX4_reasonAgainstSwitchOver_80 (by decide) ?_
    exact tg_iret C0 dX4_reasonAgainstSwitchOver_82
  · refine tg_iconst (x := 0) C0 dX4_reasonAgainstSwitchOver_76 (by decide) ?_
    refine tg_goto 82 C0 dX4_reasonAgainstSwitchOver_77 (by decide) ?_
    exact tg_iret C0 dX4_reasonAgainstSwitchOver_82
def f_X4_reasonAgainstSwitchOver (x1 : Int32) (v : tmM) : Option (Int32 × tmM) := tm_cl (f_X4_isDouble v) fun r2 v1 => (if r2 = 0 then some (2, v1) else tm_cl (f_X7_has (v1 0 4) x1 v1) fun r4 v3 => (if r4 = 0 then tm_cl (f_X7_has (v3 0 1) 1 v3) fun r6 v5 => (if r6 = 0 then some (1, v5) else (if (v5 0 2) = 32767 then (if (v5 8 1) ≤ 0 then f_X4_reasonAgainstSwitchOver_66 v5 else tm_cl (f_X4_leader v5) fun r8 v7 => (if r8 = 0 then some (4, v7) else f_X4_reasonAgainstSwitchOver_66 v7)) else some (3, v5))) else some (5, v3)))
set_option maxRecDepth 100000 in
set_option maxHeartbeats 4000000 in
theorem w_X4_reasonAgainstSwitchOver {p : Program} {l : Launch} {e : Env} {s : State} {m : MethodId} {args : Array Value} {below : List Frame} {meth : Method} {c : Code} {D : va_G} {cy : Nat → ClassId} {ad : Nat → Nat} {A : Nat → Prop} {z : (Int32 × tmM)} (C0 : tmC p s m args meth c cX4_reasonAgainstSwitchOver 2 (some .int) RX4 TMW tm_NWC D cy tm_shC ad 256 [] A) (x1 : Int32) (v : tmM) : tmG p l e ({ frames := 1, cells := 0, slots := 0, locals := 21 } : Room) s m args below meth c 0 0 (MQ below (va_Qi (fun r u => z = (r, u)) (tmAt tm_shC 256 D cy ad A) A) args s 0 0 A) 2 D cy tm_shC ad 256 [] A z 0 [(0, .ref (ad 0)), (1, .int x1)] [] v (f_X4_reasonAgainstSwitchOver x1 v) := by
  unfold f_X4_reasonAgainstSwitchOver
  refine tg_aload_n 0 C0 dX4_reasonAgainstSwitchOver_0 rfl rfl ?_
  refine tg_callVi (As := []) 0 0 C0 dX4_reasonAgainstSwitchOver_1 (c_X4_isDouble l v) rfl rfl (by decide) rfl rfl (tm_gV tl_X4_126 ti_X4_isDouble ts_X4_isDouble tn_X4 tc_X4_isDouble)  rfl rfl rfl rfl (by decide +kernel) ⟨by decide, by decide⟩ (Nat.le_of_ble_eq_true rfl) ⟨by decide, by decide⟩ (fun r2 v1 _ => ?_)
  refine tg_if_ne 9 C0 dX4_reasonAgainstSwitchOver_4 (by decide) (fun _ => ?_) (fun _ => ?_)
  · refine tg_aload_n 0 C0 dX4_reasonAgainstSwitchOver_9 rfl rfl ?_
    refine tg_get 0 4 C0 dX4_reasonAgainstSwitchOver_10 (by decide) rfl rfl tu_X4 (by decide) tf_X4_56 rfl rfl rfl ?_
    refine tg_iload_n 1 C0 dX4_reasonAgainstSwitchOver_13 rfl rfl ?_
    refine tg_callSNi (As := [.int (v1 0 4), .int x1]) 2 C0 dX4_reasonAgainstSwitchOver_14 (c_X7_has l (v1 0 4) x1 v1) rfl rfl (tm_gc tc_X7_has) tm_nwC_X4_78 tn_X7 tst_X7_has rfl rfl rfl rfl (by decide +kernel) ⟨by decide, by decide⟩ (Nat.le_of_ble_eq_true rfl) ⟨by decide, by decide⟩ (fun r4 v3 _ => ?_)
    refine tg_if_eq 22 C0 dX4_reasonAgainstSwitchOver_17 (by decide) (fun _ => ?_) (fun _ => ?_)
    · refine tg_aload_n 0 C0 dX4_reasonAgainstSwitchOver_22 rfl rfl ?_
      refine tg_get 0 1 C0 dX4_reasonAgainstSwitchOver_23 (by decide) rfl rfl tu_X4 (by decide) tf_X4_15 rfl rfl rfl ?_
      refine tg_iconst (x := 1) C0 dX4_reasonAgainstSwitchOver_26 (by decide) ?_
      refine tg_callSNi (As := [.int (v3 0 1), .int 1]) 2 C0 dX4_reasonAgainstSwitchOver_27 (c_X7_has l (v3 0 1) 1 v3) rfl rfl (tm_gc tc_X7_has) tm_nwC_X4_78 tn_X7 tst_X7_has rfl rfl rfl rfl (by decide +kernel) ⟨by decide, by decide⟩ (Nat.le_of_ble_eq_true rfl) ⟨by decide, by decide⟩ (fun r6 v5 _ => ?_)
      refine tg_if_ne 35 C0 dX4_reasonAgainstSwitchOver_30 (by decide) (fun _ => ?_) (fun _ => ?_)
      · refine tg_aload_n 0 C0 dX4_reasonAgainstSwitchOver_35 rfl rfl ?_
        refine tg_get 0 2 C0 dX4_reasonAgainstSwitchOver_36 (by decide) rfl rfl tu_X4 (by decide) tf_X4_50 rfl rfl rfl ?_
        refine tg_sipush (x := 32767) C0 dX4_reasonAgainstSwitchOver_39 (by decide) ?_
        refine tg_icmp_eq 47 C0 dX4_reasonAgainstSwitchOver_42 (by decide) (fun _ => ?_) (fun _ => ?_)
        · refine tg_aload_n 0 C0 dX4_reasonAgainstSwitchOver_47 rfl rfl ?_
          refine tg_get 0 6 C0 dX4_reasonAgainstSwitchOver_48 (by decide) rfl rfl tu_X4 (by decide) tf_X4_28 rfl rfl rfl ?_
          refine tg_getN 8 1 C0 dX4_reasonAgainstSwitchOver_51 (by decide) rfl rfl tu_X2 (by decide) tm_nwC_X4_130 rfl rfl rfl ?_
          refine tg_if_le 66 C0 dX4_reasonAgainstSwitchOver_54 (by decide) (fun _ => ?_) (fun _ => ?_)
          · refine tg_sub [0] rfl ?_
            exact w_X4_reasonAgainstSwitchOver_66 C0 v5
          · refine tg_aload_n 0 C0 dX4_reasonAgainstSwitchOver_57 rfl rfl ?_
            refine tg_callVi (As := []) 0 0 C0 dX4_reasonAgainstSwitchOver_58 (c_X4_leader l v5) rfl rfl (by decide) rfl rfl (tm_gV tl_X4_86 ti_X4_leader ts_X4_leader tn_X4 tc_X4_leader)  rfl rfl rfl rfl (by decide +kernel) ⟨by decide, by decide⟩ (Nat.le_of_ble_eq_true rfl) ⟨by decide, by decide⟩ (fun r8 v7 _ => ?_)
            refine tg_if_ne 66 C0 dX4_reasonAgainstSwitchOver_61 (by decide) (fun _ => ?_) (fun _ => ?_)
            · refine tg_sub [0] rfl ?_
              exact w_X4_reasonAgainstSwitchOver_66 C0 v7
            · refine tg_iconst (x := 4) C0 dX4_reasonAgainstSwitchOver_64 (by decide) ?_
              exact tg_iret C0 dX4_reasonAgainstSwitchOver_65
        · refine tg_iconst (x := 3) C0 dX4_reasonAgainstSwitchOver_45 (by decide) ?_
          exact tg_iret C0 dX4_reasonAgainstSwitchOver_46
      · refine tg_iconst (x := 1) C0 dX4_reasonAgainstSwitchOver_33 (by decide) ?_
        exact tg_iret C0 dX4_reasonAgainstSwitchOver_34
    · refine tg_iconst (x := 5) C0 dX4_reasonAgainstSwitchOver_20 (by decide) ?_
      exact tg_iret C0 dX4_reasonAgainstSwitchOver_21
  · refine tg_iconst (x := 2) C0 dX4_reasonAgainstSwitchOver_7 (by decide) ?_
    exact tg_iret C0 dX4_reasonAgainstSwitchOver_8
theorem c_X4_reasonAgainstSwitchOver (l : Launch) (x1 : Int32) (v : tmM) : tmMi tm_NWC tm_shC 256 l yX4_reasonAgainstSwitchOver (Cond.code yX4_reasonAgainstSwitchOver cX4_reasonAgainstSwitchOver 2 (some .int) :: TMW) ({ frames := 1, cells := 0, slots := 0, locals := 21 } : Room) (fun ad => [.ref (ad 0), .int x1]) v (f_X4_reasonAgainstSwitchOver x1 v) :=
  tmMi.of (cc := cX4_reasonAgainstSwitchOver) (nL := 2) (by decide +kernel) rfl tm_NWC_ok (fun _ => Nat.le_of_ble_eq_true rfl) (fun p e s m args below meth c A D cy ad z C0 => w_X4_reasonAgainstSwitchOver C0 x1 v)
-- ----- X4_reasonAgainstSwitchBack
theorem dX4_reasonAgainstSwitchBack_0 : decode cX4_reasonAgainstSwitchBack 0 = .ok (.aload_n 0, 1) := by decide +kernel
theorem dX4_reasonAgainstSwitchBack_1 : decode cX4_reasonAgainstSwitchBack 1 = .ok (.invokevirtual 126, 3) := by decide +kernel
theorem dX4_reasonAgainstSwitchBack_4 : decode cX4_reasonAgainstSwitchBack 4 = .ok (.ifCond .ne 5, 3) := by decide +kernel
theorem dX4_reasonAgainstSwitchBack_7 : decode cX4_reasonAgainstSwitchBack 7 = .ok (.iconst 2, 1) := by decide +kernel
theorem dX4_reasonAgainstSwitchBack_8 : decode cX4_reasonAgainstSwitchBack 8 = .ok (.ireturn, 1) := by decide +kernel
theorem dX4_reasonAgainstSwitchBack_9 : decode cX4_reasonAgainstSwitchBack 9 = .ok (.aload_n 0, 1) := by decide +kernel
theorem dX4_reasonAgainstSwitchBack_10 : decode cX4_reasonAgainstSwitchBack 10 = .ok (.getfield 56, 3) := by decide +kernel
theorem dX4_reasonAgainstSwitchBack_13 : decode cX4_reasonAgainstSwitchBack 13 = .ok (.iload_n 1, 1) := by decide +kernel
theorem dX4_reasonAgainstSwitchBack_14 : decode cX4_reasonAgainstSwitchBack 14 = .ok (.invokestatic 78, 3) := by decide +kernel
theorem dX4_reasonAgainstSwitchBack_17 : decode cX4_reasonAgainstSwitchBack 17 = .ok (.ifCond .ne 5, 3) := by decide +kernel
theorem dX4_reasonAgainstSwitchBack_20 : decode cX4_reasonAgainstSwitchBack 20 = .ok (.iconst 5, 1) := by decide +kernel
theorem dX4_reasonAgainstSwitchBack_21 : decode cX4_reasonAgainstSwitchBack 21 = .ok (.ireturn, 1) := by decide +kernel
theorem dX4_reasonAgainstSwitchBack_22 : decode cX4_reasonAgainstSwitchBack 22 = .ok (.aload_n 0, 1) := by decide +kernel
theorem dX4_reasonAgainstSwitchBack_23 : decode cX4_reasonAgainstSwitchBack 23 = .ok (.getfield 15, 3) := by decide +kernel
theorem dX4_reasonAgainstSwitchBack_26 : decode cX4_reasonAgainstSwitchBack 26 = .ok (.iconst 0, 1) := by decide +kernel
theorem dX4_reasonAgainstSwitchBack_27 : decode cX4_reasonAgainstSwitchBack 27 = .ok (.invokestatic 78, 3) := by decide +kernel
theorem dX4_reasonAgainstSwitchBack_30 : decode cX4_reasonAgainstSwitchBack 30 = .ok (.ifCond .ne 5, 3) := by decide +kernel
theorem dX4_reasonAgainstSwitchBack_33 : decode cX4_reasonAgainstSwitchBack 33 = .ok (.iconst 1, 1) := by decide +kernel
theorem dX4_reasonAgainstSwitchBack_34 : decode cX4_reasonAgainstSwitchBack 34 = .ok (.ireturn, 1) := by decide +kernel
theorem dX4_reasonAgainstSwitchBack_35 : decode cX4_reasonAgainstSwitchBack 35 = .ok (.aload_n 0, 1) := by decide +kernel
theorem dX4_reasonAgainstSwitchBack_36 : decode cX4_reasonAgainstSwitchBack 36 = .ok (.getfield 28, 3) := by decide +kernel
theorem dX4_reasonAgainstSwitchBack_39 : decode cX4_reasonAgainstSwitchBack 39 = .ok (.getfield 130, 3) := by decide +kernel
theorem dX4_reasonAgainstSwitchBack_42 : decode cX4_reasonAgainstSwitchBack 42 = .ok (.ifCond .le 15, 3) := by decide +kernel
theorem dX4_reasonAgainstSwitchBack_45 : decode cX4_reasonAgainstSwitchBack 45 = .ok (.aload_n 0, 1) := by decide +kernel
theorem dX4_reasonAgainstSwitchBack_46 : decode cX4_reasonAgainstSwitchBack 46 = .ok (.invokevirtual 86, 3) := by decide +kernel
theorem dX4_reasonAgainstSwitchBack_49 : decode cX4_reasonAgainstSwitchBack 49 = .ok (.iconst 1, 1) := by decide +kernel
theorem dX4_reasonAgainstSwitchBack_50 : decode cX4_reasonAgainstSwitchBack 50 = .ok (.if_icmp .ne 7, 3) := by decide +kernel
theorem dX4_reasonAgainstSwitchBack_53 : decode cX4_reasonAgainstSwitchBack 53 = .ok (.iconst 4, 1) := by decide +kernel
theorem dX4_reasonAgainstSwitchBack_54 : decode cX4_reasonAgainstSwitchBack 54 = .ok (.goto 4, 3) := by decide +kernel
theorem dX4_reasonAgainstSwitchBack_57 : decode cX4_reasonAgainstSwitchBack 57 = .ok (.iconst 0, 1) := by decide +kernel
theorem dX4_reasonAgainstSwitchBack_58 : decode cX4_reasonAgainstSwitchBack 58 = .ok (.ireturn, 1) := by decide +kernel
def f_X4_reasonAgainstSwitchBack (x1 : Int32) (v : tmM) : Option (Int32 × tmM) := tm_cl (f_X4_isDouble v) fun r2 v1 => (if r2 = 0 then some (2, v1) else tm_cl (f_X7_has (v1 0 4) x1 v1) fun r4 v3 => (if r4 = 0 then some (5, v3) else tm_cl (f_X7_has (v3 0 1) 0 v3) fun r6 v5 => (if r6 = 0 then some (1, v5) else (if (v5 8 1) ≤ 0 then some (0, v5) else tm_cl (f_X4_leader v5) fun r8 v7 => (if r8 = 1 then some (4, v7) else some (0, v7))))))
set_option maxRecDepth 100000 in
set_option maxHeartbeats 4000000 in
theorem w_X4_reasonAgainstSwitchBack {p : Program} {l : Launch} {e : Env} {s : State} {m : MethodId} {args : Array Value} {below : List Frame} {meth : Method} {c : Code} {D : va_G} {cy : Nat → ClassId} {ad : Nat → Nat} {A : Nat → Prop} {z : (Int32 × tmM)} (C0 : tmC p s m args meth c cX4_reasonAgainstSwitchBack 2 (some .int) RX4 TMW tm_NWC D cy tm_shC ad 256 [] A) (x1 : Int32) (v : tmM) : tmG p l e ({ frames := 1, cells := 0, slots := 0, locals := 21 } : Room) s m args below meth c 0 0 (MQ below (va_Qi (fun r u => z = (r, u)) (tmAt tm_shC 256 D cy ad A) A) args s 0 0 A) 2 D cy tm_shC ad 256 [] A z 0 [(0, .ref (ad 0)), (1, .int x1)] [] v (f_X4_reasonAgainstSwitchBack x1 v) := by
  unfold f_X4_reasonAgainstSwitchBack
  refine tg_aload_n 0 C0 dX4_reasonAgainstSwitchBack_0 rfl rfl ?_
  refine tg_callVi (As := []) 0 0 C0 dX4_reasonAgainstSwitchBack_1 (c_X4_isDouble l v) rfl rfl (by decide) rfl rfl (tm_gV tl_X4_126 ti_X4_isDouble ts_X4_isDouble tn_X4 tc_X4_isDouble)  rfl rfl rfl rfl (by decide +kernel) ⟨by decide, by decide⟩ (Nat.le_of_ble_eq_true rfl) ⟨by decide, by decide⟩ (fun r2 v1 _ => ?_)
  refine tg_if_ne 9 C0 dX4_reasonAgainstSwitchBack_4 (by decide) (fun _ => ?_) (fun _ => ?_)
  · refine tg_aload_n 0 C0 dX4_reasonAgainstSwitchBack_9 rfl rfl ?_
    refine tg_get 0 4 C0 dX4_reasonAgainstSwitchBack_10 (by decide) rfl rfl tu_X4 (by decide) tf_X4_56 rfl rfl rfl ?_
    refine tg_iload_n 1 C0 dX4_reasonAgainstSwitchBack_13 rfl rfl ?_
    refine tg_callSNi (As := [.int (v1 0 4), .int x1]) 2 C0 dX4_reasonAgainstSwitchBack_14 (c_X7_has l (v1 0 4) x1 v1) rfl rfl (tm_gc tc_X7_has) tm_nwC_X4_78 tn_X7 tst_X7_has rfl rfl rfl rfl (by decide +kernel) ⟨by decide, by decide⟩ (Nat.le_of_ble_eq_true rfl) ⟨by decide, by decide⟩ (fun r4 v3 _ => ?_)
    refine tg_if_ne 22 C0 dX4_reasonAgainstSwitchBack_17 (by decide) (fun _ => ?_) (fun _ => ?_)
    · refine tg_aload_n 0 C0 dX4_reasonAgainstSwitchBack_22 rfl rfl ?_
      refine tg_get 0 1 C0 dX4_reasonAgainstSwitchBack_23 (by decide) rfl rfl tu_X4 (by decide) tf_X4_15 rfl rfl rfl ?_
      refine tg_iconst (x := 0) C0 dX4_reasonAgainstSwitchBack_26 (by decide) ?_
      refine tg_callSNi (As := [.int (v3 0 1), .int 0]) 2 C0 dX4_reasonAgainstSwitchBack_27 (c_X7_has l (v3 0 1) 0 v3) rfl rfl (tm_gc tc_X7_has) tm_nwC_X4_78 tn_X7 tst_X7_has rfl rfl rfl rfl (by decide +kernel) ⟨by decide, by decide⟩ (Nat.le_of_ble_eq_true rfl) ⟨by decide, by decide⟩ (fun r6 v5 _ => ?_)
      refine tg_if_ne 35 C0 dX4_reasonAgainstSwitchBack_30 (by decide) (fun _ => ?_) (fun _ => ?_)
      · refine tg_aload_n 0 C0 dX4_reasonAgainstSwitchBack_35 rfl rfl ?_
        refine tg_get 0 6 C0 dX4_reasonAgainstSwitchBack_36 (by decide) rfl rfl tu_X4 (by decide) tf_X4_28 rfl rfl rfl ?_
        refine tg_getN 8 1 C0 dX4_reasonAgainstSwitchBack_39 (by decide) rfl rfl tu_X2 (by decide) tm_nwC_X4_130 rfl rfl rfl ?_
        refine tg_if_le 57 C0 dX4_reasonAgainstSwitchBack_42 (by decide) (fun _ => ?_) (fun _ => ?_)
        · refine tg_iconst (x := 0) C0 dX4_reasonAgainstSwitchBack_57 (by decide) ?_
          exact tg_iret C0 dX4_reasonAgainstSwitchBack_58
        · refine tg_aload_n 0 C0 dX4_reasonAgainstSwitchBack_45 rfl rfl ?_
          refine tg_callVi (As := []) 0 0 C0 dX4_reasonAgainstSwitchBack_46 (c_X4_leader l v5) rfl rfl (by decide) rfl rfl (tm_gV tl_X4_86 ti_X4_leader ts_X4_leader tn_X4 tc_X4_leader)  rfl rfl rfl rfl (by decide +kernel) ⟨by decide, by decide⟩ (Nat.le_of_ble_eq_true rfl) ⟨by decide, by decide⟩ (fun r8 v7 _ => ?_)
          refine tg_iconst (x := 1) C0 dX4_reasonAgainstSwitchBack_49 (by decide) ?_
          refine tg_icmp_ne 57 C0 dX4_reasonAgainstSwitchBack_50 (by decide) (fun _ => ?_) (fun _ => ?_)
          · refine tg_iconst (x := 0) C0 dX4_reasonAgainstSwitchBack_57 (by decide) ?_
            exact tg_iret C0 dX4_reasonAgainstSwitchBack_58
          · refine tg_iconst (x := 4) C0 dX4_reasonAgainstSwitchBack_53 (by decide) ?_
            refine tg_goto 58 C0 dX4_reasonAgainstSwitchBack_54 (by decide) ?_
            exact tg_iret C0 dX4_reasonAgainstSwitchBack_58
      · refine tg_iconst (x := 1) C0 dX4_reasonAgainstSwitchBack_33 (by decide) ?_
        exact tg_iret C0 dX4_reasonAgainstSwitchBack_34
    · refine tg_iconst (x := 5) C0 dX4_reasonAgainstSwitchBack_20 (by decide) ?_
      exact tg_iret C0 dX4_reasonAgainstSwitchBack_21
  · refine tg_iconst (x := 2) C0 dX4_reasonAgainstSwitchBack_7 (by decide) ?_
    exact tg_iret C0 dX4_reasonAgainstSwitchBack_8
theorem c_X4_reasonAgainstSwitchBack (l : Launch) (x1 : Int32) (v : tmM) : tmMi tm_NWC tm_shC 256 l yX4_reasonAgainstSwitchBack (Cond.code yX4_reasonAgainstSwitchBack cX4_reasonAgainstSwitchBack 2 (some .int) :: TMW) ({ frames := 1, cells := 0, slots := 0, locals := 21 } : Room) (fun ad => [.ref (ad 0), .int x1]) v (f_X4_reasonAgainstSwitchBack x1 v) :=
  tmMi.of (cc := cX4_reasonAgainstSwitchBack) (nL := 2) (by decide +kernel) rfl tm_NWC_ok (fun _ => Nat.le_of_ble_eq_true rfl) (fun p e s m args below meth c A D cy ad z C0 => w_X4_reasonAgainstSwitchBack C0 x1 v)
-- ----- X4_reasonAgainstLead
theorem dX4_reasonAgainstLead_0 : decode cX4_reasonAgainstLead 0 = .ok (.aload_n 0, 1) := by decide +kernel
theorem dX4_reasonAgainstLead_1 : decode cX4_reasonAgainstLead 1 = .ok (.getfield 9, 3) := by decide +kernel
theorem dX4_reasonAgainstLead_4 : decode cX4_reasonAgainstLead 4 = .ok (.iconst 1, 1) := by decide +kernel
theorem dX4_reasonAgainstLead_5 : decode cX4_reasonAgainstLead 5 = .ok (.if_icmp .eq 5, 3) := by decide +kernel
theorem dX4_reasonAgainstLead_8 : decode cX4_reasonAgainstLead 8 = .ok (.iconst 2, 1) := by decide +kernel
theorem dX4_reasonAgainstLead_9 : decode cX4_reasonAgainstLead 9 = .ok (.ireturn, 1) := by decide +kernel
theorem dX4_reasonAgainstLead_10 : decode cX4_reasonAgainstLead 10 = .ok (.aload_n 0, 1) := by decide +kernel
theorem dX4_reasonAgainstLead_11 : decode cX4_reasonAgainstLead 11 = .ok (.getfield 15, 3) := by decide +kernel
theorem dX4_reasonAgainstLead_14 : decode cX4_reasonAgainstLead 14 = .ok (.iconst 3, 1) := by decide +kernel
theorem dX4_reasonAgainstLead_15 : decode cX4_reasonAgainstLead 15 = .ok (.if_icmp .eq 5, 3) := by decide +kernel
theorem dX4_reasonAgainstLead_18 : decode cX4_reasonAgainstLead 18 = .ok (.iconst 1, 1) := by decide +kernel
theorem dX4_reasonAgainstLead_19 : decode cX4_reasonAgainstLead 19 = .ok (.ireturn, 1) := by decide +kernel
theorem dX4_reasonAgainstLead_20 : decode cX4_reasonAgainstLead 20 = .ok (.aload_n 0, 1) := by decide +kernel
theorem dX4_reasonAgainstLead_21 : decode cX4_reasonAgainstLead 21 = .ok (.getfield 50, 3) := by decide +kernel
theorem dX4_reasonAgainstLead_24 : decode cX4_reasonAgainstLead 24 = .ok (.sipush 32767, 3) := by decide +kernel
theorem dX4_reasonAgainstLead_27 : decode cX4_reasonAgainstLead 27 = .ok (.if_icmp .eq 5, 3) := by decide +kernel
theorem dX4_reasonAgainstLead_30 : decode cX4_reasonAgainstLead 30 = .ok (.iconst 3, 1) := by decide +kernel
theorem dX4_reasonAgainstLead_31 : decode cX4_reasonAgainstLead 31 = .ok (.ireturn, 1) := by decide +kernel
theorem dX4_reasonAgainstLead_32 : decode cX4_reasonAgainstLead 32 = .ok (.aload_n 0, 1) := by decide +kernel
theorem dX4_reasonAgainstLead_33 : decode cX4_reasonAgainstLead 33 = .ok (.getfield 28, 3) := by decide +kernel
theorem dX4_reasonAgainstLead_36 : decode cX4_reasonAgainstLead 36 = .ok (.getfield 130, 3) := by decide +kernel
theorem dX4_reasonAgainstLead_39 : decode cX4_reasonAgainstLead 39 = .ok (.ifCond .le 5, 3) := by decide +kernel
theorem dX4_reasonAgainstLead_42 : decode cX4_reasonAgainstLead 42 = .ok (.iconst 4, 1) := by decide +kernel
theorem dX4_reasonAgainstLead_43 : decode cX4_reasonAgainstLead 43 = .ok (.ireturn, 1) := by decide +kernel
theorem dX4_reasonAgainstLead_44 : decode cX4_reasonAgainstLead 44 = .ok (.aload_n 0, 1) := by decide +kernel
theorem dX4_reasonAgainstLead_45 : decode cX4_reasonAgainstLead 45 = .ok (.getfield 53, 3) := by decide +kernel
theorem dX4_reasonAgainstLead_48 : decode cX4_reasonAgainstLead 48 = .ok (.sipush 32767, 3) := by decide +kernel
theorem dX4_reasonAgainstLead_51 : decode cX4_reasonAgainstLead 51 = .ok (.if_icmp .ne 13, 3) := by decide +kernel
theorem dX4_reasonAgainstLead_54 : decode cX4_reasonAgainstLead 54 = .ok (.aload_n 0, 1) := by decide +kernel
theorem dX4_reasonAgainstLead_55 : decode cX4_reasonAgainstLead 55 = .ok (.getfield 21, 3) := by decide +kernel
theorem dX4_reasonAgainstLead_58 : decode cX4_reasonAgainstLead 58 = .ok (.invokevirtual 136, 3) := by decide +kernel
theorem dX4_reasonAgainstLead_61 : decode cX4_reasonAgainstLead 61 = .ok (.ifCond .eq 6, 3) := by decide +kernel
theorem dX4_reasonAgainstLead_64 : decode cX4_reasonAgainstLead 64 = .ok (.bipush 6, 2) := by decide +kernel
theorem dX4_reasonAgainstLead_66 : decode cX4_reasonAgainstLead 66 = .ok (.ireturn, 1) := by decide +kernel
theorem dX4_reasonAgainstLead_67 : decode cX4_reasonAgainstLead 67 = .ok (.aload_n 0, 1) := by decide +kernel
theorem dX4_reasonAgainstLead_68 : decode cX4_reasonAgainstLead 68 = .ok (.getfield 56, 3) := by decide +kernel
theorem dX4_reasonAgainstLead_71 : decode cX4_reasonAgainstLead 71 = .ok (.sipush 255, 3) := by decide +kernel
theorem dX4_reasonAgainstLead_74 : decode cX4_reasonAgainstLead 74 = .ok (.if_icmp .ne 7, 3) := by decide +kernel
theorem dX4_reasonAgainstLead_77 : decode cX4_reasonAgainstLead 77 = .ok (.iconst 0, 1) := by decide +kernel
theorem dX4_reasonAgainstLead_78 : decode cX4_reasonAgainstLead 78 = .ok (.goto 5, 3) := by decide +kernel
theorem dX4_reasonAgainstLead_81 : decode cX4_reasonAgainstLead 81 = .ok (.bipush 7, 2) := by decide +kernel
theorem dX4_reasonAgainstLead_83 : decode cX4_reasonAgainstLead 83 = .ok (.ireturn, 1) := by decide +kernel
theorem tl_X4_136 : Cond.methodLink RX4 136 yX5_someSumsDiffer ∈ TMW := tm_in 632 (by decide +kernel) (by decide +kernel)
theorem ti_X5_someSumsDiffer : Cond.instanceMethod yX5_someSumsDiffer ∈ TMW := tm_in 633 (by decide +kernel) (by decide +kernel)
theorem ts_X5_someSumsDiffer : Cond.selects RX5 yX5_someSumsDiffer yX5_someSumsDiffer ∈ TMW := tm_in 634 (by decide +kernel) (by decide +kernel)
theorem tc_X5_someSumsDiffer : Cond.code yX5_someSumsDiffer cX5_someSumsDiffer 2 (some .boolean) ∈ TMW := tm_in 635 (by decide +kernel) (by decide +kernel)
def f_X4_reasonAgainstLead (v : tmM) : Option (Int32 × tmM) := (if (v 0 0) = 1 then (if (v 0 1) = 3 then (if (v 0 2) = 32767 then (if (v 8 1) ≤ 0 then (if (v 0 3) = 32767 then tm_cl (f_X5_someSumsDiffer v) fun r2 v1 => (if r2 = 0 then (if (v1 0 4) = 255 then some (0, v1) else some (7, v1)) else some (6, v1)) else some (6, v)) else some (4, v)) else some (3, v)) else some (1, v)) else some (2, v))
set_option maxRecDepth 100000 in
set_option maxHeartbeats 4000000 in
theorem w_X4_reasonAgainstLead {p : Program} {l : Launch} {e : Env} {s : State} {m : MethodId} {args : Array Value} {below : List Frame} {meth : Method} {c : Code} {D : va_G} {cy : Nat → ClassId} {ad : Nat → Nat} {A : Nat → Prop} {z : (Int32 × tmM)} (C0 : tmC p s m args meth c cX4_reasonAgainstLead 1 (some .int) RX4 TMW tm_NWC D cy tm_shC ad 256 [] A) (v : tmM) : tmG p l e ({ frames := 3, cells := 0, slots := 0, locals := 70 } : Room) s m args below meth c 0 0 (MQ below (va_Qi (fun r u => z = (r, u)) (tmAt tm_shC 256 D cy ad A) A) args s 0 0 A) 1 D cy tm_shC ad 256 [] A z 0 [(0, .ref (ad 0))] [] v (f_X4_reasonAgainstLead v) := by
  unfold f_X4_reasonAgainstLead
  refine tg_aload_n 0 C0 dX4_reasonAgainstLead_0 rfl rfl ?_
  refine tg_get 0 0 C0 dX4_reasonAgainstLead_1 (by decide) rfl rfl tu_X4 (by decide) tf_X4_9 rfl rfl rfl ?_
  refine tg_iconst (x := 1) C0 dX4_reasonAgainstLead_4 (by decide) ?_
  refine tg_icmp_eq 10 C0 dX4_reasonAgainstLead_5 (by decide) (fun _ => ?_) (fun _ => ?_)
  · refine tg_aload_n 0 C0 dX4_reasonAgainstLead_10 rfl rfl ?_
    refine tg_get 0 1 C0 dX4_reasonAgainstLead_11 (by decide) rfl rfl tu_X4 (by decide) tf_X4_15 rfl rfl rfl ?_
    refine tg_iconst (x := 3) C0 dX4_reasonAgainstLead_14 (by decide) ?_
    refine tg_icmp_eq 20 C0 dX4_reasonAgainstLead_15 (by decide) (fun _ => ?_) (fun _ => ?_)
    · refine tg_aload_n 0 C0 dX4_reasonAgainstLead_20 rfl rfl ?_
      refine tg_get 0 2 C0 dX4_reasonAgainstLead_21 (by decide) rfl rfl tu_X4 (by decide) tf_X4_50 rfl rfl rfl ?_
      refine tg_sipush (x := 32767) C0 dX4_reasonAgainstLead_24 (by decide) ?_
      refine tg_icmp_eq 32 C0 dX4_reasonAgainstLead_27 (by decide) (fun _ => ?_) (fun _ => ?_)
      · refine tg_aload_n 0 C0 dX4_reasonAgainstLead_32 rfl rfl ?_
        refine tg_get 0 6 C0 dX4_reasonAgainstLead_33 (by decide) rfl rfl tu_X4 (by decide) tf_X4_28 rfl rfl rfl ?_
        refine tg_getN 8 1 C0 dX4_reasonAgainstLead_36 (by decide) rfl rfl tu_X2 (by decide) tm_nwC_X4_130 rfl rfl rfl ?_
        refine tg_if_le 44 C0 dX4_reasonAgainstLead_39 (by decide) (fun _ => ?_) (fun _ => ?_)
        · refine tg_aload_n 0 C0 dX4_reasonAgainstLead_44 rfl rfl ?_
          refine tg_get 0 3 C0 dX4_reasonAgainstLead_45 (by decide) rfl rfl tu_X4 (by decide) tf_X4_53 rfl rfl rfl ?_
          refine tg_sipush (x := 32767) C0 dX4_reasonAgainstLead_48 (by decide) ?_
          refine tg_icmp_ne 64 C0 dX4_reasonAgainstLead_51 (by decide) (fun _ => ?_) (fun _ => ?_)
          · refine tg_bipush (x := 6) C0 dX4_reasonAgainstLead_64 (by decide) ?_
            exact tg_iret C0 dX4_reasonAgainstLead_66
          · refine tg_aload_n 0 C0 dX4_reasonAgainstLead_54 rfl rfl ?_
            refine tg_get 0 5 C0 dX4_reasonAgainstLead_55 (by decide) rfl rfl tu_X4 (by decide) tf_X4_21 rfl rfl rfl ?_
            refine tg_callVi (As := []) 1 0 C0 dX4_reasonAgainstLead_58 (c_X5_someSumsDiffer l v) rfl rfl (by decide) rfl rfl (tm_gV tl_X4_136 ti_X5_someSumsDiffer ts_X5_someSumsDiffer tn_X5 tc_X5_someSumsDiffer)  rfl rfl rfl rfl (by decide +kernel) ⟨by decide, by decide⟩ (Nat.le_of_ble_eq_true rfl) ⟨by decide, by decide⟩ (fun r2 v1 _ => ?_)
            refine tg_if_eq 67 C0 dX4_reasonAgainstLead_61 (by decide) (fun _ => ?_) (fun _ => ?_)
            · refine tg_aload_n 0 C0 dX4_reasonAgainstLead_67 rfl rfl ?_
              refine tg_get 0 4 C0 dX4_reasonAgainstLead_68 (by decide) rfl rfl tu_X4 (by decide) tf_X4_56 rfl rfl rfl ?_
              refine tg_sipush (x := 255) C0 dX4_reasonAgainstLead_71 (by decide) ?_
              refine tg_icmp_ne 81 C0 dX4_reasonAgainstLead_74 (by decide) (fun _ => ?_) (fun _ => ?_)
              · refine tg_bipush (x := 7) C0 dX4_reasonAgainstLead_81 (by decide) ?_
                exact tg_iret C0 dX4_reasonAgainstLead_83
              · refine tg_iconst (x := 0) C0 dX4_reasonAgainstLead_77 (by decide) ?_
                refine tg_goto 83 C0 dX4_reasonAgainstLead_78 (by decide) ?_
                exact tg_iret C0 dX4_reasonAgainstLead_83
            · refine tg_bipush (x := 6) C0 dX4_reasonAgainstLead_64 (by decide) ?_
              exact tg_iret C0 dX4_reasonAgainstLead_66
        · refine tg_iconst (x := 4) C0 dX4_reasonAgainstLead_42 (by decide) ?_
          exact tg_iret C0 dX4_reasonAgainstLead_43
      · refine tg_iconst (x := 3) C0 dX4_reasonAgainstLead_30 (by decide) ?_
        exact tg_iret C0 dX4_reasonAgainstLead_31
    · refine tg_iconst (x := 1) C0 dX4_reasonAgainstLead_18 (by decide) ?_
      exact tg_iret C0 dX4_reasonAgainstLead_19
  · refine tg_iconst (x := 2) C0 dX4_reasonAgainstLead_8 (by decide) ?_
    exact tg_iret C0 dX4_reasonAgainstLead_9
theorem c_X4_reasonAgainstLead (l : Launch) (v : tmM) : tmMi tm_NWC tm_shC 256 l yX4_reasonAgainstLead (Cond.code yX4_reasonAgainstLead cX4_reasonAgainstLead 1 (some .int) :: TMW) ({ frames := 3, cells := 0, slots := 0, locals := 70 } : Room) (fun ad => [.ref (ad 0)]) v (f_X4_reasonAgainstLead v) :=
  tmMi.of (cc := cX4_reasonAgainstLead) (nL := 1) (by decide +kernel) rfl tm_NWC_ok (fun _ => Nat.le_of_ble_eq_true rfl) (fun p e s m args below meth c A D cy ad z C0 => w_X4_reasonAgainstLead C0 v)
-- ----- X4_reasonAgainstGoBack
theorem dX4_reasonAgainstGoBack_0 : decode cX4_reasonAgainstGoBack 0 = .ok (.aload_n 0, 1) := by decide +kernel
theorem dX4_reasonAgainstGoBack_1 : decode cX4_reasonAgainstGoBack 1 = .ok (.getfield 9, 3) := by decide +kernel
theorem dX4_reasonAgainstGoBack_4 : decode cX4_reasonAgainstGoBack 4 = .ok (.iconst 2, 1) := by decide +kernel
theorem dX4_reasonAgainstGoBack_5 : decode cX4_reasonAgainstGoBack 5 = .ok (.if_icmp .eq 5, 3) := by decide +kernel
theorem dX4_reasonAgainstGoBack_8 : decode cX4_reasonAgainstGoBack 8 = .ok (.iconst 2, 1) := by decide +kernel
theorem dX4_reasonAgainstGoBack_9 : decode cX4_reasonAgainstGoBack 9 = .ok (.ireturn, 1) := by decide +kernel
theorem dX4_reasonAgainstGoBack_10 : decode cX4_reasonAgainstGoBack 10 = .ok (.aload_n 0, 1) := by decide +kernel
theorem dX4_reasonAgainstGoBack_11 : decode cX4_reasonAgainstGoBack 11 = .ok (.getfield 15, 3) := by decide +kernel
theorem dX4_reasonAgainstGoBack_14 : decode cX4_reasonAgainstGoBack 14 = .ok (.iconst 3, 1) := by decide +kernel
theorem dX4_reasonAgainstGoBack_15 : decode cX4_reasonAgainstGoBack 15 = .ok (.if_icmp .eq 5, 3) := by decide +kernel
theorem dX4_reasonAgainstGoBack_18 : decode cX4_reasonAgainstGoBack 18 = .ok (.iconst 1, 1) := by decide +kernel
theorem dX4_reasonAgainstGoBack_19 : decode cX4_reasonAgainstGoBack 19 = .ok (.ireturn, 1) := by decide +kernel
theorem dX4_reasonAgainstGoBack_20 : decode cX4_reasonAgainstGoBack 20 = .ok (.iload_n 1, 1) := by decide +kernel
theorem dX4_reasonAgainstGoBack_21 : decode cX4_reasonAgainstGoBack 21 = .ok (.ifCond .eq 17, 3) := by decide +kernel
theorem dX4_reasonAgainstGoBack_24 : decode cX4_reasonAgainstGoBack 24 = .ok (.aload_n 0, 1) := by decide +kernel
theorem dX4_reasonAgainstGoBack_25 : decode cX4_reasonAgainstGoBack 25 = .ok (.getfield 28, 3) := by decide +kernel
theorem dX4_reasonAgainstGoBack_28 : decode cX4_reasonAgainstGoBack 28 = .ok (.getfield 130, 3) := by decide +kernel
theorem dX4_reasonAgainstGoBack_31 : decode cX4_reasonAgainstGoBack 31 = .ok (.ifCond .le 7, 3) := by decide +kernel
theorem dX4_reasonAgainstGoBack_34 : decode cX4_reasonAgainstGoBack 34 = .ok (.iconst 4, 1) := by decide +kernel
theorem dX4_reasonAgainstGoBack_35 : decode cX4_reasonAgainstGoBack 35 = .ok (.goto 4, 3) := by decide +kernel
theorem dX4_reasonAgainstGoBack_38 : decode cX4_reasonAgainstGoBack 38 = .ok (.iconst 0, 1) := by decide +kernel
theorem dX4_reasonAgainstGoBack_39 : decode cX4_reasonAgainstGoBack 39 = .ok (.ireturn, 1) := by decide +kernel
def f_X4_reasonAgainstGoBack (x1 : Int32) (v : tmM) : Option (Int32 × tmM) := (if (v 0 0) = 2 then (if (v 0 1) = 3 then (if x1 = 0 then some (0, v) else (if (v 8 1) ≤ 0 then some (0, v) else some (4, v))) else some (1, v)) else some (2, v))
set_option maxRecDepth 100000 in
set_option maxHeartbeats 4000000 in
theorem w_X4_reasonAgainstGoBack {p : Program} {l : Launch} {e : Env} {s : State} {m : MethodId} {args : Array Value} {below : List Frame} {meth : Method} {c : Code} {D : va_G} {cy : Nat → ClassId} {ad : Nat → Nat} {A : Nat → Prop} {z : (Int32 × tmM)} (C0 : tmC p s m args meth c cX4_reasonAgainstGoBack 2 (some .int) RX4 TMW tm_NWC D cy tm_shC ad 256 [] A) (x1 : Int32) (v : tmM) : tmG p l e ({ frames := 0, cells := 0, slots := 0, locals := 0 } : Room) s m args below meth c 0 0 (MQ below (va_Qi (fun r u => z = (r, u)) (tmAt tm_shC 256 D cy ad A) A) args s 0 0 A) 2 D cy tm_shC ad 256 [] A z 0 [(0, .ref (ad 0)), (1, .int x1)] [] v (f_X4_reasonAgainstGoBack x1 v) := by
  unfold f_X4_reasonAgainstGoBack
  refine tg_aload_n 0 C0 dX4_reasonAgainstGoBack_0 rfl rfl ?_
  refine tg_get 0 0 C0 dX4_reasonAgainstGoBack_1 (by decide) rfl rfl tu_X4 (by decide) tf_X4_9 rfl rfl rfl ?_
  refine tg_iconst (x := 2) C0 dX4_reasonAgainstGoBack_4 (by decide) ?_
  refine tg_icmp_eq 10 C0 dX4_reasonAgainstGoBack_5 (by decide) (fun _ => ?_) (fun _ => ?_)
  · refine tg_aload_n 0 C0 dX4_reasonAgainstGoBack_10 rfl rfl ?_
    refine tg_get 0 1 C0 dX4_reasonAgainstGoBack_11 (by decide) rfl rfl tu_X4 (by decide) tf_X4_15 rfl rfl rfl ?_
    refine tg_iconst (x := 3) C0 dX4_reasonAgainstGoBack_14 (by decide) ?_
    refine tg_icmp_eq 20 C0 dX4_reasonAgainstGoBack_15 (by decide) (fun _ => ?_) (fun _ => ?_)
    · refine tg_iload_n 1 C0 dX4_reasonAgainstGoBack_20 rfl rfl ?_
      refine tg_if_eq 38 C0 dX4_reasonAgainstGoBack_21 (by decide) (fun _ => ?_) (fun _ => ?_)
      · refine tg_iconst (x := 0) C0 dX4_reasonAgainstGoBack_38 (by decide) ?_
        exact tg_iret C0 dX4_reasonAgainstGoBack_39
      · refine tg_aload_n 0 C0 dX4_reasonAgainstGoBack_24 rfl rfl ?_
        refine tg_get 0 6 C0 dX4_reasonAgainstGoBack_25 (by decide) rfl rfl tu_X4 (by decide) tf_X4_28 rfl rfl rfl ?_
        refine tg_getN 8 1 C0 dX4_reasonAgainstGoBack_28 (by decide) rfl rfl tu_X2 (by decide) tm_nwC_X4_130 rfl rfl rfl ?_
        refine tg_if_le 38 C0 dX4_reasonAgainstGoBack_31 (by decide) (fun _ => ?_) (fun _ => ?_)
        · refine tg_iconst (x := 0) C0 dX4_reasonAgainstGoBack_38 (by decide) ?_
          exact tg_iret C0 dX4_reasonAgainstGoBack_39
        · refine tg_iconst (x := 4) C0 dX4_reasonAgainstGoBack_34 (by decide) ?_
          refine tg_goto 39 C0 dX4_reasonAgainstGoBack_35 (by decide) ?_
          exact tg_iret C0 dX4_reasonAgainstGoBack_39
    · refine tg_iconst (x := 1) C0 dX4_reasonAgainstGoBack_18 (by decide) ?_
      exact tg_iret C0 dX4_reasonAgainstGoBack_19
  · refine tg_iconst (x := 2) C0 dX4_reasonAgainstGoBack_8 (by decide) ?_
    exact tg_iret C0 dX4_reasonAgainstGoBack_9
theorem c_X4_reasonAgainstGoBack (l : Launch) (x1 : Int32) (v : tmM) : tmMi tm_NWC tm_shC 256 l yX4_reasonAgainstGoBack (Cond.code yX4_reasonAgainstGoBack cX4_reasonAgainstGoBack 2 (some .int) :: TMW) ({ frames := 0, cells := 0, slots := 0, locals := 0 } : Room) (fun ad => [.ref (ad 0), .int x1]) v (f_X4_reasonAgainstGoBack x1 v) :=
  tmMi.of (cc := cX4_reasonAgainstGoBack) (nL := 2) (by decide +kernel) rfl tm_NWC_ok (fun _ => Nat.le_of_ble_eq_true rfl) (fun p e s m args below meth c A D cy ad z C0 => w_X4_reasonAgainstGoBack C0 x1 v)
-- ----- X4_reasonAgainstStop
theorem dX4_reasonAgainstStop_0 : decode cX4_reasonAgainstStop 0 = .ok (.aload_n 0, 1) := by decide +kernel
theorem dX4_reasonAgainstStop_1 : decode cX4_reasonAgainstStop 1 = .ok (.getfield 9, 3) := by decide +kernel
theorem dX4_reasonAgainstStop_4 : decode cX4_reasonAgainstStop 4 = .ok (.iconst 1, 1) := by decide +kernel
theorem dX4_reasonAgainstStop_5 : decode cX4_reasonAgainstStop 5 = .ok (.if_icmp .eq 5, 3) := by decide +kernel
theorem dX4_reasonAgainstStop_8 : decode cX4_reasonAgainstStop 8 = .ok (.iconst 2, 1) := by decide +kernel
theorem dX4_reasonAgainstStop_9 : decode cX4_reasonAgainstStop 9 = .ok (.ireturn, 1) := by decide +kernel
theorem dX4_reasonAgainstStop_10 : decode cX4_reasonAgainstStop 10 = .ok (.aload_n 0, 1) := by decide +kernel
theorem dX4_reasonAgainstStop_11 : decode cX4_reasonAgainstStop 11 = .ok (.getfield 56, 3) := by decide +kernel
theorem dX4_reasonAgainstStop_14 : decode cX4_reasonAgainstStop 14 = .ok (.ifCond .ne 7, 3) := by decide +kernel
theorem dX4_reasonAgainstStop_17 : decode cX4_reasonAgainstStop 17 = .ok (.iconst 0, 1) := by decide +kernel
theorem dX4_reasonAgainstStop_18 : decode cX4_reasonAgainstStop 18 = .ok (.goto 5, 3) := by decide +kernel
theorem dX4_reasonAgainstStop_21 : decode cX4_reasonAgainstStop 21 = .ok (.bipush 7, 2) := by decide +kernel
theorem dX4_reasonAgainstStop_23 : decode cX4_reasonAgainstStop 23 = .ok (.ireturn, 1) := by decide +kernel
def f_X4_reasonAgainstStop (v : tmM) : Option (Int32 × tmM) := (if (v 0 0) = 1 then (if (v 0 4) = 0 then some (0, v) else some (7, v)) else some (2, v))
set_option maxRecDepth 100000 in
set_option maxHeartbeats 4000000 in
theorem w_X4_reasonAgainstStop {p : Program} {l : Launch} {e : Env} {s : State} {m : MethodId} {args : Array Value} {below : List Frame} {meth : Method} {c : Code} {D : va_G} {cy : Nat → ClassId} {ad : Nat → Nat} {A : Nat → Prop} {z : (Int32 × tmM)} (C0 : tmC p s m args meth c cX4_reasonAgainstStop 1 (some .int) RX4 TMW tm_NWC D cy tm_shC ad 256 [] A) (v : tmM) : tmG p l e ({ frames := 0, cells := 0, slots := 0, locals := 0 } : Room) s m args below meth c 0 0 (MQ below (va_Qi (fun r u => z = (r, u)) (tmAt tm_shC 256 D cy ad A) A) args s 0 0 A) 1 D cy tm_shC ad 256 [] A z 0 [(0, .ref (ad 0))] [] v (f_X4_reasonAgainstStop v) := by
  unfold f_X4_reasonAgainstStop
  refine tg_aload_n 0 C0 dX4_reasonAgainstStop_0 rfl rfl ?_
  refine tg_get 0 0 C0 dX4_reasonAgainstStop_1 (by decide) rfl rfl tu_X4 (by decide) tf_X4_9 rfl rfl rfl ?_
  refine tg_iconst (x := 1) C0 dX4_reasonAgainstStop_4 (by decide) ?_
  refine tg_icmp_eq 10 C0 dX4_reasonAgainstStop_5 (by decide) (fun _ => ?_) (fun _ => ?_)
  · refine tg_aload_n 0 C0 dX4_reasonAgainstStop_10 rfl rfl ?_
    refine tg_get 0 4 C0 dX4_reasonAgainstStop_11 (by decide) rfl rfl tu_X4 (by decide) tf_X4_56 rfl rfl rfl ?_
    refine tg_if_ne 21 C0 dX4_reasonAgainstStop_14 (by decide) (fun _ => ?_) (fun _ => ?_)
    · refine tg_bipush (x := 7) C0 dX4_reasonAgainstStop_21 (by decide) ?_
      exact tg_iret C0 dX4_reasonAgainstStop_23
    · refine tg_iconst (x := 0) C0 dX4_reasonAgainstStop_17 (by decide) ?_
      refine tg_goto 23 C0 dX4_reasonAgainstStop_18 (by decide) ?_
      exact tg_iret C0 dX4_reasonAgainstStop_23
  · refine tg_iconst (x := 2) C0 dX4_reasonAgainstStop_8 (by decide) ?_
    exact tg_iret C0 dX4_reasonAgainstStop_9
theorem c_X4_reasonAgainstStop (l : Launch) (v : tmM) : tmMi tm_NWC tm_shC 256 l yX4_reasonAgainstStop (Cond.code yX4_reasonAgainstStop cX4_reasonAgainstStop 1 (some .int) :: TMW) ({ frames := 0, cells := 0, slots := 0, locals := 0 } : Room) (fun ad => [.ref (ad 0)]) v (f_X4_reasonAgainstStop v) :=
  tmMi.of (cc := cX4_reasonAgainstStop) (nL := 1) (by decide +kernel) rfl tm_NWC_ok (fun _ => Nat.le_of_ble_eq_true rfl) (fun p e s m args below meth c A D cy ad z C0 => w_X4_reasonAgainstStop C0 v)
-- ----- X4_reasonAgainstFinish
theorem dX4_reasonAgainstFinish_0 : decode cX4_reasonAgainstFinish 0 = .ok (.aload_n 0, 1) := by decide +kernel
theorem dX4_reasonAgainstFinish_1 : decode cX4_reasonAgainstFinish 1 = .ok (.getfield 9, 3) := by decide +kernel
theorem dX4_reasonAgainstFinish_4 : decode cX4_reasonAgainstFinish 4 = .ok (.iconst 2, 1) := by decide +kernel
theorem dX4_reasonAgainstFinish_5 : decode cX4_reasonAgainstFinish 5 = .ok (.if_icmp .eq 5, 3) := by decide +kernel
theorem dX4_reasonAgainstFinish_8 : decode cX4_reasonAgainstFinish 8 = .ok (.iconst 2, 1) := by decide +kernel
theorem dX4_reasonAgainstFinish_9 : decode cX4_reasonAgainstFinish 9 = .ok (.ireturn, 1) := by decide +kernel
theorem dX4_reasonAgainstFinish_10 : decode cX4_reasonAgainstFinish 10 = .ok (.aload_n 0, 1) := by decide +kernel
theorem dX4_reasonAgainstFinish_11 : decode cX4_reasonAgainstFinish 11 = .ok (.getfield 56, 3) := by decide +kernel
theorem dX4_reasonAgainstFinish_14 : decode cX4_reasonAgainstFinish 14 = .ok (.sipush 255, 3) := by decide +kernel
theorem dX4_reasonAgainstFinish_17 : decode cX4_reasonAgainstFinish 17 = .ok (.if_icmp .eq 6, 3) := by decide +kernel
theorem dX4_reasonAgainstFinish_20 : decode cX4_reasonAgainstFinish 20 = .ok (.bipush 7, 2) := by decide +kernel
theorem dX4_reasonAgainstFinish_22 : decode cX4_reasonAgainstFinish 22 = .ok (.ireturn, 1) := by decide +kernel
theorem dX4_reasonAgainstFinish_23 : decode cX4_reasonAgainstFinish 23 = .ok (.aload_n 0, 1) := by decide +kernel
theorem dX4_reasonAgainstFinish_24 : decode cX4_reasonAgainstFinish 24 = .ok (.getfield 15, 3) := by decide +kernel
theorem dX4_reasonAgainstFinish_27 : decode cX4_reasonAgainstFinish 27 = .ok (.iconst 1, 1) := by decide +kernel
theorem dX4_reasonAgainstFinish_28 : decode cX4_reasonAgainstFinish 28 = .ok (.invokestatic 78, 3) := by decide +kernel
theorem dX4_reasonAgainstFinish_31 : decode cX4_reasonAgainstFinish 31 = .ok (.ifCond .eq 7, 3) := by decide +kernel
theorem dX4_reasonAgainstFinish_34 : decode cX4_reasonAgainstFinish 34 = .ok (.iconst 0, 1) := by decide +kernel
theorem dX4_reasonAgainstFinish_35 : decode cX4_reasonAgainstFinish 35 = .ok (.goto 4, 3) := by decide +kernel
theorem dX4_reasonAgainstFinish_38 : decode cX4_reasonAgainstFinish 38 = .ok (.iconst 1, 1) := by decide +kernel
theorem dX4_reasonAgainstFinish_39 : decode cX4_reasonAgainstFinish 39 = .ok (.ireturn, 1) := by decide +kernel
def f_X4_reasonAgainstFinish (v : tmM) : Option (Int32 × tmM) := (if (v 0 0) = 2 then (if (v 0 4) = 255 then tm_cl (f_X7_has (v 0 1) 1 v) fun r2 v1 => (if r2 = 0 then some (1, v1) else some (0, v1)) else some (7, v)) else some (2, v))
set_option maxRecDepth 100000 in
set_option maxHeartbeats 4000000 in
theorem w_X4_reasonAgainstFinish {p : Program} {l : Launch} {e : Env} {s : State} {m : MethodId} {args : Array Value} {below : List Frame} {meth : Method} {c : Code} {D : va_G} {cy : Nat → ClassId} {ad : Nat → Nat} {A : Nat → Prop} {z : (Int32 × tmM)} (C0 : tmC p s m args meth c cX4_reasonAgainstFinish 1 (some .int) RX4 TMW tm_NWC D cy tm_shC ad 256 [] A) (v : tmM) : tmG p l e ({ frames := 1, cells := 0, slots := 0, locals := 21 } : Room) s m args below meth c 0 0 (MQ below (va_Qi (fun r u => z = (r, u)) (tmAt tm_shC 256 D cy ad A) A) args s 0 0 A) 1 D cy tm_shC ad 256 [] A z 0 [(0, .ref (ad 0))] [] v (f_X4_reasonAgainstFinish v) := by
  unfold f_X4_reasonAgainstFinish
  refine tg_aload_n 0 C0 dX4_reasonAgainstFinish_0 rfl rfl ?_
  refine tg_get 0 0 C0 dX4_reasonAgainstFinish_1 (by decide) rfl rfl tu_X4 (by decide) tf_X4_9 rfl rfl rfl ?_
  refine tg_iconst (x := 2) C0 dX4_reasonAgainstFinish_4 (by decide) ?_
  refine tg_icmp_eq 10 C0 dX4_reasonAgainstFinish_5 (by decide) (fun _ => ?_) (fun _ => ?_)
  · refine tg_aload_n 0 C0 dX4_reasonAgainstFinish_10 rfl rfl ?_
    refine tg_get 0 4 C0 dX4_reasonAgainstFinish_11 (by decide) rfl rfl tu_X4 (by decide) tf_X4_56 rfl rfl rfl ?_
    refine tg_sipush (x := 255) C0 dX4_reasonAgainstFinish_14 (by decide) ?_
    refine tg_icmp_eq 23 C0 dX4_reasonAgainstFinish_17 (by decide) (fun _ => ?_) (fun _ => ?_)
    · refine tg_aload_n 0 C0 dX4_reasonAgainstFinish_23 rfl rfl ?_
      refine tg_get 0 1 C0 dX4_reasonAgainstFinish_24 (by decide) rfl rfl tu_X4 (by decide) tf_X4_15 rfl rfl rfl ?_
      refine tg_iconst (x := 1) C0 dX4_reasonAgainstFinish_27 (by decide) ?_
      refine tg_callSNi (As := [.int (v 0 1), .int 1]) 2 C0 dX4_reasonAgainstFinish_28 (c_X7_has l (v 0 1) 1 v) rfl rfl (tm_gc tc_X7_has) tm_nwC_X4_78 tn_X7 tst_X7_has rfl rfl rfl rfl (by decide +kernel) ⟨by decide, by decide⟩ (Nat.le_of_ble_eq_true rfl) ⟨by decide, by decide⟩ (fun r2 v1 _ => ?_)
      refine tg_if_eq 38 C0 dX4_reasonAgainstFinish_31 (by decide) (fun _ => ?_) (fun _ => ?_)
      · refine tg_iconst (x := 1) C0 dX4_reasonAgainstFinish_38 (by decide) ?_
        exact tg_iret C0 dX4_reasonAgainstFinish_39
      · refine tg_iconst (x := 0) C0 dX4_reasonAgainstFinish_34 (by decide) ?_
        refine tg_goto 39 C0 dX4_reasonAgainstFinish_35 (by decide) ?_
        exact tg_iret C0 dX4_reasonAgainstFinish_39
    · refine tg_bipush (x := 7) C0 dX4_reasonAgainstFinish_20 (by decide) ?_
      exact tg_iret C0 dX4_reasonAgainstFinish_22
  · refine tg_iconst (x := 2) C0 dX4_reasonAgainstFinish_8 (by decide) ?_
    exact tg_iret C0 dX4_reasonAgainstFinish_9
theorem c_X4_reasonAgainstFinish (l : Launch) (v : tmM) : tmMi tm_NWC tm_shC 256 l yX4_reasonAgainstFinish (Cond.code yX4_reasonAgainstFinish cX4_reasonAgainstFinish 1 (some .int) :: TMW) ({ frames := 1, cells := 0, slots := 0, locals := 21 } : Room) (fun ad => [.ref (ad 0)]) v (f_X4_reasonAgainstFinish v) :=
  tmMi.of (cc := cX4_reasonAgainstFinish) (nL := 1) (by decide +kernel) rfl tm_NWC_ok (fun _ => Nat.le_of_ble_eq_true rfl) (fun p e s m args below meth c A D cy ad z C0 => w_X4_reasonAgainstFinish C0 v)
-- ----- X4_reasonAgainst
theorem dX4_reasonAgainst_0 : decode cX4_reasonAgainst 0 = .ok (.iload_n 1, 1) := by decide +kernel
theorem dX4_reasonAgainst_1 : decode cX4_reasonAgainst 1 = .ok (.tableswitch 110 0 9 #[55, 60, 65, 70, 76, 82, 88, 93, 99, 105], 55) := by decide +kernel
theorem dX4_reasonAgainst_56 : decode cX4_reasonAgainst 56 = .ok (.aload_n 0, 1) := by decide +kernel
theorem dX4_reasonAgainst_57 : decode cX4_reasonAgainst 57 = .ok (.invokevirtual 90, 3) := by decide +kernel
theorem dX4_reasonAgainst_60 : decode cX4_reasonAgainst 60 = .ok (.ireturn, 1) := by decide +kernel
theorem dX4_reasonAgainst_61 : decode cX4_reasonAgainst 61 = .ok (.aload_n 0, 1) := by decide +kernel
theorem dX4_reasonAgainst_62 : decode cX4_reasonAgainst 62 = .ok (.invokevirtual 93, 3) := by decide +kernel
theorem dX4_reasonAgainst_65 : decode cX4_reasonAgainst 65 = .ok (.ireturn, 1) := by decide +kernel
theorem dX4_reasonAgainst_66 : decode cX4_reasonAgainst 66 = .ok (.aload_n 0, 1) := by decide +kernel
theorem dX4_reasonAgainst_67 : decode cX4_reasonAgainst 67 = .ok (.invokevirtual 96, 3) := by decide +kernel
theorem dX4_reasonAgainst_70 : decode cX4_reasonAgainst 70 = .ok (.ireturn, 1) := by decide +kernel
theorem dX4_reasonAgainst_71 : decode cX4_reasonAgainst 71 = .ok (.aload_n 0, 1) := by decide +kernel
theorem dX4_reasonAgainst_72 : decode cX4_reasonAgainst 72 = .ok (.iload_n 2, 1) := by decide +kernel
theorem dX4_reasonAgainst_73 : decode cX4_reasonAgainst 73 = .ok (.invokevirtual 99, 3) := by decide +kernel
theorem dX4_reasonAgainst_76 : decode cX4_reasonAgainst 76 = .ok (.ireturn, 1) := by decide +kernel
theorem dX4_reasonAgainst_77 : decode cX4_reasonAgainst 77 = .ok (.aload_n 0, 1) := by decide +kernel
theorem dX4_reasonAgainst_78 : decode cX4_reasonAgainst 78 = .ok (.iload_n 2, 1) := by decide +kernel
theorem dX4_reasonAgainst_79 : decode cX4_reasonAgainst 79 = .ok (.invokevirtual 103, 3) := by decide +kernel
theorem dX4_reasonAgainst_82 : decode cX4_reasonAgainst 82 = .ok (.ireturn, 1) := by decide +kernel
theorem dX4_reasonAgainst_83 : decode cX4_reasonAgainst 83 = .ok (.aload_n 0, 1) := by decide +kernel
theorem dX4_reasonAgainst_84 : decode cX4_reasonAgainst 84 = .ok (.iload_n 2, 1) := by decide +kernel
theorem dX4_reasonAgainst_85 : decode cX4_reasonAgainst 85 = .ok (.invokevirtual 106, 3) := by decide +kernel
theorem dX4_reasonAgainst_88 : decode cX4_reasonAgainst 88 = .ok (.ireturn, 1) := by decide +kernel
theorem dX4_reasonAgainst_89 : decode cX4_reasonAgainst 89 = .ok (.aload_n 0, 1) := by decide +kernel
theorem dX4_reasonAgainst_90 : decode cX4_reasonAgainst 90 = .ok (.invokevirtual 109, 3) := by decide +kernel
theorem dX4_reasonAgainst_93 : decode cX4_reasonAgainst 93 = .ok (.ireturn, 1) := by decide +kernel
theorem dX4_reasonAgainst_94 : decode cX4_reasonAgainst 94 = .ok (.aload_n 0, 1) := by decide +kernel
theorem dX4_reasonAgainst_95 : decode cX4_reasonAgainst 95 = .ok (.iconst 1, 1) := by decide +kernel
theorem dX4_reasonAgainst_96 : decode cX4_reasonAgainst 96 = .ok (.invokevirtual 112, 3) := by decide +kernel
theorem dX4_reasonAgainst_99 : decode cX4_reasonAgainst 99 = .ok (.ireturn, 1) := by decide +kernel
theorem dX4_reasonAgainst_100 : decode cX4_reasonAgainst 100 = .ok (.aload_n 0, 1) := by decide +kernel
theorem dX4_reasonAgainst_101 : decode cX4_reasonAgainst 101 = .ok (.iconst 0, 1) := by decide +kernel
theorem dX4_reasonAgainst_102 : decode cX4_reasonAgainst 102 = .ok (.invokevirtual 112, 3) := by decide +kernel
theorem dX4_reasonAgainst_105 : decode cX4_reasonAgainst 105 = .ok (.ireturn, 1) := by decide +kernel
theorem dX4_reasonAgainst_106 : decode cX4_reasonAgainst 106 = .ok (.aload_n 0, 1) := by decide +kernel
theorem dX4_reasonAgainst_107 : decode cX4_reasonAgainst 107 = .ok (.invokevirtual 116, 3) := by decide +kernel
theorem dX4_reasonAgainst_110 : decode cX4_reasonAgainst 110 = .ok (.ireturn, 1) := by decide +kernel
theorem dX4_reasonAgainst_111 : decode cX4_reasonAgainst 111 = .ok (.aload_n 0, 1) := by decide +kernel
theorem dX4_reasonAgainst_112 : decode cX4_reasonAgainst 112 = .ok (.invokevirtual 119, 3) := by decide +kernel
theorem dX4_reasonAgainst_115 : decode cX4_reasonAgainst 115 = .ok (.ireturn, 1) := by decide +kernel
theorem tl_X4_90 : Cond.methodLink RX4 90 yX4_reasonAgainstBegin ∈ TMW := tm_in 600 (by decide +kernel) (by decide +kernel)
theorem ti_X4_reasonAgainstBegin : Cond.instanceMethod yX4_reasonAgainstBegin ∈ TMW := tm_in 602 (by decide +kernel) (by decide +kernel)
theorem ts_X4_reasonAgainstBegin : Cond.selects RX4 yX4_reasonAgainstBegin yX4_reasonAgainstBegin ∈ TMW := tm_in 16 (by decide +kernel) (by decide +kernel)
theorem tc_X4_reasonAgainstBegin : Cond.code yX4_reasonAgainstBegin cX4_reasonAgainstBegin 1 (some .int) ∈ TMW := tm_in 603 (by decide +kernel) (by decide +kernel)
theorem tl_X4_93 : Cond.methodLink RX4 93 yX4_reasonAgainstCopy ∈ TMW := tm_in 604 (by decide +kernel) (by decide +kernel)
theorem ti_X4_reasonAgainstCopy : Cond.instanceMethod yX4_reasonAgainstCopy ∈ TMW := tm_in 606 (by decide +kernel) (by decide +kernel)
theorem ts_X4_reasonAgainstCopy : Cond.selects RX4 yX4_reasonAgainstCopy yX4_reasonAgainstCopy ∈ TMW := tm_in 17 (by decide +kernel) (by decide +kernel)
theorem tc_X4_reasonAgainstCopy : Cond.code yX4_reasonAgainstCopy cX4_reasonAgainstCopy 1 (some .int) ∈ TMW := tm_in 607 (by decide +kernel) (by decide +kernel)
theorem tl_X4_96 : Cond.methodLink RX4 96 yX4_reasonAgainstRepair ∈ TMW := tm_in 608 (by decide +kernel) (by decide +kernel)
theorem ti_X4_reasonAgainstRepair : Cond.instanceMethod yX4_reasonAgainstRepair ∈ TMW := tm_in 610 (by decide +kernel) (by decide +kernel)
theorem ts_X4_reasonAgainstRepair : Cond.selects RX4 yX4_reasonAgainstRepair yX4_reasonAgainstRepair ∈ TMW := tm_in 18 (by decide +kernel) (by decide +kernel)
theorem tc_X4_reasonAgainstRepair : Cond.code yX4_reasonAgainstRepair cX4_reasonAgainstRepair 1 (some .int) ∈ TMW := tm_in 611 (by decide +kernel) (by decide +kernel)
theorem tl_X4_99 : Cond.methodLink RX4 99 yX4_reasonAgainstCheck ∈ TMW := tm_in 612 (by decide +kernel) (by decide +kernel)
theorem ti_X4_reasonAgainstCheck : Cond.instanceMethod yX4_reasonAgainstCheck ∈ TMW := tm_in 614 (by decide +kernel) (by decide +kernel)
theorem ts_X4_reasonAgainstCheck : Cond.selects RX4 yX4_reasonAgainstCheck yX4_reasonAgainstCheck ∈ TMW := tm_in 19 (by decide +kernel) (by decide +kernel)
theorem tc_X4_reasonAgainstCheck : Cond.code yX4_reasonAgainstCheck cX4_reasonAgainstCheck 2 (some .int) ∈ TMW := tm_in 615 (by decide +kernel) (by decide +kernel)
theorem tl_X4_103 : Cond.methodLink RX4 103 yX4_reasonAgainstSwitchOver ∈ TMW := tm_in 620 (by decide +kernel) (by decide +kernel)
theorem ti_X4_reasonAgainstSwitchOver : Cond.instanceMethod yX4_reasonAgainstSwitchOver ∈ TMW := tm_in 622 (by decide +kernel) (by decide +kernel)
theorem ts_X4_reasonAgainstSwitchOver : Cond.selects RX4 yX4_reasonAgainstSwitchOver yX4_reasonAgainstSwitchOver ∈ TMW := tm_in 20 (by decide +kernel) (by decide +kernel)
theorem tc_X4_reasonAgainstSwitchOver : Cond.code yX4_reasonAgainstSwitchOver cX4_reasonAgainstSwitchOver 2 (some .int) ∈ TMW := tm_in 623 (by decide +kernel) (by decide +kernel)
theorem tl_X4_106 : Cond.methodLink RX4 106 yX4_reasonAgainstSwitchBack ∈ TMW := tm_in 624 (by decide +kernel) (by decide +kernel)
theorem ti_X4_reasonAgainstSwitchBack : Cond.instanceMethod yX4_reasonAgainstSwitchBack ∈ TMW := tm_in 626 (by decide +kernel) (by decide +kernel)
theorem ts_X4_reasonAgainstSwitchBack : Cond.selects RX4 yX4_reasonAgainstSwitchBack yX4_reasonAgainstSwitchBack ∈ TMW := tm_in 21 (by decide +kernel) (by decide +kernel)
theorem tc_X4_reasonAgainstSwitchBack : Cond.code yX4_reasonAgainstSwitchBack cX4_reasonAgainstSwitchBack 2 (some .int) ∈ TMW := tm_in 627 (by decide +kernel) (by decide +kernel)
theorem tl_X4_109 : Cond.methodLink RX4 109 yX4_reasonAgainstLead ∈ TMW := tm_in 628 (by decide +kernel) (by decide +kernel)
theorem ti_X4_reasonAgainstLead : Cond.instanceMethod yX4_reasonAgainstLead ∈ TMW := tm_in 630 (by decide +kernel) (by decide +kernel)
theorem ts_X4_reasonAgainstLead : Cond.selects RX4 yX4_reasonAgainstLead yX4_reasonAgainstLead ∈ TMW := tm_in 22 (by decide +kernel) (by decide +kernel)
theorem tc_X4_reasonAgainstLead : Cond.code yX4_reasonAgainstLead cX4_reasonAgainstLead 1 (some .int) ∈ TMW := tm_in 631 (by decide +kernel) (by decide +kernel)
theorem tl_X4_112 : Cond.methodLink RX4 112 yX4_reasonAgainstGoBack ∈ TMW := tm_in 647 (by decide +kernel) (by decide +kernel)
theorem ti_X4_reasonAgainstGoBack : Cond.instanceMethod yX4_reasonAgainstGoBack ∈ TMW := tm_in 649 (by decide +kernel) (by decide +kernel)
theorem ts_X4_reasonAgainstGoBack : Cond.selects RX4 yX4_reasonAgainstGoBack yX4_reasonAgainstGoBack ∈ TMW := tm_in 23 (by decide +kernel) (by decide +kernel)
theorem tc_X4_reasonAgainstGoBack : Cond.code yX4_reasonAgainstGoBack cX4_reasonAgainstGoBack 2 (some .int) ∈ TMW := tm_in 650 (by decide +kernel) (by decide +kernel)
theorem tl_X4_116 : Cond.methodLink RX4 116 yX4_reasonAgainstStop ∈ TMW := tm_in 651 (by decide +kernel) (by decide +kernel)
theorem ti_X4_reasonAgainstStop : Cond.instanceMethod yX4_reasonAgainstStop ∈ TMW := tm_in 653 (by decide +kernel) (by decide +kernel)
theorem ts_X4_reasonAgainstStop : Cond.selects RX4 yX4_reasonAgainstStop yX4_reasonAgainstStop ∈ TMW := tm_in 24 (by decide +kernel) (by decide +kernel)
theorem tc_X4_reasonAgainstStop : Cond.code yX4_reasonAgainstStop cX4_reasonAgainstStop 1 (some .int) ∈ TMW := tm_in 654 (by decide +kernel) (by decide +kernel)
theorem tl_X4_119 : Cond.methodLink RX4 119 yX4_reasonAgainstFinish ∈ TMW := tm_in 655 (by decide +kernel) (by decide +kernel)
theorem ti_X4_reasonAgainstFinish : Cond.instanceMethod yX4_reasonAgainstFinish ∈ TMW := tm_in 657 (by decide +kernel) (by decide +kernel)
theorem ts_X4_reasonAgainstFinish : Cond.selects RX4 yX4_reasonAgainstFinish yX4_reasonAgainstFinish ∈ TMW := tm_in 25 (by decide +kernel) (by decide +kernel)
theorem tc_X4_reasonAgainstFinish : Cond.code yX4_reasonAgainstFinish cX4_reasonAgainstFinish 1 (some .int) ∈ TMW := tm_in 658 (by decide +kernel) (by decide +kernel)
def f_X4_reasonAgainst (x1 x2 : Int32) (v : tmM) : Option (Int32 × tmM) := (if x1 = 0 then tm_cl (f_X4_reasonAgainstBegin v) fun r2 v1 => some (r2, v1) else if x1 = 1 then tm_cl (f_X4_reasonAgainstCopy v) fun r5 v4 => some (r5, v4) else if x1 = 2 then tm_cl (f_X4_reasonAgainstRepair v) fun r8 v7 => some (r8, v7) else if x1 = 3 then tm_cl (f_X4_reasonAgainstCheck x2 v) fun r11 v10 => some (r11, v10) else if x1 = 4 then tm_cl (f_X4_reasonAgainstSwitchOver x2 v) fun r14 v13 => some (r14, v13) else if x1 = 5 then tm_cl (f_X4_reasonAgainstSwitchBack x2 v) fun r17 v16 => some (r17, v16) else if x1 = 6 then tm_cl (f_X4_reasonAgainstLead v) fun r20 v19 => some (r20, v19) else if x1 = 7 then tm_cl (f_X4_reasonAgainstGoBack 1 v) fun r23 v22 => some (r23, v22) else if x1 = 8 then tm_cl (f_X4_reasonAgainstGoBack 0 v) fun r26 v25 => some (r26, v25) else if x1 = 9 then tm_cl (f_X4_reasonAgainstStop v) fun r29 v28 => some (r29, v28) else tm_cl (f_X4_reasonAgainstFinish v) fun r32 v31 => some (r32, v31))
set_option maxRecDepth 100000 in
set_option maxHeartbeats 4000000 in
theorem w_X4_reasonAgainst {p : Program} {l : Launch} {e : Env} {s : State} {m : MethodId} {args : Array Value} {below : List Frame} {meth : Method} {c : Code} {D : va_G} {cy : Nat → ClassId} {ad : Nat → Nat} {A : Nat → Prop} {z : (Int32 × tmM)} (C0 : tmC p s m args meth c cX4_reasonAgainst 3 (some .int) RX4 TMW tm_NWC D cy tm_shC ad 256 [] A) (x1 x2 : Int32) (v : tmM) : tmG p l e ({ frames := 4, cells := 0, slots := 0, locals := 90 } : Room) s m args below meth c 0 0 (MQ below (va_Qi (fun r u => z = (r, u)) (tmAt tm_shC 256 D cy ad A) A) args s 0 0 A) 3 D cy tm_shC ad 256 [] A z 0 [(0, .ref (ad 0)), (1, .int x1), (2, .int x2)] [] v (f_X4_reasonAgainst x1 x2 v) := by
  unfold f_X4_reasonAgainst
  refine tg_iload_n 1 C0 dX4_reasonAgainst_0 rfl rfl ?_
  refine tg_tab 0 (cst := 0) 56 tg_tab0 C0 dX4_reasonAgainst_1 (by decide) rfl (by decide) (by decide) (fun _ => ?_) (fun h3 => ?_)
  · refine tg_aload_n 0 C0 dX4_reasonAgainst_56 rfl rfl ?_
    refine tg_callVi (As := []) 0 0 C0 dX4_reasonAgainst_57 (c_X4_reasonAgainstBegin l v) rfl rfl (by decide) rfl rfl (tm_gV tl_X4_90 ti_X4_reasonAgainstBegin ts_X4_reasonAgainstBegin tn_X4 tc_X4_reasonAgainstBegin)  rfl rfl rfl rfl (by decide +kernel) ⟨by decide, by decide⟩ (Nat.le_of_ble_eq_true rfl) ⟨by decide, by decide⟩ (fun r2 v1 _ => ?_)
    exact tg_iret C0 dX4_reasonAgainst_60
  refine tg_tab 1 (cst := 1) 61 h3 C0 dX4_reasonAgainst_1 (by decide) rfl (by decide) (by decide) (fun _ => ?_) (fun h6 => ?_)
  · refine tg_aload_n 0 C0 dX4_reasonAgainst_61 rfl rfl ?_
    refine tg_callVi (As := []) 0 0 C0 dX4_reasonAgainst_62 (c_X4_reasonAgainstCopy l v) rfl rfl (by decide) rfl rfl (tm_gV tl_X4_93 ti_X4_reasonAgainstCopy ts_X4_reasonAgainstCopy tn_X4 tc_X4_reasonAgainstCopy)  rfl rfl rfl rfl (by decide +kernel) ⟨by decide, by decide⟩ (Nat.le_of_ble_eq_true rfl) ⟨by decide, by decide⟩ (fun r5 v4 _ => ?_)
    exact tg_iret C0 dX4_reasonAgainst_65
  refine tg_tab 2 (cst := 2) 66 h6 C0 dX4_reasonAgainst_1 (by decide) rfl (by decide) (by decide) (fun _ => ?_) (fun h9 => ?_)
  · refine tg_aload_n 0 C0 dX4_reasonAgainst_66 rfl rfl ?_
    refine tg_callVi (As := []) 0 0 C0 dX4_reasonAgainst_67 (c_X4_reasonAgainstRepair l v) rfl rfl (by decide) rfl rfl (tm_gV tl_X4_96 ti_X4_reasonAgainstRepair ts_X4_reasonAgainstRepair tn_X4 tc_X4_reasonAgainstRepair)  rfl rfl rfl rfl (by decide +kernel) ⟨by decide, by decide⟩ (Nat.le_of_ble_eq_true rfl) ⟨by decide, by decide⟩ (fun r8 v7 _ => ?_)
    exact tg_iret C0 dX4_reasonAgainst_70
  refine tg_tab 3 (cst := 3) 71 h9 C0 dX4_reasonAgainst_1 (by decide) rfl (by decide) (by decide) (fun _ => ?_) (fun h12 => ?_)
  · refine tg_aload_n 0 C0 dX4_reasonAgainst_71 rfl rfl ?_
    refine tg_iload_n 2 C0 dX4_reasonAgainst_72 rfl rfl ?_
    refine tg_callVi (As := [.int x2]) 0 1 C0 dX4_reasonAgainst_73 (c_X4_reasonAgainstCheck l x2 v) rfl rfl (by decide) rfl rfl (tm_gV tl_X4_99 ti_X4_reasonAgainstCheck ts_X4_reasonAgainstCheck tn_X4 tc_X4_reasonAgainstCheck)  rfl rfl rfl rfl (by decide +kernel) ⟨by decide, by decide⟩ (Nat.le_of_ble_eq_true rfl) ⟨by decide, by decide⟩ (fun r11 v10 _ => ?_)
    exact tg_iret C0 dX4_reasonAgainst_76
  refine tg_tab 4 (cst := 4) 77 h12 C0 dX4_reasonAgainst_1 (by decide) rfl (by decide) (by decide) (fun _ => ?_) (fun h15 => ?_)
  · refine tg_aload_n 0 C0 dX4_reasonAgainst_77 rfl rfl ?_
    refine tg_iload_n 2 C0 dX4_reasonAgainst_78 rfl rfl ?_
    refine tg_callVi (As := [.int x2]) 0 1 C0 dX4_reasonAgainst_79 (c_X4_reasonAgainstSwitchOver l x2 v) rfl rfl (by decide) rfl rfl (tm_gV tl_X4_103 ti_X4_reasonAgainstSwitchOver ts_X4_reasonAgainstSwitchOver tn_X4 tc_X4_reasonAgainstSwitchOver)  rfl rfl rfl rfl (by decide +kernel) ⟨by decide, by decide⟩ (Nat.le_of_ble_eq_true rfl) ⟨by decide, by decide⟩ (fun r14 v13 _ => ?_)
    exact tg_iret C0 dX4_reasonAgainst_82
  refine tg_tab 5 (cst := 5) 83 h15 C0 dX4_reasonAgainst_1 (by decide) rfl (by decide) (by decide) (fun _ => ?_) (fun h18 => ?_)
  · refine tg_aload_n 0 C0 dX4_reasonAgainst_83 rfl rfl ?_
    refine tg_iload_n 2 C0 dX4_reasonAgainst_84 rfl rfl ?_
    refine tg_callVi (As := [.int x2]) 0 1 C0 dX4_reasonAgainst_85 (c_X4_reasonAgainstSwitchBack l x2 v) rfl rfl (by decide) rfl rfl (tm_gV tl_X4_106 ti_X4_reasonAgainstSwitchBack ts_X4_reasonAgainstSwitchBack tn_X4 tc_X4_reasonAgainstSwitchBack)  rfl rfl rfl rfl (by decide +kernel) ⟨by decide, by decide⟩ (Nat.le_of_ble_eq_true rfl) ⟨by decide, by decide⟩ (fun r17 v16 _ => ?_)
    exact tg_iret C0 dX4_reasonAgainst_88
  refine tg_tab 6 (cst := 6) 89 h18 C0 dX4_reasonAgainst_1 (by decide) rfl (by decide) (by decide) (fun _ => ?_) (fun h21 => ?_)
  · refine tg_aload_n 0 C0 dX4_reasonAgainst_89 rfl rfl ?_
    refine tg_callVi (As := []) 0 0 C0 dX4_reasonAgainst_90 (c_X4_reasonAgainstLead l v) rfl rfl (by decide) rfl rfl (tm_gV tl_X4_109 ti_X4_reasonAgainstLead ts_X4_reasonAgainstLead tn_X4 tc_X4_reasonAgainstLead)  rfl rfl rfl rfl (by decide +kernel) ⟨by decide, by decide⟩ (Nat.le_of_ble_eq_true rfl) ⟨by decide, by decide⟩ (fun r20 v19 _ => ?_)
    exact tg_iret C0 dX4_reasonAgainst_93
  refine tg_tab 7 (cst := 7) 94 h21 C0 dX4_reasonAgainst_1 (by decide) rfl (by decide) (by decide) (fun _ => ?_) (fun h24 => ?_)
  · refine tg_aload_n 0 C0 dX4_reasonAgainst_94 rfl rfl ?_
    refine tg_iconst (x := 1) C0 dX4_reasonAgainst_95 (by decide) ?_
    refine tg_callVi (As := [.int 1]) 0 1 C0 dX4_reasonAgainst_96 (c_X4_reasonAgainstGoBack l 1 v) rfl rfl (by decide) rfl rfl (tm_gV tl_X4_112 ti_X4_reasonAgainstGoBack ts_X4_reasonAgainstGoBack tn_X4 tc_X4_reasonAgainstGoBack)  rfl rfl rfl rfl (by decide +kernel) ⟨by decide, by decide⟩ (Nat.le_of_ble_eq_true rfl) ⟨by decide, by decide⟩ (fun r23 v22 _ => ?_)
    exact tg_iret C0 dX4_reasonAgainst_99
  refine tg_tab 8 (cst := 8) 100 h24 C0 dX4_reasonAgainst_1 (by decide) rfl (by decide) (by decide) (fun _ => ?_) (fun h27 => ?_)
  · refine tg_aload_n 0 C0 dX4_reasonAgainst_100 rfl rfl ?_
    refine tg_iconst (x := 0) C0 dX4_reasonAgainst_101 (by decide) ?_
    refine tg_callVi (As := [.int 0]) 0 1 C0 dX4_reasonAgainst_102 (c_X4_reasonAgainstGoBack l 0 v) rfl rfl (by decide) rfl rfl (tm_gV tl_X4_112 ti_X4_reasonAgainstGoBack ts_X4_reasonAgainstGoBack tn_X4 tc_X4_reasonAgainstGoBack)  rfl rfl rfl rfl (by decide +kernel) ⟨by decide, by decide⟩ (Nat.le_of_ble_eq_true rfl) ⟨by decide, by decide⟩ (fun r26 v25 _ => ?_)
    exact tg_iret C0 dX4_reasonAgainst_105
  refine tg_tab 9 (cst := 9) 106 h27 C0 dX4_reasonAgainst_1 (by decide) rfl (by decide) (by decide) (fun _ => ?_) (fun h30 => ?_)
  · refine tg_aload_n 0 C0 dX4_reasonAgainst_106 rfl rfl ?_
    refine tg_callVi (As := []) 0 0 C0 dX4_reasonAgainst_107 (c_X4_reasonAgainstStop l v) rfl rfl (by decide) rfl rfl (tm_gV tl_X4_116 ti_X4_reasonAgainstStop ts_X4_reasonAgainstStop tn_X4 tc_X4_reasonAgainstStop)  rfl rfl rfl rfl (by decide +kernel) ⟨by decide, by decide⟩ (Nat.le_of_ble_eq_true rfl) ⟨by decide, by decide⟩ (fun r29 v28 _ => ?_)
    exact tg_iret C0 dX4_reasonAgainst_110
  refine tg_tabO 10 111 h30 C0 dX4_reasonAgainst_1 (by decide) (by decide) ?_
  refine tg_aload_n 0 C0 dX4_reasonAgainst_111 rfl rfl ?_
  refine tg_callVi (As := []) 0 0 C0 dX4_reasonAgainst_112 (c_X4_reasonAgainstFinish l v) rfl rfl (by decide) rfl rfl (tm_gV tl_X4_119 ti_X4_reasonAgainstFinish ts_X4_reasonAgainstFinish tn_X4 tc_X4_reasonAgainstFinish)  rfl rfl rfl rfl (by decide +kernel) ⟨by decide, by decide⟩ (Nat.le_of_ble_eq_true rfl) ⟨by decide, by decide⟩ (fun r32 v31 _ => ?_)
  exact tg_iret C0 dX4_reasonAgainst_115
theorem c_X4_reasonAgainst (l : Launch) (x1 x2 : Int32) (v : tmM) : tmMi tm_NWC tm_shC 256 l yX4_reasonAgainst (Cond.code yX4_reasonAgainst cX4_reasonAgainst 3 (some .int) :: TMW) ({ frames := 4, cells := 0, slots := 0, locals := 90 } : Room) (fun ad => [.ref (ad 0), .int x1, .int x2]) v (f_X4_reasonAgainst x1 x2 v) :=
  tmMi.of (cc := cX4_reasonAgainst) (nL := 3) (by decide +kernel) rfl tm_NWC_ok (fun _ => Nat.le_of_ble_eq_true rfl) (fun p e s m args below meth c A D cy ad z C0 => w_X4_reasonAgainst C0 x1 x2 v)
-- ----- X4_nextActOfDouble
theorem dX4_nextActOfDouble_0 : decode cX4_nextActOfDouble 0 = .ok (.aload_n 0, 1) := by decide +kernel
theorem dX4_nextActOfDouble_1 : decode cX4_nextActOfDouble 1 = .ok (.getfield 28, 3) := by decide +kernel
theorem dX4_nextActOfDouble_4 : decode cX4_nextActOfDouble 4 = .ok (.getfield 130, 3) := by decide +kernel
theorem dX4_nextActOfDouble_7 : decode cX4_nextActOfDouble 7 = .ok (.ifCond .le 5, 3) := by decide +kernel
theorem dX4_nextActOfDouble_10 : decode cX4_nextActOfDouble 10 = .ok (.iconst 2, 1) := by decide +kernel
theorem dX4_nextActOfDouble_11 : decode cX4_nextActOfDouble 11 = .ok (.ireturn, 1) := by decide +kernel
theorem dX4_nextActOfDouble_12 : decode cX4_nextActOfDouble 12 = .ok (.aload_n 0, 1) := by decide +kernel
theorem dX4_nextActOfDouble_13 : decode cX4_nextActOfDouble 13 = .ok (.getfield 50, 3) := by decide +kernel
theorem dX4_nextActOfDouble_16 : decode cX4_nextActOfDouble 16 = .ok (.sipush 32767, 3) := by decide +kernel
theorem dX4_nextActOfDouble_19 : decode cX4_nextActOfDouble 19 = .ok (.if_icmp .eq 5, 3) := by decide +kernel
theorem dX4_nextActOfDouble_22 : decode cX4_nextActOfDouble 22 = .ok (.iconst 1, 1) := by decide +kernel
theorem dX4_nextActOfDouble_23 : decode cX4_nextActOfDouble 23 = .ok (.ireturn, 1) := by decide +kernel
theorem dX4_nextActOfDouble_24 : decode cX4_nextActOfDouble 24 = .ok (.aload_n 0, 1) := by decide +kernel
theorem dX4_nextActOfDouble_25 : decode cX4_nextActOfDouble 25 = .ok (.getfield 53, 3) := by decide +kernel
theorem dX4_nextActOfDouble_28 : decode cX4_nextActOfDouble 28 = .ok (.sipush 32767, 3) := by decide +kernel
theorem dX4_nextActOfDouble_31 : decode cX4_nextActOfDouble 31 = .ok (.if_icmp .eq 5, 3) := by decide +kernel
theorem dX4_nextActOfDouble_34 : decode cX4_nextActOfDouble 34 = .ok (.iconst 3, 1) := by decide +kernel
theorem dX4_nextActOfDouble_35 : decode cX4_nextActOfDouble 35 = .ok (.ireturn, 1) := by decide +kernel
theorem dX4_nextActOfDouble_36 : decode cX4_nextActOfDouble 36 = .ok (.aload_n 0, 1) := by decide +kernel
theorem dX4_nextActOfDouble_37 : decode cX4_nextActOfDouble 37 = .ok (.getfield 56, 3) := by decide +kernel
theorem dX4_nextActOfDouble_40 : decode cX4_nextActOfDouble 40 = .ok (.sipush 255, 3) := by decide +kernel
theorem dX4_nextActOfDouble_43 : decode cX4_nextActOfDouble 43 = .ok (.if_icmp .eq 7, 3) := by decide +kernel
theorem dX4_nextActOfDouble_46 : decode cX4_nextActOfDouble 46 = .ok (.iconst 4, 1) := by decide +kernel
theorem dX4_nextActOfDouble_47 : decode cX4_nextActOfDouble 47 = .ok (.goto 5, 3) := by decide +kernel
theorem dX4_nextActOfDouble_50 : decode cX4_nextActOfDouble 50 = .ok (.bipush 6, 2) := by decide +kernel
theorem dX4_nextActOfDouble_52 : decode cX4_nextActOfDouble 52 = .ok (.ireturn, 1) := by decide +kernel
def f_X4_nextActOfDouble (v : tmM) : Option (Int32 × tmM) := (if (v 8 1) ≤ 0 then (if (v 0 2) = 32767 then (if (v 0 3) = 32767 then (if (v 0 4) = 255 then some (6, v) else some (4, v)) else some (3, v)) else some (1, v)) else some (2, v))
set_option maxRecDepth 100000 in
set_option maxHeartbeats 4000000 in
theorem w_X4_nextActOfDouble {p : Program} {l : Launch} {e : Env} {s : State} {m : MethodId} {args : Array Value} {below : List Frame} {meth : Method} {c : Code} {D : va_G} {cy : Nat → ClassId} {ad : Nat → Nat} {A : Nat → Prop} {z : (Int32 × tmM)} (C0 : tmC p s m args meth c cX4_nextActOfDouble 1 (some .int) RX4 TMW tm_NWC D cy tm_shC ad 256 [] A) (v : tmM) : tmG p l e ({ frames := 0, cells := 0, slots := 0, locals := 0 } : Room) s m args below meth c 0 0 (MQ below (va_Qi (fun r u => z = (r, u)) (tmAt tm_shC 256 D cy ad A) A) args s 0 0 A) 1 D cy tm_shC ad 256 [] A z 0 [(0, .ref (ad 0))] [] v (f_X4_nextActOfDouble v) := by
  unfold f_X4_nextActOfDouble
  refine tg_aload_n 0 C0 dX4_nextActOfDouble_0 rfl rfl ?_
  refine tg_get 0 6 C0 dX4_nextActOfDouble_1 (by decide) rfl rfl tu_X4 (by decide) tf_X4_28 rfl rfl rfl ?_
  refine tg_getN 8 1 C0 dX4_nextActOfDouble_4 (by decide) rfl rfl tu_X2 (by decide) tm_nwC_X4_130 rfl rfl rfl ?_
  refine tg_if_le 12 C0 dX4_nextActOfDouble_7 (by decide) (fun _ => ?_) (fun _ => ?_)
  · refine tg_aload_n 0 C0 dX4_nextActOfDouble_12 rfl rfl ?_
    refine tg_get 0 2 C0 dX4_nextActOfDouble_13 (by decide) rfl rfl tu_X4 (by decide) tf_X4_50 rfl rfl rfl ?_
    refine tg_sipush (x := 32767) C0 dX4_nextActOfDouble_16 (by decide) ?_
    refine tg_icmp_eq 24 C0 dX4_nextActOfDouble_19 (by decide) (fun _ => ?_) (fun _ => ?_)
    · refine tg_aload_n 0 C0 dX4_nextActOfDouble_24 rfl rfl ?_
      refine tg_get 0 3 C0 dX4_nextActOfDouble_25 (by decide) rfl rfl tu_X4 (by decide) tf_X4_53 rfl rfl rfl ?_
      refine tg_sipush (x := 32767) C0 dX4_nextActOfDouble_28 (by decide) ?_
      refine tg_icmp_eq 36 C0 dX4_nextActOfDouble_31 (by decide) (fun _ => ?_) (fun _ => ?_)
      · refine tg_aload_n 0 C0 dX4_nextActOfDouble_36 rfl rfl ?_
        refine tg_get 0 4 C0 dX4_nextActOfDouble_37 (by decide) rfl rfl tu_X4 (by decide) tf_X4_56 rfl rfl rfl ?_
        refine tg_sipush (x := 255) C0 dX4_nextActOfDouble_40 (by decide) ?_
        refine tg_icmp_eq 50 C0 dX4_nextActOfDouble_43 (by decide) (fun _ => ?_) (fun _ => ?_)
        · refine tg_bipush (x := 6) C0 dX4_nextActOfDouble_50 (by decide) ?_
          exact tg_iret C0 dX4_nextActOfDouble_52
        · refine tg_iconst (x := 4) C0 dX4_nextActOfDouble_46 (by decide) ?_
          refine tg_goto 52 C0 dX4_nextActOfDouble_47 (by decide) ?_
          exact tg_iret C0 dX4_nextActOfDouble_52
      · refine tg_iconst (x := 3) C0 dX4_nextActOfDouble_34 (by decide) ?_
        exact tg_iret C0 dX4_nextActOfDouble_35
    · refine tg_iconst (x := 1) C0 dX4_nextActOfDouble_22 (by decide) ?_
      exact tg_iret C0 dX4_nextActOfDouble_23
  · refine tg_iconst (x := 2) C0 dX4_nextActOfDouble_10 (by decide) ?_
    exact tg_iret C0 dX4_nextActOfDouble_11
theorem c_X4_nextActOfDouble (l : Launch) (v : tmM) : tmMi tm_NWC tm_shC 256 l yX4_nextActOfDouble (Cond.code yX4_nextActOfDouble cX4_nextActOfDouble 1 (some .int) :: TMW) ({ frames := 0, cells := 0, slots := 0, locals := 0 } : Room) (fun ad => [.ref (ad 0)]) v (f_X4_nextActOfDouble v) :=
  tmMi.of (cc := cX4_nextActOfDouble) (nL := 1) (by decide +kernel) rfl tm_NWC_ok (fun _ => Nat.le_of_ble_eq_true rfl) (fun p e s m args below meth c A D cy ad z C0 => w_X4_nextActOfDouble C0 v)
-- ----- X4_nextAct
theorem dX4_nextAct_0 : decode cX4_nextAct 0 = .ok (.aload_n 0, 1) := by decide +kernel
theorem dX4_nextAct_1 : decode cX4_nextAct 1 = .ok (.getfield 9, 3) := by decide +kernel
theorem dX4_nextAct_4 : decode cX4_nextAct 4 = .ok (.tableswitch 52 0 2 #[28, 30, 35], 28) := by decide +kernel
theorem dX4_nextAct_32 : decode cX4_nextAct 32 = .ok (.iconst 0, 1) := by decide +kernel
theorem dX4_nextAct_33 : decode cX4_nextAct 33 = .ok (.ireturn, 1) := by decide +kernel
theorem dX4_nextAct_34 : decode cX4_nextAct 34 = .ok (.aload_n 0, 1) := by decide +kernel
theorem dX4_nextAct_35 : decode cX4_nextAct 35 = .ok (.invokevirtual 139, 3) := by decide +kernel
theorem dX4_nextAct_38 : decode cX4_nextAct 38 = .ok (.ireturn, 1) := by decide +kernel
theorem dX4_nextAct_39 : decode cX4_nextAct 39 = .ok (.aload_n 0, 1) := by decide +kernel
theorem dX4_nextAct_40 : decode cX4_nextAct 40 = .ok (.getfield 28, 3) := by decide +kernel
theorem dX4_nextAct_43 : decode cX4_nextAct 43 = .ok (.getfield 130, 3) := by decide +kernel
theorem dX4_nextAct_46 : decode cX4_nextAct 46 = .ok (.ifCond .le 7, 3) := by decide +kernel
theorem dX4_nextAct_49 : decode cX4_nextAct 49 = .ok (.iconst 2, 1) := by decide +kernel
theorem dX4_nextAct_50 : decode cX4_nextAct 50 = .ok (.goto 5, 3) := by decide +kernel
theorem dX4_nextAct_53 : decode cX4_nextAct 53 = .ok (.bipush 10, 2) := by decide +kernel
theorem dX4_nextAct_55 : decode cX4_nextAct 55 = .ok (.ireturn, 1) := by decide +kernel
theorem dX4_nextAct_56 : decode cX4_nextAct 56 = .ok (.iconst (-1), 1) := by decide +kernel
theorem dX4_nextAct_57 : decode cX4_nextAct 57 = .ok (.ireturn, 1) := by decide +kernel
theorem tl_X4_139 : Cond.methodLink RX4 139 yX4_nextActOfDouble ∈ TMW := tm_in 1148 (by decide +kernel) (by decide +kernel)
theorem ti_X4_nextActOfDouble : Cond.instanceMethod yX4_nextActOfDouble ∈ TMW := tm_in 1150 (by decide +kernel) (by decide +kernel)
theorem ts_X4_nextActOfDouble : Cond.selects RX4 yX4_nextActOfDouble yX4_nextActOfDouble ∈ TMW := tm_in 37 (by decide +kernel) (by decide +kernel)
theorem tc_X4_nextActOfDouble : Cond.code yX4_nextActOfDouble cX4_nextActOfDouble 1 (some .int) ∈ TMW := tm_in 1151 (by decide +kernel) (by decide +kernel)
def f_X4_nextAct (v : tmM) : Option (Int32 × tmM) := tm_lt (v 0 0) fun y1 => (if y1 = 0 then some (0, v) else if y1 = 1 then tm_cl (f_X4_nextActOfDouble v) fun r4 v3 => some (r4, v3) else if y1 = 2 then (if (v 8 1) ≤ 0 then some (10, v) else some (2, v)) else some ((-1), v))
set_option maxRecDepth 100000 in
set_option maxHeartbeats 4000000 in
theorem w_X4_nextAct {p : Program} {l : Launch} {e : Env} {s : State} {m : MethodId} {args : Array Value} {below : List Frame} {meth : Method} {c : Code} {D : va_G} {cy : Nat → ClassId} {ad : Nat → Nat} {A : Nat → Prop} {z : (Int32 × tmM)} (C0 : tmC p s m args meth c cX4_nextAct 1 (some .int) RX4 TMW tm_NWC D cy tm_shC ad 256 [] A) (v : tmM) : tmG p l e ({ frames := 1, cells := 0, slots := 0, locals := 20 } : Room) s m args below meth c 0 0 (MQ below (va_Qi (fun r u => z = (r, u)) (tmAt tm_shC 256 D cy ad A) A) args s 0 0 A) 1 D cy tm_shC ad 256 [] A z 0 [(0, .ref (ad 0))] [] v (f_X4_nextAct v) := by
  unfold f_X4_nextAct
  refine tg_aload_n 0 C0 dX4_nextAct_0 rfl rfl ?_
  refine tg_get 0 0 C0 dX4_nextAct_1 (by decide) rfl rfl tu_X4 (by decide) tf_X4_9 rfl rfl rfl ?_
  refine tg_leti (fun y1 _ => ?_)
  refine tg_tab 0 (cst := 0) 32 tg_tab0 C0 dX4_nextAct_4 (by decide) rfl (by decide) (by decide) (fun _ => ?_) (fun h2 => ?_)
  · refine tg_iconst (x := 0) C0 dX4_nextAct_32 (by decide) ?_
    exact tg_iret C0 dX4_nextAct_33
  refine tg_tab 1 (cst := 1) 34 h2 C0 dX4_nextAct_4 (by decide) rfl (by decide) (by decide) (fun _ => ?_) (fun h5 => ?_)
  · refine tg_aload_n 0 C0 dX4_nextAct_34 rfl rfl ?_
    refine tg_callVi (As := []) 0 0 C0 dX4_nextAct_35 (c_X4_nextActOfDouble l v) rfl rfl (by decide) rfl rfl (tm_gV tl_X4_139 ti_X4_nextActOfDouble ts_X4_nextActOfDouble tn_X4 tc_X4_nextActOfDouble)  rfl rfl rfl rfl (by decide +kernel) ⟨by decide, by decide⟩ (Nat.le_of_ble_eq_true rfl) ⟨by decide, by decide⟩ (fun r4 v3 _ => ?_)
    exact tg_iret C0 dX4_nextAct_38
  refine tg_tab 2 (cst := 2) 39 h5 C0 dX4_nextAct_4 (by decide) rfl (by decide) (by decide) (fun _ => ?_) (fun h6 => ?_)
  · refine tg_aload_n 0 C0 dX4_nextAct_39 rfl rfl ?_
    refine tg_get 0 6 C0 dX4_nextAct_40 (by decide) rfl rfl tu_X4 (by decide) tf_X4_28 rfl rfl rfl ?_
    refine tg_getN 8 1 C0 dX4_nextAct_43 (by decide) rfl rfl tu_X2 (by decide) tm_nwC_X4_130 rfl rfl rfl ?_
    refine tg_if_le 53 C0 dX4_nextAct_46 (by decide) (fun _ => ?_) (fun _ => ?_)
    · refine tg_bipush (x := 10) C0 dX4_nextAct_53 (by decide) ?_
      exact tg_iret C0 dX4_nextAct_55
    · refine tg_iconst (x := 2) C0 dX4_nextAct_49 (by decide) ?_
      refine tg_goto 55 C0 dX4_nextAct_50 (by decide) ?_
      exact tg_iret C0 dX4_nextAct_55
  refine tg_tabO 3 56 h6 C0 dX4_nextAct_4 (by decide) (by decide) ?_
  refine tg_iconst (x := (-1)) C0 dX4_nextAct_56 (by decide) ?_
  exact tg_iret C0 dX4_nextAct_57
theorem c_X4_nextAct (l : Launch) (v : tmM) : tmMi tm_NWC tm_shC 256 l yX4_nextAct (Cond.code yX4_nextAct cX4_nextAct 1 (some .int) :: TMW) ({ frames := 1, cells := 0, slots := 0, locals := 20 } : Room) (fun ad => [.ref (ad 0)]) v (f_X4_nextAct v) :=
  tmMi.of (cc := cX4_nextAct) (nL := 1) (by decide +kernel) rfl tm_NWC_ok (fun _ => Nat.le_of_ble_eq_true rfl) (fun p e s m args below meth c A D cy ad z C0 => w_X4_nextAct C0 v)
-- ----- X4_numberFor
theorem dX4_numberFor_0 : decode cX4_numberFor 0 = .ok (.iload_n 1, 1) := by decide +kernel
theorem dX4_numberFor_1 : decode cX4_numberFor 1 = .ok (.lookupswitch 47 #[(3, 27), (4, 37)], 27) := by decide +kernel
theorem dX4_numberFor_28 : decode cX4_numberFor 28 = .ok (.aload_n 0, 1) := by decide +kernel
theorem dX4_numberFor_29 : decode cX4_numberFor 29 = .ok (.getfield 53, 3) := by decide +kernel
theorem dX4_numberFor_32 : decode cX4_numberFor 32 = .ok (.bipush 15, 2) := by decide +kernel
theorem dX4_numberFor_34 : decode cX4_numberFor 34 = .ok (.invokestatic 142, 3) := by decide +kernel
theorem dX4_numberFor_37 : decode cX4_numberFor 37 = .ok (.ireturn, 1) := by decide +kernel
theorem dX4_numberFor_38 : decode cX4_numberFor 38 = .ok (.aload_n 0, 1) := by decide +kernel
theorem dX4_numberFor_39 : decode cX4_numberFor 39 = .ok (.getfield 56, 3) := by decide +kernel
theorem dX4_numberFor_42 : decode cX4_numberFor 42 = .ok (.bipush 8, 2) := by decide +kernel
theorem dX4_numberFor_44 : decode cX4_numberFor 44 = .ok (.invokestatic 142, 3) := by decide +kernel
theorem dX4_numberFor_47 : decode cX4_numberFor 47 = .ok (.ireturn, 1) := by decide +kernel
theorem dX4_numberFor_48 : decode cX4_numberFor 48 = .ok (.iconst 0, 1) := by decide +kernel
theorem dX4_numberFor_49 : decode cX4_numberFor 49 = .ok (.ireturn, 1) := by decide +kernel
theorem tc_X7_lowestMissing : Cond.code yX7_lowestMissing cX7_lowestMissing 3 (some .int) ∈ TMW := tm_in 1158 (by decide +kernel) (by decide +kernel)
theorem tst_X7_lowestMissing : Cond.static yX7_lowestMissing ∈ TMW := tm_in 1157 (by decide +kernel) (by decide +kernel)
def f_X4_numberFor (x1 : Int32) (v : tmM) : Option (Int32 × tmM) := (if x1 = 3 then tm_cl (f_X7_lowestMissing (v 0 3) 15 v) fun r2 v1 => some (r2, v1) else if x1 = 4 then tm_cl (f_X7_lowestMissing (v 0 4) 8 v) fun r5 v4 => some (r5, v4) else some (0, v))
set_option maxRecDepth 100000 in
set_option maxHeartbeats 4000000 in
theorem w_X4_numberFor {p : Program} {l : Launch} {e : Env} {s : State} {m : MethodId} {args : Array Value} {below : List Frame} {meth : Method} {c : Code} {D : va_G} {cy : Nat → ClassId} {ad : Nat → Nat} {A : Nat → Prop} {z : (Int32 × tmM)} (C0 : tmC p s m args meth c cX4_numberFor 2 (some .int) RX4 TMW tm_NWC D cy tm_shC ad 256 [] A) (x1 : Int32) (v : tmM) : tmG p l e ({ frames := 2, cells := 0, slots := 0, locals := 43 } : Room) s m args below meth c 0 0 (MQ below (va_Qi (fun r u => z = (r, u)) (tmAt tm_shC 256 D cy ad A) A) args s 0 0 A) 2 D cy tm_shC ad 256 [] A z 0 [(0, .ref (ad 0)), (1, .int x1)] [] v (f_X4_numberFor x1 v) := by
  unfold f_X4_numberFor
  refine tg_iload_n 1 C0 dX4_numberFor_0 rfl rfl ?_
  refine tg_look 28 (cst := 3) (off := 27) C0 dX4_numberFor_1 (by decide) (by decide) (by decide) (fun _ => ?_) (fun h3 => ?_)
  · refine tg_aload_n 0 C0 dX4_numberFor_28 rfl rfl ?_
    refine tg_get 0 3 C0 dX4_numberFor_29 (by decide) rfl rfl tu_X4 (by decide) tf_X4_53 rfl rfl rfl ?_
    refine tg_bipush (x := 15) C0 dX4_numberFor_32 (by decide) ?_
    refine tg_callSNi (As := [.int (v 0 3), .int 15]) 2 C0 dX4_numberFor_34 (c_X7_lowestMissing l (v 0 3) 15 v) rfl rfl (tm_gc tc_X7_lowestMissing) tm_nwC_X4_142 tn_X7 tst_X7_lowestMissing rfl rfl rfl rfl (by decide +kernel) ⟨by decide, by decide⟩ (Nat.le_of_ble_eq_true rfl) ⟨by decide, by decide⟩ (fun r2 v1 _ => ?_)
    exact tg_iret C0 dX4_numberFor_37
  refine tg_look 38 (cst := 4) (off := 37) C0 dX4_numberFor_1 (by decide) (by decide) (by decide) (fun _ => ?_) (fun h6 => ?_)
  · refine tg_aload_n 0 C0 dX4_numberFor_38 rfl rfl ?_
    refine tg_get 0 4 C0 dX4_numberFor_39 (by decide) rfl rfl tu_X4 (by decide) tf_X4_56 rfl rfl rfl ?_
    refine tg_bipush (x := 8) C0 dX4_numberFor_42 (by decide) ?_
    refine tg_callSNi (As := [.int (v 0 4), .int 8]) 2 C0 dX4_numberFor_44 (c_X7_lowestMissing l (v 0 4) 8 v) rfl rfl (tm_gc tc_X7_lowestMissing) tm_nwC_X4_142 tn_X7 tst_X7_lowestMissing rfl rfl rfl rfl (by decide +kernel) ⟨by decide, by decide⟩ (Nat.le_of_ble_eq_true rfl) ⟨by decide, by decide⟩ (fun r5 v4 _ => ?_)
    exact tg_iret C0 dX4_numberFor_47
  refine tg_look2 48 C0 dX4_numberFor_1 (by decide) h3 h6 rfl (by decide) (by decide) ?_
  refine tg_iconst (x := 0) C0 dX4_numberFor_48 (by decide) ?_
  exact tg_iret C0 dX4_numberFor_49
theorem c_X4_numberFor (l : Launch) (x1 : Int32) (v : tmM) : tmMi tm_NWC tm_shC 256 l yX4_numberFor (Cond.code yX4_numberFor cX4_numberFor 2 (some .int) :: TMW) ({ frames := 2, cells := 0, slots := 0, locals := 43 } : Room) (fun ad => [.ref (ad 0), .int x1]) v (f_X4_numberFor x1 v) :=
  tmMi.of (cc := cX4_numberFor) (nL := 2) (by decide +kernel) rfl tm_NWC_ok (fun _ => Nat.le_of_ble_eq_true rfl) (fun p e s m args below meth c A D cy ad z C0 => w_X4_numberFor C0 x1 v)
-- ----- X4_enter
theorem dX4_enter_0 : decode cX4_enter 0 = .ok (.aload_n 0, 1) := by decide +kernel
theorem dX4_enter_1 : decode cX4_enter 1 = .ok (.iload_n 1, 1) := by decide +kernel
theorem dX4_enter_2 : decode cX4_enter 2 = .ok (.putfield 9, 3) := by decide +kernel
theorem dX4_enter_5 : decode cX4_enter 5 = .ok (.aload_n 0, 1) := by decide +kernel
theorem dX4_enter_6 : decode cX4_enter 6 = .ok (.getfield 35, 3) := by decide +kernel
theorem dX4_enter_9 : decode cX4_enter 9 = .ok (.bipush 8, 2) := by decide +kernel
theorem dX4_enter_11 : decode cX4_enter 11 = .ok (.iload_n 1, 1) := by decide +kernel
theorem dX4_enter_12 : decode cX4_enter 12 = .ok (.invokevirtual 190, 3) := by decide +kernel
theorem dX4_enter_15 : decode cX4_enter 15 = .ok (.return_, 1) := by decide +kernel
theorem tf_X4_35 : Cond.fieldLink RX4 35 "TableMove$State" (TX4 7).2.1 (TX4 7).2.2.1 ∈ TMW := tm_in 243 (by decide +kernel) (by decide +kernel)
theorem tl_X4_190 : Cond.methodLink RX4 190 yX1_add ∈ TMW := tm_in 547 (by decide +kernel) (by decide +kernel)
theorem ti_X1_add : Cond.instanceMethod yX1_add ∈ TMW := tm_in 548 (by decide +kernel) (by decide +kernel)
theorem ts_X1_add : Cond.selects RX1 yX1_add yX1_add ∈ TMW := tm_in 549 (by decide +kernel) (by decide +kernel)
theorem tn_X1 : Cond.initialized RX1 ∈ TMW := tm_in 114 (by decide +kernel) (by decide +kernel)
theorem tc_X1_add : Cond.code yX1_add cX1_add 3 none ∈ TMW := tm_in 550 (by decide +kernel) (by decide +kernel)
def f_X4_enter (x1 : Int32) (v : tmM) : Option (Unit × tmM) := tm_lt (tm_up v 0 0 x1) fun v1 => tm_cl (f_X1_add 8 x1 v1) fun _ v2 => some ((), v2)
set_option maxRecDepth 100000 in
set_option maxHeartbeats 4000000 in
theorem w_X4_enter {p : Program} {l : Launch} {e : Env} {s : State} {m : MethodId} {args : Array Value} {below : List Frame} {meth : Method} {c : Code} {D : va_G} {cy : Nat → ClassId} {ad : Nat → Nat} {A : Nat → Prop} {z : (Unit × tmM)} (C0 : tmC p s m args meth c cX4_enter 2 none RX4 TMW tm_NWC D cy tm_shC ad 256 [] A) (x1 : Int32) (v : tmM) : tmG p l e ({ frames := 2, cells := 0, slots := 0, locals := 62 } : Room) s m args below meth c 0 0 (MQ below (va_Qv (fun u => z = ((), u)) (tmAt tm_shC 256 D cy ad A) A) args s 0 0 A) 2 D cy tm_shC ad 256 [] A z 0 [(0, .ref (ad 0)), (1, .int x1)] [] v (f_X4_enter x1 v) := by
  unfold f_X4_enter
  refine tg_aload_n 0 C0 dX4_enter_0 rfl rfl ?_
  refine tg_iload_n 1 C0 dX4_enter_1 rfl rfl ?_
  refine tg_put 0 0 C0 dX4_enter_2 (by decide) rfl rfl tu_X4 tyX4_ok nmX4 (by decide) tf_X4_9 rfl rfl rfl rfl rfl rfl ?_
  refine tg_letm (fun v1 _ => ?_)
  refine tg_aload_n 0 C0 dX4_enter_5 rfl rfl ?_
  refine tg_get 0 7 C0 dX4_enter_6 (by decide) rfl rfl tu_X4 (by decide) tf_X4_35 rfl rfl rfl ?_
  refine tg_bipush (x := 8) C0 dX4_enter_9 (by decide) ?_
  refine tg_iload_n 1 C0 dX4_enter_11 rfl rfl ?_
  refine tg_callVv (As := [.int 8, .int x1]) 10 2 C0 dX4_enter_12 (c_X1_add l 8 x1 v1) rfl rfl (by decide) rfl rfl (tm_gV tl_X4_190 ti_X1_add ts_X1_add tn_X1 tc_X1_add)  rfl rfl rfl rfl (by decide +kernel) ⟨by decide, by decide⟩ (Nat.le_of_ble_eq_true rfl) ⟨by decide, by decide⟩ (fun v2 _ => ?_)
  exact tg_vret C0 dX4_enter_15
theorem c_X4_enter (l : Launch) (x1 : Int32) (v : tmM) : tmMv tm_NWC tm_shC 256 l yX4_enter (Cond.code yX4_enter cX4_enter 2 none :: TMW) ({ frames := 2, cells := 0, slots := 0, locals := 62 } : Room) (fun ad => [.ref (ad 0), .int x1]) v (f_X4_enter x1 v) :=
  tmMv.of (cc := cX4_enter) (nL := 2) (by decide +kernel) rfl tm_NWC_ok (fun _ => Nat.le_of_ble_eq_true rfl) (fun p e s m args below meth c A D cy ad z C0 => w_X4_enter C0 x1 v)
-- ----- X4_makeSame
theorem dX4_makeSame_0 : decode cX4_makeSame 0 = .ok (.aload_n 0, 1) := by decide +kernel
theorem dX4_makeSame_1 : decode cX4_makeSame 1 = .ok (.invokevirtual 86, 3) := by decide +kernel
theorem dX4_makeSame_4 : decode cX4_makeSame 4 = .ok (.istore_n 2, 1) := by decide +kernel
theorem dX4_makeSame_5 : decode cX4_makeSame 5 = .ok (.aload_n 0, 1) := by decide +kernel
theorem dX4_makeSame_6 : decode cX4_makeSame 6 = .ok (.getfield 21, 3) := by decide +kernel
theorem dX4_makeSame_9 : decode cX4_makeSame 9 = .ok (.iload_n 2, 1) := by decide +kernel
theorem dX4_makeSame_10 : decode cX4_makeSame 10 = .ok (.iload_n 1, 1) := by decide +kernel
theorem dX4_makeSame_11 : decode cX4_makeSame 11 = .ok (.invokevirtual 180, 3) := by decide +kernel
theorem dX4_makeSame_14 : decode cX4_makeSame 14 = .ok (.istore_n 3, 1) := by decide +kernel
theorem dX4_makeSame_15 : decode cX4_makeSame 15 = .ok (.aload_n 0, 1) := by decide +kernel
theorem dX4_makeSame_16 : decode cX4_makeSame 16 = .ok (.getfield 21, 3) := by decide +kernel
theorem dX4_makeSame_19 : decode cX4_makeSame 19 = .ok (.iconst 1, 1) := by decide +kernel
theorem dX4_makeSame_20 : decode cX4_makeSame 20 = .ok (.iload_n 2, 1) := by decide +kernel
theorem dX4_makeSame_21 : decode cX4_makeSame 21 = .ok (.isub, 1) := by decide +kernel
theorem dX4_makeSame_22 : decode cX4_makeSame 22 = .ok (.iload_n 1, 1) := by decide +kernel
theorem dX4_makeSame_23 : decode cX4_makeSame 23 = .ok (.iload_n 3, 1) := by decide +kernel
theorem dX4_makeSame_24 : decode cX4_makeSame 24 = .ok (.bipush (-3), 2) := by decide +kernel
theorem dX4_makeSame_26 : decode cX4_makeSame 26 = .ok (.if_icmp .ne 7, 3) := by decide +kernel
theorem dX4_makeSame_29 : decode cX4_makeSame 29 = .ok (.iconst 0, 1) := by decide +kernel
theorem dX4_makeSame_30 : decode cX4_makeSame 30 = .ok (.goto 4, 3) := by decide +kernel
theorem dX4_makeSame_33 : decode cX4_makeSame 33 = .ok (.iload_n 3, 1) := by decide +kernel
theorem dX4_makeSame_34 : decode cX4_makeSame 34 = .ok (.invokevirtual 187, 3) := by decide +kernel
theorem dX4_makeSame_37 : decode cX4_makeSame 37 = .ok (.aload_n 0, 1) := by decide +kernel
theorem dX4_makeSame_38 : decode cX4_makeSame 38 = .ok (.getfield 28, 3) := by decide +kernel
theorem dX4_makeSame_41 : decode cX4_makeSame 41 = .ok (.iload_n 1, 1) := by decide +kernel
theorem dX4_makeSame_42 : decode cX4_makeSame 42 = .ok (.invokevirtual 199, 3) := by decide +kernel
theorem dX4_makeSame_45 : decode cX4_makeSame 45 = .ok (.return_, 1) := by decide +kernel
theorem tl_X4_180 : Cond.methodLink RX4 180 yX5_valueAt ∈ TMW := tm_in 531 (by decide +kernel) (by decide +kernel)
theorem tl_X4_187 : Cond.methodLink RX4 187 yX5_store ∈ TMW := tm_in 539 (by decide +kernel) (by decide +kernel)
theorem ti_X5_store : Cond.instanceMethod yX5_store ∈ TMW := tm_in 540 (by decide +kernel) (by decide +kernel)
theorem ts_X5_store : Cond.selects RX5 yX5_store yX5_store ∈ TMW := tm_in 541 (by decide +kernel) (by decide +kernel)
theorem tc_X5_store : Cond.code yX5_store cX5_store 4 none ∈ TMW := tm_in 542 (by decide +kernel) (by decide +kernel)
theorem tl_X4_199 : Cond.methodLink RX4 199 yX2_drop ∈ TMW := tm_in 559 (by decide +kernel) (by decide +kernel)
theorem ti_X2_drop : Cond.instanceMethod yX2_drop ∈ TMW := tm_in 560 (by decide +kernel) (by decide +kernel)
theorem ts_X2_drop : Cond.selects RX2 yX2_drop yX2_drop ∈ TMW := tm_in 561 (by decide +kernel) (by decide +kernel)
theorem tc_X2_drop : Cond.code yX2_drop cX2_drop 3 none ∈ TMW := tm_in 562 (by decide +kernel) (by decide +kernel)
def f_X4_makeSame_34 (x1 s0 s1 s2 : Int32) (v : tmM) : Option (Unit × tmM) := tm_cl (f_X5_store s2 s1 s0 v) fun _ v5 => tm_cl (f_X2_drop x1 v5) fun _ v7 => some ((), v7)
set_option maxRecDepth 100000 in
set_option maxHeartbeats 4000000 in
theorem w_X4_makeSame_34 {p : Program} {l : Launch} {e : Env} {s : State} {m : MethodId} {args : Array Value} {below : List Frame} {meth : Method} {c : Code} {D : va_G} {cy : Nat → ClassId} {ad : Nat → Nat} {A : Nat → Prop} {z : (Unit × tmM)} (C0 : tmC p s m args meth c cX4_makeSame 4 none RX4 TMW tm_NWC D cy tm_shC ad 256 [] A) (x1 s0 s1 s2 : Int32) (v : tmM) : tmG p l e ({ frames := 2, cells := 0, slots := 0, locals := 62 } : Room) s m args below meth c 0 0 (MQ below (va_Qv (fun u => z = ((), u)) (tmAt tm_shC 256 D cy ad A) A) args s 0 0 A) 4 D cy tm_shC ad 256 [] A z 34 [(0, .ref (ad 0)), (1, .int x1)] [.int s0, .int s1, .int s2, .ref (ad 1)] v (f_X4_makeSame_34 x1 s0 s1 s2 v) := by
  unfold f_X4_makeSame_34
  refine tg_callVv (As := [.int s2, .int s1, .int s0]) 1 3 C0 dX4_makeSame_34 (c_X5_store l s2 s1 s0 v) rfl rfl (by decide) rfl rfl (tm_gV tl_X4_187 ti_X5_store ts_X5_store tn_X5 tc_X5_store)  rfl rfl rfl rfl (by decide +kernel) ⟨by decide, by decide⟩ (Nat.le_of_ble_eq_true rfl) ⟨by decide, by decide⟩ (fun v5 _ => ?_)
  refine tg_aload_n 0 C0 dX4_makeSame_37 rfl rfl ?_
  refine tg_get 0 6 C0 dX4_makeSame_38 (by decide) rfl rfl tu_X4 (by decide) tf_X4_28 rfl rfl rfl ?_
  refine tg_iload_n 1 C0 dX4_makeSame_41 rfl rfl ?_
  refine tg_callVv (As := [.int x1]) 8 1 C0 dX4_makeSame_42 (c_X2_drop l x1 v5) rfl rfl (by decide) rfl rfl (tm_gV tl_X4_199 ti_X2_drop ts_X2_drop tn_X2 tc_X2_drop)  rfl rfl rfl rfl (by decide +kernel) ⟨by decide, by decide⟩ (Nat.le_of_ble_eq_true rfl) ⟨by decide, by decide⟩ (fun v7 _ => ?_)
  exact tg_vret C0 dX4_makeSame_45
def f_X4_makeSame (x1 : Int32) (v : tmM) : Option (Unit × tmM) := tm_cl (f_X4_leader v) fun r2 v1 => tm_cl (f_X5_valueAt r2 x1 v1) fun r4 v3 => (if r4 = (-3) then f_X4_makeSame_34 x1 0 x1 (1 - r2) v3 else f_X4_makeSame_34 x1 r4 x1 (1 - r2) v3)
set_option maxRecDepth 100000 in
set_option maxHeartbeats 4000000 in
theorem w_X4_makeSame {p : Program} {l : Launch} {e : Env} {s : State} {m : MethodId} {args : Array Value} {below : List Frame} {meth : Method} {c : Code} {D : va_G} {cy : Nat → ClassId} {ad : Nat → Nat} {A : Nat → Prop} {z : (Unit × tmM)} (C0 : tmC p s m args meth c cX4_makeSame 4 none RX4 TMW tm_NWC D cy tm_shC ad 256 [] A) (x1 : Int32) (v : tmM) : tmG p l e ({ frames := 2, cells := 0, slots := 0, locals := 62 } : Room) s m args below meth c 0 0 (MQ below (va_Qv (fun u => z = ((), u)) (tmAt tm_shC 256 D cy ad A) A) args s 0 0 A) 4 D cy tm_shC ad 256 [] A z 0 [(0, .ref (ad 0)), (1, .int x1)] [] v (f_X4_makeSame x1 v) := by
  unfold f_X4_makeSame
  refine tg_aload_n 0 C0 dX4_makeSame_0 rfl rfl ?_
  refine tg_callVi (As := []) 0 0 C0 dX4_makeSame_1 (c_X4_leader l v) rfl rfl (by decide) rfl rfl (tm_gV tl_X4_86 ti_X4_leader ts_X4_leader tn_X4 tc_X4_leader)  rfl rfl rfl rfl (by decide +kernel) ⟨by decide, by decide⟩ (Nat.le_of_ble_eq_true rfl) ⟨by decide, by decide⟩ (fun r2 v1 _ => ?_)
  refine tg_istore_n [(2, .int r2), (0, .ref (ad 0)), (1, .int x1)] C0 dX4_makeSame_4 rfl (by decide) rfl ?_
  refine tg_aload_n 1 C0 dX4_makeSame_5 rfl rfl ?_
  refine tg_get 0 5 C0 dX4_makeSame_6 (by decide) rfl rfl tu_X4 (by decide) tf_X4_21 rfl rfl rfl ?_
  refine tg_iload_n 0 C0 dX4_makeSame_9 rfl rfl ?_
  refine tg_iload_n 2 C0 dX4_makeSame_10 rfl rfl ?_
  refine tg_callVi (As := [.int r2, .int x1]) 1 2 C0 dX4_makeSame_11 (c_X5_valueAt l r2 x1 v1) rfl rfl (by decide) rfl rfl (tm_gV tl_X4_180 ti_X5_valueAt ts_X5_valueAt tn_X5 tc_X5_valueAt)  rfl rfl rfl rfl (by decide +kernel) ⟨by decide, by decide⟩ (Nat.le_of_ble_eq_true rfl) ⟨by decide, by decide⟩ (fun r4 v3 _ => ?_)
  refine tg_istore_n [(3, .int r4), (2, .int r2), (0, .ref (ad 0)), (1, .int x1)] C0 dX4_makeSame_14 rfl (by decide) rfl ?_
  refine tg_aload_n 2 C0 dX4_makeSame_15 rfl rfl ?_
  refine tg_get 0 5 C0 dX4_makeSame_16 (by decide) rfl rfl tu_X4 (by decide) tf_X4_21 rfl rfl rfl ?_
  refine tg_iconst (x := 1) C0 dX4_makeSame_19 (by decide) ?_
  refine tg_iload_n 1 C0 dX4_makeSame_20 rfl rfl ?_
  refine tg_isub C0 dX4_makeSame_21 ?_
  refine tg_iload_n 3 C0 dX4_makeSame_22 rfl rfl ?_
  refine tg_iload_n 0 C0 dX4_makeSame_23 rfl rfl ?_
  refine tg_bipush (x := (-3)) C0 dX4_makeSame_24 (by decide) ?_
  refine tg_icmp_ne 33 C0 dX4_makeSame_26 (by decide) (fun _ => ?_) (fun _ => ?_)
  · refine tg_iload_n 0 C0 dX4_makeSame_33 rfl rfl ?_
    refine tg_sub [2, 3] rfl ?_
    exact w_X4_makeSame_34 C0 x1 r4 x1 (1 - r2) v3
  · refine tg_iconst (x := 0) C0 dX4_makeSame_29 (by decide) ?_
    refine tg_goto 34 C0 dX4_makeSame_30 (by decide) ?_
    refine tg_sub [2, 3] rfl ?_
    exact w_X4_makeSame_34 C0 x1 0 x1 (1 - r2) v3
theorem c_X4_makeSame (l : Launch) (x1 : Int32) (v : tmM) : tmMv tm_NWC tm_shC 256 l yX4_makeSame (Cond.code yX4_makeSame cX4_makeSame 4 none :: TMW) ({ frames := 2, cells := 0, slots := 0, locals := 62 } : Room) (fun ad => [.ref (ad 0), .int x1]) v (f_X4_makeSame x1 v) :=
  tmMv.of (cc := cX4_makeSame) (nL := 4) (by decide +kernel) rfl tm_NWC_ok (fun _ => Nat.le_of_ble_eq_true rfl) (fun p e s m args below meth c A D cy ad z C0 => w_X4_makeSame C0 x1 v)
-- ----- X4_markStale
theorem dX4_markStale_0 : decode cX4_markStale 0 = .ok (.aload_n 0, 1) := by decide +kernel
theorem dX4_markStale_1 : decode cX4_markStale 1 = .ok (.getfield 28, 3) := by decide +kernel
theorem dX4_markStale_4 : decode cX4_markStale 4 = .ok (.iload_n 1, 1) := by decide +kernel
theorem dX4_markStale_5 : decode cX4_markStale 5 = .ok (.invokevirtual 202, 3) := by decide +kernel
theorem dX4_markStale_8 : decode cX4_markStale 8 = .ok (.ifCond .ne 36, 3) := by decide +kernel
theorem dX4_markStale_11 : decode cX4_markStale 11 = .ok (.aload_n 0, 1) := by decide +kernel
theorem dX4_markStale_12 : decode cX4_markStale 12 = .ok (.getfield 28, 3) := by decide +kernel
theorem dX4_markStale_15 : decode cX4_markStale 15 = .ok (.iload_n 1, 1) := by decide +kernel
theorem dX4_markStale_16 : decode cX4_markStale 16 = .ok (.invokevirtual 205, 3) := by decide +kernel
theorem dX4_markStale_19 : decode cX4_markStale 19 = .ok (.aload_n 0, 1) := by decide +kernel
theorem dX4_markStale_20 : decode cX4_markStale 20 = .ok (.dup, 1) := by decide +kernel
theorem dX4_markStale_21 : decode cX4_markStale 21 = .ok (.getfield 53, 3) := by decide +kernel
theorem dX4_markStale_24 : decode cX4_markStale 24 = .ok (.iconst 1, 1) := by decide +kernel
theorem dX4_markStale_25 : decode cX4_markStale 25 = .ok (.iload_n 1, 1) := by decide +kernel
theorem dX4_markStale_26 : decode cX4_markStale 26 = .ok (.iconst 4, 1) := by decide +kernel
theorem dX4_markStale_27 : decode cX4_markStale 27 = .ok (.idiv, 1) := by decide +kernel
theorem dX4_markStale_28 : decode cX4_markStale 28 = .ok (.ishl, 1) := by decide +kernel
theorem dX4_markStale_29 : decode cX4_markStale 29 = .ok (.iconst (-1), 1) := by decide +kernel
theorem dX4_markStale_30 : decode cX4_markStale 30 = .ok (.ixor, 1) := by decide +kernel
theorem dX4_markStale_31 : decode cX4_markStale 31 = .ok (.iand, 1) := by decide +kernel
theorem dX4_markStale_32 : decode cX4_markStale 32 = .ok (.putfield 53, 3) := by decide +kernel
theorem dX4_markStale_35 : decode cX4_markStale 35 = .ok (.aload_n 0, 1) := by decide +kernel
theorem dX4_markStale_36 : decode cX4_markStale 36 = .ok (.getfield 35, 3) := by decide +kernel
theorem dX4_markStale_39 : decode cX4_markStale 39 = .ok (.iconst 1, 1) := by decide +kernel
theorem dX4_markStale_40 : decode cX4_markStale 40 = .ok (.iload_n 1, 1) := by decide +kernel
theorem dX4_markStale_41 : decode cX4_markStale 41 = .ok (.invokevirtual 190, 3) := by decide +kernel
theorem dX4_markStale_44 : decode cX4_markStale 44 = .ok (.return_, 1) := by decide +kernel
theorem tl_X4_202 : Cond.methodLink RX4 202 yX2_holds ∈ TMW := tm_in 571 (by decide +kernel) (by decide +kernel)
theorem ti_X2_holds : Cond.instanceMethod yX2_holds ∈ TMW := tm_in 572 (by decide +kernel) (by decide +kernel)
theorem ts_X2_holds : Cond.selects RX2 yX2_holds yX2_holds ∈ TMW := tm_in 573 (by decide +kernel) (by decide +kernel)
theorem tc_X2_holds : Cond.code yX2_holds cX2_holds 2 (some .boolean) ∈ TMW := tm_in 574 (by decide +kernel) (by decide +kernel)
theorem tl_X4_205 : Cond.methodLink RX4 205 yX2_add ∈ TMW := tm_in 575 (by decide +kernel) (by decide +kernel)
theorem ti_X2_add : Cond.instanceMethod yX2_add ∈ TMW := tm_in 576 (by decide +kernel) (by decide +kernel)
theorem ts_X2_add : Cond.selects RX2 yX2_add yX2_add ∈ TMW := tm_in 577 (by decide +kernel) (by decide +kernel)
theorem tc_X2_add : Cond.code yX2_add cX2_add 2 none ∈ TMW := tm_in 578 (by decide +kernel) (by decide +kernel)
def f_X4_markStale (x1 : Int32) (v : tmM) : Option (Unit × tmM) := tm_cl (f_X2_holds x1 v) fun r2 v1 => (if r2 = 0 then tm_cl (f_X2_add x1 v1) fun _ v3 => tm_g (decide (¬ 4 = 0)) (tm_lt (tm_up v3 0 3 ((v3 0 3) &&& ((1 <<< ((x1 / 4) &&& 31)) ^^^ (-1)))) fun v5 => tm_cl (f_X1_add 1 x1 v5) fun _ v6 => some ((), v6)) else some ((), v1))
set_option maxRecDepth 100000 in
set_option maxHeartbeats 4000000 in
theorem w_X4_markStale {p : Program} {l : Launch} {e : Env} {s : State} {m : MethodId} {args : Array Value} {below : List Frame} {meth : Method} {c : Code} {D : va_G} {cy : Nat → ClassId} {ad : Nat → Nat} {A : Nat → Prop} {z : (Unit × tmM)} (C0 : tmC p s m args meth c cX4_markStale 2 none RX4 TMW tm_NWC D cy tm_shC ad 256 [] A) (x1 : Int32) (v : tmM) : tmG p l e ({ frames := 2, cells := 0, slots := 0, locals := 62 } : Room) s m args below meth c 0 0 (MQ below (va_Qv (fun u => z = ((), u)) (tmAt tm_shC 256 D cy ad A) A) args s 0 0 A) 2 D cy tm_shC ad 256 [] A z 0 [(0, .ref (ad 0)), (1, .int x1)] [] v (f_X4_markStale x1 v) := by
  unfold f_X4_markStale
  refine tg_aload_n 0 C0 dX4_markStale_0 rfl rfl ?_
  refine tg_get 0 6 C0 dX4_markStale_1 (by decide) rfl rfl tu_X4 (by decide) tf_X4_28 rfl rfl rfl ?_
  refine tg_iload_n 1 C0 dX4_markStale_4 rfl rfl ?_
  refine tg_callVi (As := [.int x1]) 8 1 C0 dX4_markStale_5 (c_X2_holds l x1 v) rfl rfl (by decide) rfl rfl (tm_gV tl_X4_202 ti_X2_holds ts_X2_holds tn_X2 tc_X2_holds)  rfl rfl rfl rfl (by decide +kernel) ⟨by decide, by decide⟩ (Nat.le_of_ble_eq_true rfl) ⟨by decide, by decide⟩ (fun r2 v1 _ => ?_)
  refine tg_if_ne 44 C0 dX4_markStale_8 (by decide) (fun _ => ?_) (fun _ => ?_)
  · exact tg_vret C0 dX4_markStale_44
  · refine tg_aload_n 0 C0 dX4_markStale_11 rfl rfl ?_
    refine tg_get 0 6 C0 dX4_markStale_12 (by decide) rfl rfl tu_X4 (by decide) tf_X4_28 rfl rfl rfl ?_
    refine tg_iload_n 1 C0 dX4_markStale_15 rfl rfl ?_
    refine tg_callVv (As := [.int x1]) 8 1 C0 dX4_markStale_16 (c_X2_add l x1 v1) rfl rfl (by decide) rfl rfl (tm_gV tl_X4_205 ti_X2_add ts_X2_add tn_X2 tc_X2_add)  rfl rfl rfl rfl (by decide +kernel) ⟨by decide, by decide⟩ (Nat.le_of_ble_eq_true rfl) ⟨by decide, by decide⟩ (fun v3 _ => ?_)
    refine tg_aload_n 0 C0 dX4_markStale_19 rfl rfl ?_
    refine tg_dup C0 dX4_markStale_20 rfl ?_
    refine tg_get 0 3 C0 dX4_markStale_21 (by decide) rfl rfl tu_X4 (by decide) tf_X4_53 rfl rfl rfl ?_
    refine tg_iconst (x := 1) C0 dX4_markStale_24 (by decide) ?_
    refine tg_iload_n 1 C0 dX4_markStale_25 rfl rfl ?_
    refine tg_iconst (x := 4) C0 dX4_markStale_26 (by decide) ?_
    refine tg_idiv C0 dX4_markStale_27 (fun _ => ?_)
    refine tg_ishl C0 dX4_markStale_28 ?_
    refine tg_iconst (x := (-1)) C0 dX4_markStale_29 (by decide) ?_
    refine tg_ixor C0 dX4_markStale_30 ?_
    refine tg_iand C0 dX4_markStale_31 ?_
    refine tg_put 0 3 C0 dX4_markStale_32 (by decide) rfl rfl tu_X4 tyX4_ok nmX4 (by decide) tf_X4_53 rfl rfl rfl rfl rfl rfl ?_
    refine tg_letm (fun v5 _ => ?_)
    refine tg_aload_n 0 C0 dX4_markStale_35 rfl rfl ?_
    refine tg_get 0 7 C0 dX4_markStale_36 (by decide) rfl rfl tu_X4 (by decide) tf_X4_35 rfl rfl rfl ?_
    refine tg_iconst (x := 1) C0 dX4_markStale_39 (by decide) ?_
    refine tg_iload_n 1 C0 dX4_markStale_40 rfl rfl ?_
    refine tg_callVv (As := [.int 1, .int x1]) 10 2 C0 dX4_markStale_41 (c_X1_add l 1 x1 v5) rfl rfl (by decide) rfl rfl (tm_gV tl_X4_190 ti_X1_add ts_X1_add tn_X1 tc_X1_add)  rfl rfl rfl rfl (by decide +kernel) ⟨by decide, by decide⟩ (Nat.le_of_ble_eq_true rfl) ⟨by decide, by decide⟩ (fun v6 _ => ?_)
    exact tg_vret C0 dX4_markStale_44
theorem c_X4_markStale (l : Launch) (x1 : Int32) (v : tmM) : tmMv tm_NWC tm_shC 256 l yX4_markStale (Cond.code yX4_markStale cX4_markStale 2 none :: TMW) ({ frames := 2, cells := 0, slots := 0, locals := 62 } : Room) (fun ad => [.ref (ad 0), .int x1]) v (f_X4_markStale x1 v) :=
  tmMv.of (cc := cX4_markStale) (nL := 2) (by decide +kernel) rfl tm_NWC_ok (fun _ => Nat.le_of_ble_eq_true rfl) (fun p e s m args below meth c A D cy ad z C0 => w_X4_markStale C0 x1 v)
-- ----- X4_writeRow
theorem dX4_writeRow_0 : decode cX4_writeRow 0 = .ok (.aload_n 0, 1) := by decide +kernel
theorem dX4_writeRow_1 : decode cX4_writeRow 1 = .ok (.invokevirtual 86, 3) := by decide +kernel
theorem dX4_writeRow_4 : decode cX4_writeRow 4 = .ok (.istore_n 3, 1) := by decide +kernel
theorem dX4_writeRow_5 : decode cX4_writeRow 5 = .ok (.aload_n 0, 1) := by decide +kernel
theorem dX4_writeRow_6 : decode cX4_writeRow 6 = .ok (.getfield 9, 3) := by decide +kernel
theorem dX4_writeRow_9 : decode cX4_writeRow 9 = .ok (.iconst 2, 1) := by decide +kernel
theorem dX4_writeRow_10 : decode cX4_writeRow 10 = .ok (.if_icmp .ne 21, 3) := by decide +kernel
theorem dX4_writeRow_13 : decode cX4_writeRow 13 = .ok (.aload_n 0, 1) := by decide +kernel
theorem dX4_writeRow_14 : decode cX4_writeRow 14 = .ok (.getfield 42, 3) := by decide +kernel
theorem dX4_writeRow_17 : decode cX4_writeRow 17 = .ok (.iload_n 1, 1) := by decide +kernel
theorem dX4_writeRow_18 : decode cX4_writeRow 18 = .ok (.iload_n 2, 1) := by decide +kernel
theorem dX4_writeRow_19 : decode cX4_writeRow 19 = .ok (.aload_n 0, 1) := by decide +kernel
theorem dX4_writeRow_20 : decode cX4_writeRow 20 = .ok (.getfield 21, 3) := by decide +kernel
theorem dX4_writeRow_23 : decode cX4_writeRow 23 = .ok (.iconst 1, 1) := by decide +kernel
theorem dX4_writeRow_24 : decode cX4_writeRow 24 = .ok (.iload_n 1, 1) := by decide +kernel
theorem dX4_writeRow_25 : decode cX4_writeRow 25 = .ok (.invokevirtual 180, 3) := by decide +kernel
theorem dX4_writeRow_28 : decode cX4_writeRow 28 = .ok (.invokevirtual 183, 3) := by decide +kernel
theorem dX4_writeRow_31 : decode cX4_writeRow 31 = .ok (.aload_n 0, 1) := by decide +kernel
theorem dX4_writeRow_32 : decode cX4_writeRow 32 = .ok (.getfield 21, 3) := by decide +kernel
theorem dX4_writeRow_35 : decode cX4_writeRow 35 = .ok (.iload_n 3, 1) := by decide +kernel
theorem dX4_writeRow_36 : decode cX4_writeRow 36 = .ok (.iload_n 1, 1) := by decide +kernel
theorem dX4_writeRow_37 : decode cX4_writeRow 37 = .ok (.iload_n 2, 1) := by decide +kernel
theorem dX4_writeRow_38 : decode cX4_writeRow 38 = .ok (.invokevirtual 187, 3) := by decide +kernel
theorem dX4_writeRow_41 : decode cX4_writeRow 41 = .ok (.aload_n 0, 1) := by decide +kernel
theorem dX4_writeRow_42 : decode cX4_writeRow 42 = .ok (.getfield 46, 3) := by decide +kernel
theorem dX4_writeRow_45 : decode cX4_writeRow 45 = .ok (.iload_n 1, 1) := by decide +kernel
theorem dX4_writeRow_46 : decode cX4_writeRow 46 = .ok (.dup2, 1) := by decide +kernel
theorem dX4_writeRow_47 : decode cX4_writeRow 47 = .ok (.iaload, 1) := by decide +kernel
theorem dX4_writeRow_48 : decode cX4_writeRow 48 = .ok (.iconst 1, 1) := by decide +kernel
theorem dX4_writeRow_49 : decode cX4_writeRow 49 = .ok (.iadd, 1) := by decide +kernel
theorem dX4_writeRow_50 : decode cX4_writeRow 50 = .ok (.iastore, 1) := by decide +kernel
theorem dX4_writeRow_51 : decode cX4_writeRow 51 = .ok (.aload_n 0, 1) := by decide +kernel
theorem dX4_writeRow_52 : decode cX4_writeRow 52 = .ok (.getfield 35, 3) := by decide +kernel
theorem dX4_writeRow_55 : decode cX4_writeRow 55 = .ok (.iconst 0, 1) := by decide +kernel
theorem dX4_writeRow_56 : decode cX4_writeRow 56 = .ok (.iload_n 1, 1) := by decide +kernel
theorem dX4_writeRow_57 : decode cX4_writeRow 57 = .ok (.invokevirtual 190, 3) := by decide +kernel
theorem dX4_writeRow_60 : decode cX4_writeRow 60 = .ok (.aload_n 0, 1) := by decide +kernel
theorem dX4_writeRow_61 : decode cX4_writeRow 61 = .ok (.invokevirtual 126, 3) := by decide +kernel
theorem dX4_writeRow_64 : decode cX4_writeRow 64 = .ok (.ifCond .ne 4, 3) := by decide +kernel
theorem dX4_writeRow_67 : decode cX4_writeRow 67 = .ok (.return_, 1) := by decide +kernel
theorem dX4_writeRow_68 : decode cX4_writeRow 68 = .ok (.aload_n 0, 1) := by decide +kernel
theorem dX4_writeRow_69 : decode cX4_writeRow 69 = .ok (.getfield 15, 3) := by decide +kernel
theorem dX4_writeRow_72 : decode cX4_writeRow 72 = .ok (.iconst 1, 1) := by decide +kernel
theorem dX4_writeRow_73 : decode cX4_writeRow 73 = .ok (.iload_n 3, 1) := by decide +kernel
theorem dX4_writeRow_74 : decode cX4_writeRow 74 = .ok (.isub, 1) := by decide +kernel
theorem dX4_writeRow_75 : decode cX4_writeRow 75 = .ok (.invokestatic 78, 3) := by decide +kernel
theorem dX4_writeRow_78 : decode cX4_writeRow 78 = .ok (.ifCond .eq 11, 3) := by decide +kernel
theorem dX4_writeRow_81 : decode cX4_writeRow 81 = .ok (.aload_n 0, 1) := by decide +kernel
theorem dX4_writeRow_82 : decode cX4_writeRow 82 = .ok (.iload_n 1, 1) := by decide +kernel
theorem dX4_writeRow_83 : decode cX4_writeRow 83 = .ok (.invokevirtual 193, 3) := by decide +kernel
theorem dX4_writeRow_86 : decode cX4_writeRow 86 = .ok (.goto 8, 3) := by decide +kernel
theorem dX4_writeRow_89 : decode cX4_writeRow 89 = .ok (.aload_n 0, 1) := by decide +kernel
theorem dX4_writeRow_90 : decode cX4_writeRow 90 = .ok (.iload_n 1, 1) := by decide +kernel
theorem dX4_writeRow_91 : decode cX4_writeRow 91 = .ok (.invokevirtual 196, 3) := by decide +kernel
theorem dX4_writeRow_94 : decode cX4_writeRow 94 = .ok (.return_, 1) := by decide +kernel
theorem tf_X4_46 : Cond.fieldLink RX4 46 "TableMove$State" (TX4 9).2.1 (TX4 9).2.2.1 ∈ TMW := tm_in 247 (by decide +kernel) (by decide +kernel)
theorem tl_X4_196 : Cond.methodLink RX4 196 yX4_markStale ∈ TMW := tm_in 567 (by decide +kernel) (by decide +kernel)
theorem ti_X4_markStale : Cond.instanceMethod yX4_markStale ∈ TMW := tm_in 569 (by decide +kernel) (by decide +kernel)
theorem ts_X4_markStale : Cond.selects RX4 yX4_markStale yX4_markStale ∈ TMW := tm_in 13 (by decide +kernel) (by decide +kernel)
theorem tc_X4_markStale : Cond.code yX4_markStale cX4_markStale 2 none ∈ TMW := tm_in 570 (by decide +kernel) (by decide +kernel)
theorem tl_X4_193 : Cond.methodLink RX4 193 yX4_makeSame ∈ TMW := tm_in 555 (by decide +kernel) (by decide +kernel)
theorem ti_X4_makeSame : Cond.instanceMethod yX4_makeSame ∈ TMW := tm_in 557 (by decide +kernel) (by decide +kernel)
theorem ts_X4_makeSame : Cond.selects RX4 yX4_makeSame yX4_makeSame ∈ TMW := tm_in 11 (by decide +kernel) (by decide +kernel)
theorem tc_X4_makeSame : Cond.code yX4_makeSame cX4_makeSame 4 none ∈ TMW := tm_in 558 (by decide +kernel) (by decide +kernel)
theorem tf_X4_42 : Cond.fieldLink RX4 42 "TableMove$State" (TX4 8).2.1 (TX4 8).2.2.1 ∈ TMW := tm_in 245 (by decide +kernel) (by decide +kernel)
theorem tl_X4_183 : Cond.methodLink RX4 183 yX6_add ∈ TMW := tm_in 535 (by decide +kernel) (by decide +kernel)
theorem ti_X6_add : Cond.instanceMethod yX6_add ∈ TMW := tm_in 536 (by decide +kernel) (by decide +kernel)
theorem ts_X6_add : Cond.selects RX6 yX6_add yX6_add ∈ TMW := tm_in 537 (by decide +kernel) (by decide +kernel)
theorem tn_X6 : Cond.initialized RX6 ∈ TMW := tm_in 115 (by decide +kernel) (by decide +kernel)
theorem tc_X6_add : Cond.code yX6_add cX6_add 5 none ∈ TMW := tm_in 538 (by decide +kernel) (by decide +kernel)
def f_X4_writeRow_31 (x1 x2 x3 : Int32) (v : tmM) : Option (Unit × tmM) := tm_cl (f_X5_store x3 x1 x2 v) fun _ v3 => tm_g (tm_ix x1 60) (tm_g (tm_ix x1 60) (tm_lt (tm_up v3 18 x1.toNatClampNeg ((v3 18 x1.toNatClampNeg) + 1)) fun v5 => tm_cl (f_X1_add 0 x1 v5) fun _ v6 => tm_cl (f_X4_isDouble v6) fun r9 v8 => (if r9 = 0 then some ((), v8) else tm_cl (f_X7_has (v8 0 1) (1 - x3) v8) fun r11 v10 => (if r11 = 0 then tm_cl (f_X4_markStale x1 v10) fun _ v12 => some ((), v12) else tm_cl (f_X4_makeSame x1 v10) fun _ v14 => some ((), v14)))))
set_option maxRecDepth 100000 in
set_option maxHeartbeats 4000000 in
theorem w_X4_writeRow_31 {p : Program} {l : Launch} {e : Env} {s : State} {m : MethodId} {args : Array Value} {below : List Frame} {meth : Method} {c : Code} {D : va_G} {cy : Nat → ClassId} {ad : Nat → Nat} {A : Nat → Prop} {z : (Unit × tmM)} (C0 : tmC p s m args meth c cX4_writeRow 4 none RX4 TMW tm_NWC D cy tm_shC ad 256 [] A) (x1 x2 x3 : Int32) (v : tmM) : tmG p l e ({ frames := 3, cells := 0, slots := 0, locals := 85 } : Room) s m args below meth c 0 0 (MQ below (va_Qv (fun u => z = ((), u)) (tmAt tm_shC 256 D cy ad A) A) args s 0 0 A) 4 D cy tm_shC ad 256 [] A z 31 [(0, .ref (ad 0)), (1, .int x1), (2, .int x2), (3, .int x3)] [] v (f_X4_writeRow_31 x1 x2 x3 v) := by
  unfold f_X4_writeRow_31
  refine tg_aload_n 0 C0 dX4_writeRow_31 rfl rfl ?_
  refine tg_get 0 5 C0 dX4_writeRow_32 (by decide) rfl rfl tu_X4 (by decide) tf_X4_21 rfl rfl rfl ?_
  refine tg_iload_n 3 C0 dX4_writeRow_35 rfl rfl ?_
  refine tg_iload_n 1 C0 dX4_writeRow_36 rfl rfl ?_
  refine tg_iload_n 2 C0 dX4_writeRow_37 rfl rfl ?_
  refine tg_callVv (As := [.int x3, .int x1, .int x2]) 1 3 C0 dX4_writeRow_38 (c_X5_store l x3 x1 x2 v) rfl rfl (by decide) rfl rfl (tm_gV tl_X4_187 ti_X5_store ts_X5_store tn_X5 tc_X5_store)  rfl rfl rfl rfl (by decide +kernel) ⟨by decide, by decide⟩ (Nat.le_of_ble_eq_true rfl) ⟨by decide, by decide⟩ (fun v3 _ => ?_)
  refine tg_aload_n 0 C0 dX4_writeRow_41 rfl rfl ?_
  refine tg_get 0 9 C0 dX4_writeRow_42 (by decide) rfl rfl tu_X4 (by decide) tf_X4_46 rfl rfl rfl ?_
  refine tg_iload_n 1 C0 dX4_writeRow_45 rfl rfl ?_
  refine tg_dup2 C0 dX4_writeRow_46 ⟨rfl, rfl⟩ ?_
  refine tg_iald 18 C0 dX4_writeRow_47 (by decide) rfl (fun _ => ?_)
  refine tg_iconst (x := 1) C0 dX4_writeRow_48 (by decide) ?_
  refine tg_iadd C0 dX4_writeRow_49 ?_
  refine tg_iast 18 C0 dX4_writeRow_50 (by decide) rfl (fun _ => ?_)
  refine tg_letm (fun v5 _ => ?_)
  refine tg_aload_n 0 C0 dX4_writeRow_51 rfl rfl ?_
  refine tg_get 0 7 C0 dX4_writeRow_52 (by decide) rfl rfl tu_X4 (by decide) tf_X4_35 rfl rfl rfl ?_
  refine tg_iconst (x := 0) C0 dX4_writeRow_55 (by decide) ?_
  refine tg_iload_n 1 C0 dX4_writeRow_56 rfl rfl ?_
  refine tg_callVv (As := [.int 0, .int x1]) 10 2 C0 dX4_writeRow_57 (c_X1_add l 0 x1 v5) rfl rfl (by decide) rfl rfl (tm_gV tl_X4_190 ti_X1_add ts_X1_add tn_X1 tc_X1_add)  rfl rfl rfl rfl (by decide +kernel) ⟨by decide, by decide⟩ (Nat.le_of_ble_eq_true rfl) ⟨by decide, by decide⟩ (fun v6 _ => ?_)
  refine tg_aload_n 0 C0 dX4_writeRow_60 rfl rfl ?_
  refine tg_callVi (As := []) 0 0 C0 dX4_writeRow_61 (c_X4_isDouble l v6) rfl rfl (by decide) rfl rfl (tm_gV tl_X4_126 ti_X4_isDouble ts_X4_isDouble tn_X4 tc_X4_isDouble)  rfl rfl rfl rfl (by decide +kernel) ⟨by decide, by decide⟩ (Nat.le_of_ble_eq_true rfl) ⟨by decide, by decide⟩ (fun r9 v8 _ => ?_)
  refine tg_if_ne 68 C0 dX4_writeRow_64 (by decide) (fun _ => ?_) (fun _ => ?_)
  · refine tg_aload_n 0 C0 dX4_writeRow_68 rfl rfl ?_
    refine tg_get 0 1 C0 dX4_writeRow_69 (by decide) rfl rfl tu_X4 (by decide) tf_X4_15 rfl rfl rfl ?_
    refine tg_iconst (x := 1) C0 dX4_writeRow_72 (by decide) ?_
    refine tg_iload_n 3 C0 dX4_writeRow_73 rfl rfl ?_
    refine tg_isub C0 dX4_writeRow_74 ?_
    refine tg_callSNi (As := [.int (v8 0 1), .int (1 - x3)]) 2 C0 dX4_writeRow_75 (c_X7_has l (v8 0 1) (1 - x3) v8) rfl rfl (tm_gc tc_X7_has) tm_nwC_X4_78 tn_X7 tst_X7_has rfl rfl rfl rfl (by decide +kernel) ⟨by decide, by decide⟩ (Nat.le_of_ble_eq_true rfl) ⟨by decide, by decide⟩ (fun r11 v10 _ => ?_)
    refine tg_if_eq 89 C0 dX4_writeRow_78 (by decide) (fun _ => ?_) (fun _ => ?_)
    · refine tg_aload_n 0 C0 dX4_writeRow_89 rfl rfl ?_
      refine tg_iload_n 1 C0 dX4_writeRow_90 rfl rfl ?_
      refine tg_callVv (As := [.int x1]) 0 1 C0 dX4_writeRow_91 (c_X4_markStale l x1 v10) rfl rfl (by decide) rfl rfl (tm_gV tl_X4_196 ti_X4_markStale ts_X4_markStale tn_X4 tc_X4_markStale)  rfl rfl rfl rfl (by decide +kernel) ⟨by decide, by decide⟩ (Nat.le_of_ble_eq_true rfl) ⟨by decide, by decide⟩ (fun v12 _ => ?_)
      exact tg_vret C0 dX4_writeRow_94
    · refine tg_aload_n 0 C0 dX4_writeRow_81 rfl rfl ?_
      refine tg_iload_n 1 C0 dX4_writeRow_82 rfl rfl ?_
      refine tg_callVv (As := [.int x1]) 0 1 C0 dX4_writeRow_83 (c_X4_makeSame l x1 v10) rfl rfl (by decide) rfl rfl (tm_gV tl_X4_193 ti_X4_makeSame ts_X4_makeSame tn_X4 tc_X4_makeSame)  rfl rfl rfl rfl (by decide +kernel) ⟨by decide, by decide⟩ (Nat.le_of_ble_eq_true rfl) ⟨by decide, by decide⟩ (fun v14 _ => ?_)
      refine tg_goto 94 C0 dX4_writeRow_86 (by decide) ?_
      exact tg_vret C0 dX4_writeRow_94
  · exact tg_vret C0 dX4_writeRow_67
def f_X4_writeRow (x1 x2 : Int32) (v : tmM) : Option (Unit × tmM) := tm_cl (f_X4_leader v) fun r2 v1 => (if (v1 0 0) = 2 then tm_cl (f_X5_valueAt 1 x1 v1) fun r17 v16 => tm_cl (f_X6_add x1 x2 r17 v16) fun _ v18 => f_X4_writeRow_31 x1 x2 r2 v18 else f_X4_writeRow_31 x1 x2 r2 v1)
set_option maxRecDepth 100000 in
set_option maxHeartbeats 4000000 in
theorem w_X4_writeRow {p : Program} {l : Launch} {e : Env} {s : State} {m : MethodId} {args : Array Value} {below : List Frame} {meth : Method} {c : Code} {D : va_G} {cy : Nat → ClassId} {ad : Nat → Nat} {A : Nat → Prop} {z : (Unit × tmM)} (C0 : tmC p s m args meth c cX4_writeRow 4 none RX4 TMW tm_NWC D cy tm_shC ad 256 [] A) (x1 x2 : Int32) (v : tmM) : tmG p l e ({ frames := 3, cells := 0, slots := 0, locals := 85 } : Room) s m args below meth c 0 0 (MQ below (va_Qv (fun u => z = ((), u)) (tmAt tm_shC 256 D cy ad A) A) args s 0 0 A) 4 D cy tm_shC ad 256 [] A z 0 [(0, .ref (ad 0)), (1, .int x1), (2, .int x2)] [] v (f_X4_writeRow x1 x2 v) := by
  unfold f_X4_writeRow
  refine tg_aload_n 0 C0 dX4_writeRow_0 rfl rfl ?_
  refine tg_callVi (As := []) 0 0 C0 dX4_writeRow_1 (c_X4_leader l v) rfl rfl (by decide) rfl rfl (tm_gV tl_X4_86 ti_X4_leader ts_X4_leader tn_X4 tc_X4_leader)  rfl rfl rfl rfl (by decide +kernel) ⟨by decide, by decide⟩ (Nat.le_of_ble_eq_true rfl) ⟨by decide, by decide⟩ (fun r2 v1 _ => ?_)
  refine tg_istore_n [(3, .int r2), (0, .ref (ad 0)), (1, .int x1), (2, .int x2)] C0 dX4_writeRow_4 rfl (by decide) rfl ?_
  refine tg_aload_n 1 C0 dX4_writeRow_5 rfl rfl ?_
  refine tg_get 0 0 C0 dX4_writeRow_6 (by decide) rfl rfl tu_X4 (by decide) tf_X4_9 rfl rfl rfl ?_
  refine tg_iconst (x := 2) C0 dX4_writeRow_9 (by decide) ?_
  refine tg_icmp_ne 31 C0 dX4_writeRow_10 (by decide) (fun _ => ?_) (fun _ => ?_)
  · refine tg_sub [1, 2, 3, 0] rfl ?_
    exact w_X4_writeRow_31 C0 x1 x2 r2 v1
  · refine tg_aload_n 1 C0 dX4_writeRow_13 rfl rfl ?_
    refine tg_get 0 8 C0 dX4_writeRow_14 (by decide) rfl rfl tu_X4 (by decide) tf_X4_42 rfl rfl rfl ?_
    refine tg_iload_n 2 C0 dX4_writeRow_17 rfl rfl ?_
    refine tg_iload_n 3 C0 dX4_writeRow_18 rfl rfl ?_
    refine tg_aload_n 1 C0 dX4_writeRow_19 rfl rfl ?_
    refine tg_get 0 5 C0 dX4_writeRow_20 (by decide) rfl rfl tu_X4 (by decide) tf_X4_21 rfl rfl rfl ?_
    refine tg_iconst (x := 1) C0 dX4_writeRow_23 (by decide) ?_
    refine tg_iload_n 2 C0 dX4_writeRow_24 rfl rfl ?_
    refine tg_callVi (As := [.int 1, .int x1]) 1 2 C0 dX4_writeRow_25 (c_X5_valueAt l 1 x1 v1) rfl rfl (by decide) rfl rfl (tm_gV tl_X4_180 ti_X5_valueAt ts_X5_valueAt tn_X5 tc_X5_valueAt)  rfl rfl rfl rfl (by decide +kernel) ⟨by decide, by decide⟩ (Nat.le_of_ble_eq_true rfl) ⟨by decide, by decide⟩ (fun r17 v16 _ => ?_)
    refine tg_callVv (As := [.int x1, .int x2, .int r17]) 13 3 C0 dX4_writeRow_28 (c_X6_add l x1 x2 r17 v16) rfl rfl (by decide) rfl rfl (tm_gV tl_X4_183 ti_X6_add ts_X6_add tn_X6 tc_X6_add)  rfl rfl rfl rfl (by decide +kernel) ⟨by decide, by decide⟩ (Nat.le_of_ble_eq_true rfl) ⟨by decide, by decide⟩ (fun v18 _ => ?_)
    refine tg_sub [1, 2, 3, 0] rfl ?_
    exact w_X4_writeRow_31 C0 x1 x2 r2 v18
theorem c_X4_writeRow (l : Launch) (x1 x2 : Int32) (v : tmM) : tmMv tm_NWC tm_shC 256 l yX4_writeRow (Cond.code yX4_writeRow cX4_writeRow 4 none :: TMW) ({ frames := 3, cells := 0, slots := 0, locals := 85 } : Room) (fun ad => [.ref (ad 0), .int x1, .int x2]) v (f_X4_writeRow x1 x2 v) :=
  tmMv.of (cc := cX4_writeRow) (nL := 4) (by decide +kernel) rfl tm_NWC_ok (fun _ => Nat.le_of_ble_eq_true rfl) (fun p e s m args below meth c A D cy ad z C0 => w_X4_writeRow C0 x1 x2 v)
-- ----- X4_copyLowest
theorem dX4_copyLowest_0 : decode cX4_copyLowest 0 = .ok (.iload_n 1, 1) := by decide +kernel
theorem dX4_copyLowest_1 : decode cX4_copyLowest 1 = .ok (.istore_n 2, 1) := by decide +kernel
theorem dX4_copyLowest_2 : decode cX4_copyLowest 2 = .ok (.iconst 0, 1) := by decide +kernel
theorem dX4_copyLowest_3 : decode cX4_copyLowest 3 = .ok (.istore_n 3, 1) := by decide +kernel
theorem dX4_copyLowest_4 : decode cX4_copyLowest 4 = .ok (.iload_n 3, 1) := by decide +kernel
theorem dX4_copyLowest_5 : decode cX4_copyLowest 5 = .ok (.bipush 15, 2) := by decide +kernel
theorem dX4_copyLowest_7 : decode cX4_copyLowest 7 = .ok (.if_icmp .ge 92, 3) := by decide +kernel
theorem dX4_copyLowest_10 : decode cX4_copyLowest 10 = .ok (.iload_n 2, 1) := by decide +kernel
theorem dX4_copyLowest_11 : decode cX4_copyLowest 11 = .ok (.ifCond .le 88, 3) := by decide +kernel
theorem dX4_copyLowest_14 : decode cX4_copyLowest 14 = .ok (.aload_n 0, 1) := by decide +kernel
theorem dX4_copyLowest_15 : decode cX4_copyLowest 15 = .ok (.getfield 50, 3) := by decide +kernel
theorem dX4_copyLowest_18 : decode cX4_copyLowest 18 = .ok (.iload_n 3, 1) := by decide +kernel
theorem dX4_copyLowest_19 : decode cX4_copyLowest 19 = .ok (.invokestatic 78, 3) := by decide +kernel
theorem dX4_copyLowest_22 : decode cX4_copyLowest 22 = .ok (.ifCond .eq 6, 3) := by decide +kernel
theorem dX4_copyLowest_25 : decode cX4_copyLowest 25 = .ok (.goto 68, 3) := by decide +kernel
theorem dX4_copyLowest_28 : decode cX4_copyLowest 28 = .ok (.iload_n 3, 1) := by decide +kernel
theorem dX4_copyLowest_29 : decode cX4_copyLowest 29 = .ok (.invokestatic 207, 3) := by decide +kernel
theorem dX4_copyLowest_32 : decode cX4_copyLowest 32 = .ok (.istore 4, 2) := by decide +kernel
theorem dX4_copyLowest_34 : decode cX4_copyLowest 34 = .ok (.iload 4, 2) := by decide +kernel
theorem dX4_copyLowest_36 : decode cX4_copyLowest 36 = .ok (.iload_n 3, 1) := by decide +kernel
theorem dX4_copyLowest_37 : decode cX4_copyLowest 37 = .ok (.invokestatic 210, 3) := by decide +kernel
theorem dX4_copyLowest_40 : decode cX4_copyLowest 40 = .ok (.if_icmp .gt 15, 3) := by decide +kernel
theorem dX4_copyLowest_43 : decode cX4_copyLowest 43 = .ok (.aload_n 0, 1) := by decide +kernel
theorem dX4_copyLowest_44 : decode cX4_copyLowest 44 = .ok (.iload 4, 2) := by decide +kernel
theorem dX4_copyLowest_46 : decode cX4_copyLowest 46 = .ok (.invokevirtual 193, 3) := by decide +kernel
theorem dX4_copyLowest_49 : decode cX4_copyLowest 49 = .ok (.iinc 4 1, 3) := by decide +kernel
theorem dX4_copyLowest_52 : decode cX4_copyLowest 52 = .ok (.goto (-18), 3) := by decide +kernel
theorem dX4_copyLowest_55 : decode cX4_copyLowest 55 = .ok (.aload_n 0, 1) := by decide +kernel
theorem dX4_copyLowest_56 : decode cX4_copyLowest 56 = .ok (.dup, 1) := by decide +kernel
theorem dX4_copyLowest_57 : decode cX4_copyLowest 57 = .ok (.getfield 50, 3) := by decide +kernel
theorem dX4_copyLowest_60 : decode cX4_copyLowest 60 = .ok (.iconst 1, 1) := by decide +kernel
theorem dX4_copyLowest_61 : decode cX4_copyLowest 61 = .ok (.iload_n 3, 1) := by decide +kernel
theorem dX4_copyLowest_62 : decode cX4_copyLowest 62 = .ok (.ishl, 1) := by decide +kernel
theorem dX4_copyLowest_63 : decode cX4_copyLowest 63 = .ok (.ior, 1) := by decide +kernel
theorem dX4_copyLowest_64 : decode cX4_copyLowest 64 = .ok (.putfield 50, 3) := by decide +kernel
theorem dX4_copyLowest_67 : decode cX4_copyLowest 67 = .ok (.aload_n 0, 1) := by decide +kernel
theorem dX4_copyLowest_68 : decode cX4_copyLowest 68 = .ok (.dup, 1) := by decide +kernel
theorem dX4_copyLowest_69 : decode cX4_copyLowest 69 = .ok (.getfield 53, 3) := by decide +kernel
theorem dX4_copyLowest_72 : decode cX4_copyLowest 72 = .ok (.iconst 1, 1) := by decide +kernel
theorem dX4_copyLowest_73 : decode cX4_copyLowest 73 = .ok (.iload_n 3, 1) := by decide +kernel
theorem dX4_copyLowest_74 : decode cX4_copyLowest 74 = .ok (.ishl, 1) := by decide +kernel
theorem dX4_copyLowest_75 : decode cX4_copyLowest 75 = .ok (.iconst (-1), 1) := by decide +kernel
theorem dX4_copyLowest_76 : decode cX4_copyLowest 76 = .ok (.ixor, 1) := by decide +kernel
theorem dX4_copyLowest_77 : decode cX4_copyLowest 77 = .ok (.iand, 1) := by decide +kernel
theorem dX4_copyLowest_78 : decode cX4_copyLowest 78 = .ok (.putfield 53, 3) := by decide +kernel
theorem dX4_copyLowest_81 : decode cX4_copyLowest 81 = .ok (.aload_n 0, 1) := by decide +kernel
theorem dX4_copyLowest_82 : decode cX4_copyLowest 82 = .ok (.getfield 35, 3) := by decide +kernel
theorem dX4_copyLowest_85 : decode cX4_copyLowest 85 = .ok (.iconst 2, 1) := by decide +kernel
theorem dX4_copyLowest_86 : decode cX4_copyLowest 86 = .ok (.iload_n 3, 1) := by decide +kernel
theorem dX4_copyLowest_87 : decode cX4_copyLowest 87 = .ok (.invokevirtual 190, 3) := by decide +kernel
theorem dX4_copyLowest_90 : decode cX4_copyLowest 90 = .ok (.iinc 2 (-1), 3) := by decide +kernel
theorem dX4_copyLowest_93 : decode cX4_copyLowest 93 = .ok (.iinc 3 1, 3) := by decide +kernel
theorem dX4_copyLowest_96 : decode cX4_copyLowest 96 = .ok (.goto (-92), 3) := by decide +kernel
theorem dX4_copyLowest_99 : decode cX4_copyLowest 99 = .ok (.return_, 1) := by decide +kernel
def f_X4_copyLowest_34b (K0 : Int32 → Int32 → tmM → Option (Unit × tmM)) (L : Int32 → Int32 → Int32 → tmM → Option (Unit × tmM)) (x2 x3 x4 : Int32) (v : tmM) : Option (Unit × tmM) := tm_cl (f_X7_lastKey x3 v) fun r6 v5 => (if r6 < x4 then K0 x2 x3 v5 else tm_cl (f_X4_makeSame x4 v5) fun _ v7 => L x2 x3 (x4 + 1) v7)
set_option maxRecDepth 100000 in
set_option maxHeartbeats 4000000 in
theorem w_X4_copyLowest_34b {p : Program} {l : Launch} {e : Env} {s : State} {m : MethodId} {args : Array Value} {below : List Frame} {meth : Method} {c : Code} {D : va_G} {cy : Nat → ClassId} {ad : Nat → Nat} {A : Nat → Prop} {z : (Unit × tmM)} {K0 : Int32 → Int32 → tmM → Option (Unit × tmM)} {L : Int32 → Int32 → Int32 → tmM → Option (Unit × tmM)} (C0 : tmC p s m args meth c cX4_copyLowest 5 none RX4 TMW tm_NWC D cy tm_shC ad 256 [] A) (hK0 : ∀ (a2 a3 : Int32) (w : tmM), tmG p l e ({ frames := 3, cells := 0, slots := 0, locals := 85 } : Room) s m args below meth c 0 0 (MQ below (va_Qv (fun u => z = ((), u)) (tmAt tm_shC 256 D cy ad A) A) args s 0 0 A) 5 D cy tm_shC ad 256 [] A z 55 [(0, .ref (ad 0)), (2, .int a2), (3, .int a3)] [] w (K0 a2 a3 w)) (hL : ∀ (a2 a3 a4 : Int32) (w : tmM), tmG p l e ({ frames := 3, cells := 0, slots := 0, locals := 85 } : Room) s m args below meth c 0 0 (MQ below (va_Qv (fun u => z = ((), u)) (tmAt tm_shC 256 D cy ad A) A) args s 0 0 A) 5 D cy tm_shC ad 256 [] A z 34 [(0, .ref (ad 0)), (2, .int a2), (3, .int a3), (4, .int a4)] [] w (L a2 a3 a4 w)) (x2 x3 x4 : Int32) (v : tmM) : tmG p l e ({ frames := 3, cells := 0, slots := 0, locals := 85 } : Room) s m args below meth c 0 0 (MQ below (va_Qv (fun u => z = ((), u)) (tmAt tm_shC 256 D cy ad A) A) args s 0 0 A) 5 D cy tm_shC ad 256 [] A z 34 [(0, .ref (ad 0)), (2, .int x2), (3, .int x3), (4, .int x4)] [] v (f_X4_copyLowest_34b K0 L x2 x3 x4 v) := by
  unfold f_X4_copyLowest_34b
  refine tg_iload 3 C0 dX4_copyLowest_34 rfl ?_
  refine tg_iload_n 2 C0 dX4_copyLowest_36 rfl rfl ?_
  refine tg_callSNi (As := [.int x3]) 1 C0 dX4_copyLowest_37 (c_X7_lastKey l x3 v) rfl rfl (tm_gc tc_X7_lastKey) tm_nwC_X4_210 tn_X7 tst_X7_lastKey rfl rfl rfl rfl (by decide +kernel) ⟨by decide, by decide⟩ (Nat.le_of_ble_eq_true rfl) ⟨by decide, by decide⟩ (fun r6 v5 _ => ?_)
  refine tg_icmp_gt 55 C0 dX4_copyLowest_40 (by decide) (fun _ => ?_) (fun _ => ?_)
  · refine tg_sub [0, 1, 2] rfl ?_
    exact hK0 x2 x3 v5
  · refine tg_aload_n 0 C0 dX4_copyLowest_43 rfl rfl ?_
    refine tg_iload 3 C0 dX4_copyLowest_44 rfl ?_
    refine tg_callVv (As := [.int x4]) 0 1 C0 dX4_copyLowest_46 (c_X4_makeSame l x4 v5) rfl rfl (by decide) rfl rfl (tm_gV tl_X4_193 ti_X4_makeSame ts_X4_makeSame tn_X4 tc_X4_makeSame)  rfl rfl rfl rfl (by decide +kernel) ⟨by decide, by decide⟩ (Nat.le_of_ble_eq_true rfl) ⟨by decide, by decide⟩ (fun v7 _ => ?_)
    refine tg_iinc [(4, .int (x4 + 1)), (0, .ref (ad 0)), (2, .int x2), (3, .int x3)] 3 C0 dX4_copyLowest_49 rfl rfl (by decide) rfl ?_
    refine tg_goto 34 C0 dX4_copyLowest_52 (by decide) ?_
    refine tg_sub [1, 2, 3, 0] rfl ?_
    exact hL x2 x3 (x4 + 1) v7
def f_X4_copyLowest_34 (K0 : Int32 → Int32 → tmM → Option (Unit × tmM)) : Nat → Int32 → Int32 → Int32 → tmM → Option (Unit × tmM)
  | 0 => fun _ _ _ _ => none
  | n + 1 => f_X4_copyLowest_34b K0 (f_X4_copyLowest_34 K0 n)
theorem w_X4_copyLowest_34 {p : Program} {l : Launch} {e : Env} {s : State} {m : MethodId} {args : Array Value} {below : List Frame} {meth : Method} {c : Code} {D : va_G} {cy : Nat → ClassId} {ad : Nat → Nat} {A : Nat → Prop} {z : (Unit × tmM)} {K0 : Int32 → Int32 → tmM → Option (Unit × tmM)} (C0 : tmC p s m args meth c cX4_copyLowest 5 none RX4 TMW tm_NWC D cy tm_shC ad 256 [] A) (hK0 : ∀ (a2 a3 : Int32) (w : tmM), tmG p l e ({ frames := 3, cells := 0, slots := 0, locals := 85 } : Room) s m args below meth c 0 0 (MQ below (va_Qv (fun u => z = ((), u)) (tmAt tm_shC 256 D cy ad A) A) args s 0 0 A) 5 D cy tm_shC ad 256 [] A z 55 [(0, .ref (ad 0)), (2, .int a2), (3, .int a3)] [] w (K0 a2 a3 w)) (nn : Nat) : ∀ (x2 x3 x4 : Int32) (v : tmM), tmG p l e ({ frames := 3, cells := 0, slots := 0, locals := 85 } : Room) s m args below meth c 0 0 (MQ below (va_Qv (fun u => z = ((), u)) (tmAt tm_shC 256 D cy ad A) A) args s 0 0 A) 5 D cy tm_shC ad 256 [] A z 34 [(0, .ref (ad 0)), (2, .int x2), (3, .int x3), (4, .int x4)] [] v (f_X4_copyLowest_34 K0 nn x2 x3 x4 v) := by
  induction nn with
  | zero => intro _ _ _ _; exact tg_none
  | succ n ih => intro x2 x3 x4 v; exact w_X4_copyLowest_34b C0 hK0 ih x2 x3 x4 v
def f_X4_copyLowest_93 (K0 : tmM → Option (Unit × tmM)) (L : Int32 → Int32 → tmM → Option (Unit × tmM)) (x2 x3 : Int32) (v : tmM) : Option (Unit × tmM) := L x2 (x3 + 1) v
set_option maxRecDepth 100000 in
set_option maxHeartbeats 4000000 in
theorem w_X4_copyLowest_93 {p : Program} {l : Launch} {e : Env} {s : State} {m : MethodId} {args : Array Value} {below : List Frame} {meth : Method} {c : Code} {D : va_G} {cy : Nat → ClassId} {ad : Nat → Nat} {A : Nat → Prop} {z : (Unit × tmM)} {K0 : tmM → Option (Unit × tmM)} {L : Int32 → Int32 → tmM → Option (Unit × tmM)} (C0 : tmC p s m args meth c cX4_copyLowest 5 none RX4 TMW tm_NWC D cy tm_shC ad 256 [] A) (hK0 : ∀ (w : tmM), tmG p l e ({ frames := 3, cells := 0, slots := 0, locals := 85 } : Room) s m args below meth c 0 0 (MQ below (va_Qv (fun u => z = ((), u)) (tmAt tm_shC 256 D cy ad A) A) args s 0 0 A) 5 D cy tm_shC ad 256 [] A z 99 [] [] w (K0 w)) (hL : ∀ (a2 a3 : Int32) (w : tmM), tmG p l e ({ frames := 3, cells := 0, slots := 0, locals := 85 } : Room) s m args below meth c 0 0 (MQ below (va_Qv (fun u => z = ((), u)) (tmAt tm_shC 256 D cy ad A) A) args s 0 0 A) 5 D cy tm_shC ad 256 [] A z 4 [(0, .ref (ad 0)), (2, .int a2), (3, .int a3)] [] w (L a2 a3 w)) (x2 x3 : Int32) (v : tmM) : tmG p l e ({ frames := 3, cells := 0, slots := 0, locals := 85 } : Room) s m args below meth c 0 0 (MQ below (va_Qv (fun u => z = ((), u)) (tmAt tm_shC 256 D cy ad A) A) args s 0 0 A) 5 D cy tm_shC ad 256 [] A z 93 [(0, .ref (ad 0)), (2, .int x2), (3, .int x3)] [] v (f_X4_copyLowest_93 K0 L x2 x3 v) := by
  unfold f_X4_copyLowest_93
  refine tg_iinc [(3, .int (x3 + 1)), (0, .ref (ad 0)), (2, .int x2)] 2 C0 dX4_copyLowest_93 rfl rfl (by decide) rfl ?_
  refine tg_goto 4 C0 dX4_copyLowest_96 (by decide) ?_
  refine tg_sub [1, 2, 0] rfl ?_
  exact hL x2 (x3 + 1) v
def f_X4_copyLowest_4b (K0 : tmM → Option (Unit × tmM)) (L : Int32 → Int32 → tmM → Option (Unit × tmM)) (x2 x3 : Int32) (v : tmM) : Option (Unit × tmM) := (if 15 ≤ x3 then K0 v else (if x2 ≤ 0 then K0 v else tm_cl (f_X7_has (v 0 2) x3 v) fun r2 v1 => (if r2 = 0 then tm_cl (f_X7_firstKey x3 v1) fun r4 v3 => f_X4_copyLowest_34 (fun x9 x10 v11 => tm_lt (tm_up v11 0 2 ((v11 0 2) ||| (1 <<< (x10 &&& 31)))) fun v12 => tm_lt (tm_up v12 0 3 ((v12 0 3) &&& ((1 <<< (x10 &&& 31)) ^^^ (-1)))) fun v13 => tm_cl (f_X1_add 2 x10 v13) fun _ v14 => f_X4_copyLowest_93 K0 L (x9 + (-1)) x10 v14) 10000 x2 x3 r4 v3 else f_X4_copyLowest_93 K0 L x2 x3 v1)))
set_option maxRecDepth 100000 in
set_option maxHeartbeats 4000000 in
theorem w_X4_copyLowest_4b {p : Program} {l : Launch} {e : Env} {s : State} {m : MethodId} {args : Array Value} {below : List Frame} {meth : Method} {c : Code} {D : va_G} {cy : Nat → ClassId} {ad : Nat → Nat} {A : Nat → Prop} {z : (Unit × tmM)} {K0 : tmM → Option (Unit × tmM)} {L : Int32 → Int32 → tmM → Option (Unit × tmM)} (C0 : tmC p s m args meth c cX4_copyLowest 5 none RX4 TMW tm_NWC D cy tm_shC ad 256 [] A) (hK0 : ∀ (w : tmM), tmG p l e ({ frames := 3, cells := 0, slots := 0, locals := 85 } : Room) s m args below meth c 0 0 (MQ below (va_Qv (fun u => z = ((), u)) (tmAt tm_shC 256 D cy ad A) A) args s 0 0 A) 5 D cy tm_shC ad 256 [] A z 99 [] [] w (K0 w)) (hL : ∀ (a2 a3 : Int32) (w : tmM), tmG p l e ({ frames := 3, cells := 0, slots := 0, locals := 85 } : Room) s m args below meth c 0 0 (MQ below (va_Qv (fun u => z = ((), u)) (tmAt tm_shC 256 D cy ad A) A) args s 0 0 A) 5 D cy tm_shC ad 256 [] A z 4 [(0, .ref (ad 0)), (2, .int a2), (3, .int a3)] [] w (L a2 a3 w)) (x2 x3 : Int32) (v : tmM) : tmG p l e ({ frames := 3, cells := 0, slots := 0, locals := 85 } : Room) s m args below meth c 0 0 (MQ below (va_Qv (fun u => z = ((), u)) (tmAt tm_shC 256 D cy ad A) A) args s 0 0 A) 5 D cy tm_shC ad 256 [] A z 4 [(0, .ref (ad 0)), (2, .int x2), (3, .int x3)] [] v (f_X4_copyLowest_4b K0 L x2 x3 v) := by
  unfold f_X4_copyLowest_4b
  refine tg_iload_n 2 C0 dX4_copyLowest_4 rfl rfl ?_
  refine tg_bipush (x := 15) C0 dX4_copyLowest_5 (by decide) ?_
  refine tg_icmp_ge 99 C0 dX4_copyLowest_7 (by decide) (fun _ => ?_) (fun _ => ?_)
  · refine tg_sub [] rfl ?_
    exact hK0 v
  · refine tg_iload_n 1 C0 dX4_copyLowest_10 rfl rfl ?_
    refine tg_if_le 99 C0 dX4_copyLowest_11 (by decide) (fun _ => ?_) (fun _ => ?_)
    · refine tg_sub [] rfl ?_
      exact hK0 v
    · refine tg_aload_n 0 C0 dX4_copyLowest_14 rfl rfl ?_
      refine tg_get 0 2 C0 dX4_copyLowest_15 (by decide) rfl rfl tu_X4 (by decide) tf_X4_50 rfl rfl rfl ?_
      refine tg_iload_n 2 C0 dX4_copyLowest_18 rfl rfl ?_
      refine tg_callSNi (As := [.int (v 0 2), .int x3]) 2 C0 dX4_copyLowest_19 (c_X7_has l (v 0 2) x3 v) rfl rfl (tm_gc tc_X7_has) tm_nwC_X4_78 tn_X7 tst_X7_has rfl rfl rfl rfl (by decide +kernel) ⟨by decide, by decide⟩ (Nat.le_of_ble_eq_true rfl) ⟨by decide, by decide⟩ (fun r2 v1 _ => ?_)
      refine tg_if_eq 28 C0 dX4_copyLowest_22 (by decide) (fun _ => ?_) (fun _ => ?_)
      · refine tg_iload_n 2 C0 dX4_copyLowest_28 rfl rfl ?_
        refine tg_callSNi (As := [.int x3]) 1 C0 dX4_copyLowest_29 (c_X7_firstKey l x3 v1) rfl rfl (tm_gc tc_X7_firstKey) tm_nwC_X4_207 tn_X7 tst_X7_firstKey rfl rfl rfl rfl (by decide +kernel) ⟨by decide, by decide⟩ (Nat.le_of_ble_eq_true rfl) ⟨by decide, by decide⟩ (fun r4 v3 _ => ?_)
        refine tg_istore [(4, .int r4), (0, .ref (ad 0)), (2, .int x2), (3, .int x3)] C0 dX4_copyLowest_32 (by decide) rfl ?_
        refine tg_sub [1, 2, 3, 0] rfl ?_
        refine w_X4_copyLowest_34 C0 (fun x9 x10 v11 => ?_) 10000 x2 x3 r4 v3
        refine tg_aload_n 0 C0 dX4_copyLowest_55 rfl rfl ?_
        refine tg_dup C0 dX4_copyLowest_56 rfl ?_
        refine tg_get 0 2 C0 dX4_copyLowest_57 (by decide) rfl rfl tu_X4 (by decide) tf_X4_50 rfl rfl rfl ?_
        refine tg_iconst (x := 1) C0 dX4_copyLowest_60 (by decide) ?_
        refine tg_iload_n 2 C0 dX4_copyLowest_61 rfl rfl ?_
        refine tg_ishl C0 dX4_copyLowest_62 ?_
        refine tg_ior C0 dX4_copyLowest_63 ?_
        refine tg_put 0 2 C0 dX4_copyLowest_64 (by decide) rfl rfl tu_X4 tyX4_ok nmX4 (by decide) tf_X4_50 rfl rfl rfl rfl rfl rfl ?_
        refine tg_letm (fun v12 _ => ?_)
        refine tg_aload_n 0 C0 dX4_copyLowest_67 rfl rfl ?_
        refine tg_dup C0 dX4_copyLowest_68 rfl ?_
        refine tg_get 0 3 C0 dX4_copyLowest_69 (by decide) rfl rfl tu_X4 (by decide) tf_X4_53 rfl rfl rfl ?_
        refine tg_iconst (x := 1) C0 dX4_copyLowest_72 (by decide) ?_
        refine tg_iload_n 2 C0 dX4_copyLowest_73 rfl rfl ?_
        refine tg_ishl C0 dX4_copyLowest_74 ?_
        refine tg_iconst (x := (-1)) C0 dX4_copyLowest_75 (by decide) ?_
        refine tg_ixor C0 dX4_copyLowest_76 ?_
        refine tg_iand C0 dX4_copyLowest_77 ?_
        refine tg_put 0 3 C0 dX4_copyLowest_78 (by decide) rfl rfl tu_X4 tyX4_ok nmX4 (by decide) tf_X4_53 rfl rfl rfl rfl rfl rfl ?_
        refine tg_letm (fun v13 _ => ?_)
        refine tg_aload_n 0 C0 dX4_copyLowest_81 rfl rfl ?_
        refine tg_get 0 7 C0 dX4_copyLowest_82 (by decide) rfl rfl tu_X4 (by decide) tf_X4_35 rfl rfl rfl ?_
        refine tg_iconst (x := 2) C0 dX4_copyLowest_85 (by decide) ?_
        refine tg_iload_n 2 C0 dX4_copyLowest_86 rfl rfl ?_
        refine tg_callVv (As := [.int 2, .int x10]) 10 2 C0 dX4_copyLowest_87 (c_X1_add l 2 x10 v13) rfl rfl (by decide) rfl rfl (tm_gV tl_X4_190 ti_X1_add ts_X1_add tn_X1 tc_X1_add)  rfl rfl rfl rfl (by decide +kernel) ⟨by decide, by decide⟩ (Nat.le_of_ble_eq_true rfl) ⟨by decide, by decide⟩ (fun v14 _ => ?_)
        refine tg_iinc [(2, .int (x9 + (-1))), (0, .ref (ad 0)), (3, .int x10)] 1 C0 dX4_copyLowest_90 rfl rfl (by decide) rfl ?_
        refine tg_sub [1, 0, 2] rfl ?_
        exact w_X4_copyLowest_93 C0 hK0 hL (x9 + (-1)) x10 v14
      · refine tg_goto 93 C0 dX4_copyLowest_25 (by decide) ?_
        exact w_X4_copyLowest_93 C0 hK0 hL x2 x3 v1
def f_X4_copyLowest_4 (K0 : tmM → Option (Unit × tmM)) : Nat → Int32 → Int32 → tmM → Option (Unit × tmM)
  | 0 => fun _ _ _ => none
  | n + 1 => f_X4_copyLowest_4b K0 (f_X4_copyLowest_4 K0 n)
theorem w_X4_copyLowest_4 {p : Program} {l : Launch} {e : Env} {s : State} {m : MethodId} {args : Array Value} {below : List Frame} {meth : Method} {c : Code} {D : va_G} {cy : Nat → ClassId} {ad : Nat → Nat} {A : Nat → Prop} {z : (Unit × tmM)} {K0 : tmM → Option (Unit × tmM)} (C0 : tmC p s m args meth c cX4_copyLowest 5 none RX4 TMW tm_NWC D cy tm_shC ad 256 [] A) (hK0 : ∀ (w : tmM), tmG p l e ({ frames := 3, cells := 0, slots := 0, locals := 85 } : Room) s m args below meth c 0 0 (MQ below (va_Qv (fun u => z = ((), u)) (tmAt tm_shC 256 D cy ad A) A) args s 0 0 A) 5 D cy tm_shC ad 256 [] A z 99 [] [] w (K0 w)) (nn : Nat) : ∀ (x2 x3 : Int32) (v : tmM), tmG p l e ({ frames := 3, cells := 0, slots := 0, locals := 85 } : Room) s m args below meth c 0 0 (MQ below (va_Qv (fun u => z = ((), u)) (tmAt tm_shC 256 D cy ad A) A) args s 0 0 A) 5 D cy tm_shC ad 256 [] A z 4 [(0, .ref (ad 0)), (2, .int x2), (3, .int x3)] [] v (f_X4_copyLowest_4 K0 nn x2 x3 v) := by
  induction nn with
  | zero => intro _ _ _; exact tg_none
  | succ n ih => intro x2 x3 v; exact w_X4_copyLowest_4b C0 hK0 ih x2 x3 v
def f_X4_copyLowest (x1 : Int32) (v : tmM) : Option (Unit × tmM) := f_X4_copyLowest_4 (fun v16 => some ((), v16)) 10000 x1 0 v
set_option maxRecDepth 100000 in
set_option maxHeartbeats 4000000 in
theorem w_X4_copyLowest {p : Program} {l : Launch} {e : Env} {s : State} {m : MethodId} {args : Array Value} {below : List Frame} {meth : Method} {c : Code} {D : va_G} {cy : Nat → ClassId} {ad : Nat → Nat} {A : Nat → Prop} {z : (Unit × tmM)} (C0 : tmC p s m args meth c cX4_copyLowest 5 none RX4 TMW tm_NWC D cy tm_shC ad 256 [] A) (x1 : Int32) (v : tmM) : tmG p l e ({ frames := 3, cells := 0, slots := 0, locals := 85 } : Room) s m args below meth c 0 0 (MQ below (va_Qv (fun u => z = ((), u)) (tmAt tm_shC 256 D cy ad A) A) args s 0 0 A) 5 D cy tm_shC ad 256 [] A z 0 [(0, .ref (ad 0)), (1, .int x1)] [] v (f_X4_copyLowest x1 v) := by
  unfold f_X4_copyLowest
  refine tg_iload_n 1 C0 dX4_copyLowest_0 rfl rfl ?_
  refine tg_istore_n [(2, .int x1), (0, .ref (ad 0)), (1, .int x1)] C0 dX4_copyLowest_1 rfl (by decide) rfl ?_
  refine tg_iconst (x := 0) C0 dX4_copyLowest_2 (by decide) ?_
  refine tg_istore_n [(3, .int 0), (2, .int x1), (0, .ref (ad 0)), (1, .int x1)] C0 dX4_copyLowest_3 rfl (by decide) rfl ?_
  refine tg_sub [2, 1, 0] rfl ?_
  refine w_X4_copyLowest_4 C0 (fun v16 => ?_) 10000 x1 0 v
  exact tg_vret C0 dX4_copyLowest_99
theorem c_X4_copyLowest (l : Launch) (x1 : Int32) (v : tmM) : tmMv tm_NWC tm_shC 256 l yX4_copyLowest (Cond.code yX4_copyLowest cX4_copyLowest 5 none :: TMW) ({ frames := 3, cells := 0, slots := 0, locals := 85 } : Room) (fun ad => [.ref (ad 0), .int x1]) v (f_X4_copyLowest x1 v) :=
  tmMv.of (cc := cX4_copyLowest) (nL := 5) (by decide +kernel) rfl tm_NWC_ok (fun _ => Nat.le_of_ble_eq_true rfl) (fun p e s m args below meth c A D cy ad z C0 => w_X4_copyLowest C0 x1 v)
-- ----- X4_repairFirst
theorem dX4_repairFirst_0 : decode cX4_repairFirst 0 = .ok (.iconst 0, 1) := by decide +kernel
theorem dX4_repairFirst_1 : decode cX4_repairFirst 1 = .ok (.istore_n 2, 1) := by decide +kernel
theorem dX4_repairFirst_2 : decode cX4_repairFirst 2 = .ok (.iload_n 2, 1) := by decide +kernel
theorem dX4_repairFirst_3 : decode cX4_repairFirst 3 = .ok (.iload_n 1, 1) := by decide +kernel
theorem dX4_repairFirst_4 : decode cX4_repairFirst 4 = .ok (.if_icmp .ge 43, 3) := by decide +kernel
theorem dX4_repairFirst_7 : decode cX4_repairFirst 7 = .ok (.aload_n 0, 1) := by decide +kernel
theorem dX4_repairFirst_8 : decode cX4_repairFirst 8 = .ok (.getfield 28, 3) := by decide +kernel
theorem dX4_repairFirst_11 : decode cX4_repairFirst 11 = .ok (.getfield 130, 3) := by decide +kernel
theorem dX4_repairFirst_14 : decode cX4_repairFirst 14 = .ok (.ifCond .le 33, 3) := by decide +kernel
theorem dX4_repairFirst_17 : decode cX4_repairFirst 17 = .ok (.aload_n 0, 1) := by decide +kernel
theorem dX4_repairFirst_18 : decode cX4_repairFirst 18 = .ok (.getfield 28, 3) := by decide +kernel
theorem dX4_repairFirst_21 : decode cX4_repairFirst 21 = .ok (.getfield 213, 3) := by decide +kernel
theorem dX4_repairFirst_24 : decode cX4_repairFirst 24 = .ok (.iconst 0, 1) := by decide +kernel
theorem dX4_repairFirst_25 : decode cX4_repairFirst 25 = .ok (.iaload, 1) := by decide +kernel
theorem dX4_repairFirst_26 : decode cX4_repairFirst 26 = .ok (.istore_n 3, 1) := by decide +kernel
theorem dX4_repairFirst_27 : decode cX4_repairFirst 27 = .ok (.aload_n 0, 1) := by decide +kernel
theorem dX4_repairFirst_28 : decode cX4_repairFirst 28 = .ok (.iload_n 3, 1) := by decide +kernel
theorem dX4_repairFirst_29 : decode cX4_repairFirst 29 = .ok (.invokevirtual 193, 3) := by decide +kernel
theorem dX4_repairFirst_32 : decode cX4_repairFirst 32 = .ok (.aload_n 0, 1) := by decide +kernel
theorem dX4_repairFirst_33 : decode cX4_repairFirst 33 = .ok (.getfield 35, 3) := by decide +kernel
theorem dX4_repairFirst_36 : decode cX4_repairFirst 36 = .ok (.iconst 3, 1) := by decide +kernel
theorem dX4_repairFirst_37 : decode cX4_repairFirst 37 = .ok (.iload_n 3, 1) := by decide +kernel
theorem dX4_repairFirst_38 : decode cX4_repairFirst 38 = .ok (.invokevirtual 190, 3) := by decide +kernel
theorem dX4_repairFirst_41 : decode cX4_repairFirst 41 = .ok (.iinc 2 1, 3) := by decide +kernel
theorem dX4_repairFirst_44 : decode cX4_repairFirst 44 = .ok (.goto (-42), 3) := by decide +kernel
theorem dX4_repairFirst_47 : decode cX4_repairFirst 47 = .ok (.return_, 1) := by decide +kernel
def f_X4_repairFirst_2b (K0 : tmM → Option (Unit × tmM)) (L : Int32 → Int32 → tmM → Option (Unit × tmM)) (x1 x2 : Int32) (v : tmM) : Option (Unit × tmM) := (if x1 ≤ x2 then K0 v else (if (v 8 1) ≤ 0 then K0 v else tm_g (tm_ix 0 60) (tm_lt (v 9 (0 : Int32).toNatClampNeg) fun y1 => tm_cl (f_X4_makeSame y1 v) fun _ v2 => tm_cl (f_X1_add 3 y1 v2) fun _ v4 => L x1 (x2 + 1) v4)))
set_option maxRecDepth 100000 in
set_option maxHeartbeats 4000000 in
theorem w_X4_repairFirst_2b {p : Program} {l : Launch} {e : Env} {s : State} {m : MethodId} {args : Array Value} {below : List Frame} {meth : Method} {c : Code} {D : va_G} {cy : Nat → ClassId} {ad : Nat → Nat} {A : Nat → Prop} {z : (Unit × tmM)} {K0 : tmM → Option (Unit × tmM)} {L : Int32 → Int32 → tmM → Option (Unit × tmM)} (C0 : tmC p s m args meth c cX4_repairFirst 4 none RX4 TMW tm_NWC D cy tm_shC ad 256 [] A) (hK0 : ∀ (w : tmM), tmG p l e ({ frames := 3, cells := 0, slots := 0, locals := 85 } : Room) s m args below meth c 0 0 (MQ below (va_Qv (fun u => z = ((), u)) (tmAt tm_shC 256 D cy ad A) A) args s 0 0 A) 4 D cy tm_shC ad 256 [] A z 47 [] [] w (K0 w)) (hL : ∀ (a1 a2 : Int32) (w : tmM), tmG p l e ({ frames := 3, cells := 0, slots := 0, locals := 85 } : Room) s m args below meth c 0 0 (MQ below (va_Qv (fun u => z = ((), u)) (tmAt tm_shC 256 D cy ad A) A) args s 0 0 A) 4 D cy tm_shC ad 256 [] A z 2 [(0, .ref (ad 0)), (1, .int a1), (2, .int a2)] [] w (L a1 a2 w)) (x1 x2 : Int32) (v : tmM) : tmG p l e ({ frames := 3, cells := 0, slots := 0, locals := 85 } : Room) s m args below meth c 0 0 (MQ below (va_Qv (fun u => z = ((), u)) (tmAt tm_shC 256 D cy ad A) A) args s 0 0 A) 4 D cy tm_shC ad 256 [] A z 2 [(0, .ref (ad 0)), (1, .int x1), (2, .int x2)] [] v (f_X4_repairFirst_2b K0 L x1 x2 v) := by
  unfold f_X4_repairFirst_2b
  refine tg_iload_n 2 C0 dX4_repairFirst_2 rfl rfl ?_
  refine tg_iload_n 1 C0 dX4_repairFirst_3 rfl rfl ?_
  refine tg_icmp_ge 47 C0 dX4_repairFirst_4 (by decide) (fun _ => ?_) (fun _ => ?_)
  · refine tg_sub [] rfl ?_
    exact hK0 v
  · refine tg_aload_n 0 C0 dX4_repairFirst_7 rfl rfl ?_
    refine tg_get 0 6 C0 dX4_repairFirst_8 (by decide) rfl rfl tu_X4 (by decide) tf_X4_28 rfl rfl rfl ?_
    refine tg_getN 8 1 C0 dX4_repairFirst_11 (by decide) rfl rfl tu_X2 (by decide) tm_nwC_X4_130 rfl rfl rfl ?_
    refine tg_if_le 47 C0 dX4_repairFirst_14 (by decide) (fun _ => ?_) (fun _ => ?_)
    · refine tg_sub [] rfl ?_
      exact hK0 v
    · refine tg_aload_n 0 C0 dX4_repairFirst_17 rfl rfl ?_
      refine tg_get 0 6 C0 dX4_repairFirst_18 (by decide) rfl rfl tu_X4 (by decide) tf_X4_28 rfl rfl rfl ?_
      refine tg_getN 8 0 C0 dX4_repairFirst_21 (by decide) rfl rfl tu_X2 (by decide) tm_nwC_X4_213 rfl rfl rfl ?_
      refine tg_iconst (x := 0) C0 dX4_repairFirst_24 (by decide) ?_
      refine tg_iald 9 C0 dX4_repairFirst_25 (by decide) rfl (fun _ => ?_)
      refine tg_leti (fun y1 _ => ?_)
      refine tg_istore_n [(3, .int y1), (0, .ref (ad 0)), (1, .int x1), (2, .int x2)] C0 dX4_repairFirst_26 rfl (by decide) rfl ?_
      refine tg_aload_n 1 C0 dX4_repairFirst_27 rfl rfl ?_
      refine tg_iload_n 0 C0 dX4_repairFirst_28 rfl rfl ?_
      refine tg_callVv (As := [.int y1]) 0 1 C0 dX4_repairFirst_29 (c_X4_makeSame l y1 v) rfl rfl (by decide) rfl rfl (tm_gV tl_X4_193 ti_X4_makeSame ts_X4_makeSame tn_X4 tc_X4_makeSame)  rfl rfl rfl rfl (by decide +kernel) ⟨by decide, by decide⟩ (Nat.le_of_ble_eq_true rfl) ⟨by decide, by decide⟩ (fun v2 _ => ?_)
      refine tg_aload_n 1 C0 dX4_repairFirst_32 rfl rfl ?_
      refine tg_get 0 7 C0 dX4_repairFirst_33 (by decide) rfl rfl tu_X4 (by decide) tf_X4_35 rfl rfl rfl ?_
      refine tg_iconst (x := 3) C0 dX4_repairFirst_36 (by decide) ?_
      refine tg_iload_n 0 C0 dX4_repairFirst_37 rfl rfl ?_
      refine tg_callVv (As := [.int 3, .int y1]) 10 2 C0 dX4_repairFirst_38 (c_X1_add l 3 y1 v2) rfl rfl (by decide) rfl rfl (tm_gV tl_X4_190 ti_X1_add ts_X1_add tn_X1 tc_X1_add)  rfl rfl rfl rfl (by decide +kernel) ⟨by decide, by decide⟩ (Nat.le_of_ble_eq_true rfl) ⟨by decide, by decide⟩ (fun v4 _ => ?_)
      refine tg_iinc [(2, .int (x2 + 1)), (3, .int y1), (0, .ref (ad 0)), (1, .int x1)] 3 C0 dX4_repairFirst_41 rfl rfl (by decide) rfl ?_
      refine tg_goto 2 C0 dX4_repairFirst_44 (by decide) ?_
      refine tg_sub [2, 3, 0] rfl ?_
      exact hL x1 (x2 + 1) v4
def f_X4_repairFirst_2 (K0 : tmM → Option (Unit × tmM)) : Nat → Int32 → Int32 → tmM → Option (Unit × tmM)
  | 0 => fun _ _ _ => none
  | n + 1 => f_X4_repairFirst_2b K0 (f_X4_repairFirst_2 K0 n)
theorem w_X4_repairFirst_2 {p : Program} {l : Launch} {e : Env} {s : State} {m : MethodId} {args : Array Value} {below : List Frame} {meth : Method} {c : Code} {D : va_G} {cy : Nat → ClassId} {ad : Nat → Nat} {A : Nat → Prop} {z : (Unit × tmM)} {K0 : tmM → Option (Unit × tmM)} (C0 : tmC p s m args meth c cX4_repairFirst 4 none RX4 TMW tm_NWC D cy tm_shC ad 256 [] A) (hK0 : ∀ (w : tmM), tmG p l e ({ frames := 3, cells := 0, slots := 0, locals := 85 } : Room) s m args below meth c 0 0 (MQ below (va_Qv (fun u => z = ((), u)) (tmAt tm_shC 256 D cy ad A) A) args s 0 0 A) 4 D cy tm_shC ad 256 [] A z 47 [] [] w (K0 w)) (nn : Nat) : ∀ (x1 x2 : Int32) (v : tmM), tmG p l e ({ frames := 3, cells := 0, slots := 0, locals := 85 } : Room) s m args below meth c 0 0 (MQ below (va_Qv (fun u => z = ((), u)) (tmAt tm_shC 256 D cy ad A) A) args s 0 0 A) 4 D cy tm_shC ad 256 [] A z 2 [(0, .ref (ad 0)), (1, .int x1), (2, .int x2)] [] v (f_X4_repairFirst_2 K0 nn x1 x2 v) := by
  induction nn with
  | zero => intro _ _ _; exact tg_none
  | succ n ih => intro x1 x2 v; exact w_X4_repairFirst_2b C0 hK0 ih x1 x2 v
def f_X4_repairFirst (x1 : Int32) (v : tmM) : Option (Unit × tmM) := f_X4_repairFirst_2 (fun v6 => some ((), v6)) 10000 x1 0 v
set_option maxRecDepth 100000 in
set_option maxHeartbeats 4000000 in
theorem w_X4_repairFirst {p : Program} {l : Launch} {e : Env} {s : State} {m : MethodId} {args : Array Value} {below : List Frame} {meth : Method} {c : Code} {D : va_G} {cy : Nat → ClassId} {ad : Nat → Nat} {A : Nat → Prop} {z : (Unit × tmM)} (C0 : tmC p s m args meth c cX4_repairFirst 4 none RX4 TMW tm_NWC D cy tm_shC ad 256 [] A) (x1 : Int32) (v : tmM) : tmG p l e ({ frames := 3, cells := 0, slots := 0, locals := 85 } : Room) s m args below meth c 0 0 (MQ below (va_Qv (fun u => z = ((), u)) (tmAt tm_shC 256 D cy ad A) A) args s 0 0 A) 4 D cy tm_shC ad 256 [] A z 0 [(0, .ref (ad 0)), (1, .int x1)] [] v (f_X4_repairFirst x1 v) := by
  unfold f_X4_repairFirst
  refine tg_iconst (x := 0) C0 dX4_repairFirst_0 (by decide) ?_
  refine tg_istore_n [(2, .int 0), (0, .ref (ad 0)), (1, .int x1)] C0 dX4_repairFirst_1 rfl (by decide) rfl ?_
  refine tg_sub [1, 2, 0] rfl ?_
  refine w_X4_repairFirst_2 C0 (fun v6 => ?_) 10000 x1 0 v
  exact tg_vret C0 dX4_repairFirst_47
theorem c_X4_repairFirst (l : Launch) (x1 : Int32) (v : tmM) : tmMv tm_NWC tm_shC 256 l yX4_repairFirst (Cond.code yX4_repairFirst cX4_repairFirst 4 none :: TMW) ({ frames := 3, cells := 0, slots := 0, locals := 85 } : Room) (fun ad => [.ref (ad 0), .int x1]) v (f_X4_repairFirst x1 v) :=
  tmMv.of (cc := cX4_repairFirst) (nL := 4) (by decide +kernel) rfl tm_NWC_ok (fun _ => Nat.le_of_ble_eq_true rfl) (fun p e s m args below meth c A D cy ad z C0 => w_X4_repairFirst C0 x1 v)
-- ----- X4_compareSums
theorem dX4_compareSums_0 : decode cX4_compareSums 0 = .ok (.aload_n 0, 1) := by decide +kernel
theorem dX4_compareSums_1 : decode cX4_compareSums 1 = .ok (.getfield 21, 3) := by decide +kernel
theorem dX4_compareSums_4 : decode cX4_compareSums 4 = .ok (.iconst 0, 1) := by decide +kernel
theorem dX4_compareSums_5 : decode cX4_compareSums 5 = .ok (.iload_n 1, 1) := by decide +kernel
theorem dX4_compareSums_6 : decode cX4_compareSums 6 = .ok (.invokevirtual 216, 3) := by decide +kernel
theorem dX4_compareSums_9 : decode cX4_compareSums 9 = .ok (.aload_n 0, 1) := by decide +kernel
theorem dX4_compareSums_10 : decode cX4_compareSums 10 = .ok (.getfield 21, 3) := by decide +kernel
theorem dX4_compareSums_13 : decode cX4_compareSums 13 = .ok (.iconst 1, 1) := by decide +kernel
theorem dX4_compareSums_14 : decode cX4_compareSums 14 = .ok (.iload_n 1, 1) := by decide +kernel
theorem dX4_compareSums_15 : decode cX4_compareSums 15 = .ok (.invokevirtual 216, 3) := by decide +kernel
theorem dX4_compareSums_18 : decode cX4_compareSums 18 = .ok (.if_icmp .ne 25, 3) := by decide +kernel
theorem dX4_compareSums_21 : decode cX4_compareSums 21 = .ok (.aload_n 0, 1) := by decide +kernel
theorem dX4_compareSums_22 : decode cX4_compareSums 22 = .ok (.dup, 1) := by decide +kernel
theorem dX4_compareSums_23 : decode cX4_compareSums 23 = .ok (.getfield 53, 3) := by decide +kernel
theorem dX4_compareSums_26 : decode cX4_compareSums 26 = .ok (.iconst 1, 1) := by decide +kernel
theorem dX4_compareSums_27 : decode cX4_compareSums 27 = .ok (.iload_n 1, 1) := by decide +kernel
theorem dX4_compareSums_28 : decode cX4_compareSums 28 = .ok (.ishl, 1) := by decide +kernel
theorem dX4_compareSums_29 : decode cX4_compareSums 29 = .ok (.ior, 1) := by decide +kernel
theorem dX4_compareSums_30 : decode cX4_compareSums 30 = .ok (.putfield 53, 3) := by decide +kernel
theorem dX4_compareSums_33 : decode cX4_compareSums 33 = .ok (.aload_n 0, 1) := by decide +kernel
theorem dX4_compareSums_34 : decode cX4_compareSums 34 = .ok (.getfield 35, 3) := by decide +kernel
theorem dX4_compareSums_37 : decode cX4_compareSums 37 = .ok (.iconst 4, 1) := by decide +kernel
theorem dX4_compareSums_38 : decode cX4_compareSums 38 = .ok (.iload_n 1, 1) := by decide +kernel
theorem dX4_compareSums_39 : decode cX4_compareSums 39 = .ok (.invokevirtual 190, 3) := by decide +kernel
theorem dX4_compareSums_42 : decode cX4_compareSums 42 = .ok (.return_, 1) := by decide +kernel
theorem dX4_compareSums_43 : decode cX4_compareSums 43 = .ok (.aload_n 0, 1) := by decide +kernel
theorem dX4_compareSums_44 : decode cX4_compareSums 44 = .ok (.dup, 1) := by decide +kernel
theorem dX4_compareSums_45 : decode cX4_compareSums 45 = .ok (.getfield 53, 3) := by decide +kernel
theorem dX4_compareSums_48 : decode cX4_compareSums 48 = .ok (.iconst 1, 1) := by decide +kernel
theorem dX4_compareSums_49 : decode cX4_compareSums 49 = .ok (.iload_n 1, 1) := by decide +kernel
theorem dX4_compareSums_50 : decode cX4_compareSums 50 = .ok (.ishl, 1) := by decide +kernel
theorem dX4_compareSums_51 : decode cX4_compareSums 51 = .ok (.iconst (-1), 1) := by decide +kernel
theorem dX4_compareSums_52 : decode cX4_compareSums 52 = .ok (.ixor, 1) := by decide +kernel
theorem dX4_compareSums_53 : decode cX4_compareSums 53 = .ok (.iand, 1) := by decide +kernel
theorem dX4_compareSums_54 : decode cX4_compareSums 54 = .ok (.putfield 53, 3) := by decide +kernel
theorem dX4_compareSums_57 : decode cX4_compareSums 57 = .ok (.aload_n 0, 1) := by decide +kernel
theorem dX4_compareSums_58 : decode cX4_compareSums 58 = .ok (.getfield 35, 3) := by decide +kernel
theorem dX4_compareSums_61 : decode cX4_compareSums 61 = .ok (.iconst 5, 1) := by decide +kernel
theorem dX4_compareSums_62 : decode cX4_compareSums 62 = .ok (.iload_n 1, 1) := by decide +kernel
theorem dX4_compareSums_63 : decode cX4_compareSums 63 = .ok (.invokevirtual 190, 3) := by decide +kernel
theorem dX4_compareSums_66 : decode cX4_compareSums 66 = .ok (.aload_n 0, 1) := by decide +kernel
theorem dX4_compareSums_67 : decode cX4_compareSums 67 = .ok (.getfield 21, 3) := by decide +kernel
theorem dX4_compareSums_70 : decode cX4_compareSums 70 = .ok (.iload_n 1, 1) := by decide +kernel
theorem dX4_compareSums_71 : decode cX4_compareSums 71 = .ok (.invokevirtual 219, 3) := by decide +kernel
theorem dX4_compareSums_74 : decode cX4_compareSums 74 = .ok (.istore_n 2, 1) := by decide +kernel
theorem dX4_compareSums_75 : decode cX4_compareSums 75 = .ok (.iload_n 2, 1) := by decide +kernel
theorem dX4_compareSums_76 : decode cX4_compareSums 76 = .ok (.iconst (-1), 1) := by decide +kernel
theorem dX4_compareSums_77 : decode cX4_compareSums 77 = .ok (.if_icmp .eq 8, 3) := by decide +kernel
theorem dX4_compareSums_80 : decode cX4_compareSums 80 = .ok (.aload_n 0, 1) := by decide +kernel
theorem dX4_compareSums_81 : decode cX4_compareSums 81 = .ok (.iload_n 2, 1) := by decide +kernel
theorem dX4_compareSums_82 : decode cX4_compareSums 82 = .ok (.invokevirtual 196, 3) := by decide +kernel
theorem dX4_compareSums_85 : decode cX4_compareSums 85 = .ok (.return_, 1) := by decide +kernel
theorem tl_X4_216 : Cond.methodLink RX4 216 yX5_sumOf ∈ TMW := tm_in 681 (by decide +kernel) (by decide +kernel)
theorem tl_X4_219 : Cond.methodLink RX4 219 yX5_firstDifference ∈ TMW := tm_in 682 (by decide +kernel) (by decide +kernel)
theorem ti_X5_firstDifference : Cond.instanceMethod yX5_firstDifference ∈ TMW := tm_in 683 (by decide +kernel) (by decide +kernel)
theorem ts_X5_firstDifference : Cond.selects RX5 yX5_firstDifference yX5_firstDifference ∈ TMW := tm_in 684 (by decide +kernel) (by decide +kernel)
theorem tc_X5_firstDifference : Cond.code yX5_firstDifference cX5_firstDifference 3 (some .int) ∈ TMW := tm_in 685 (by decide +kernel) (by decide +kernel)
def f_X4_compareSums (x1 : Int32) (v : tmM) : Option (Unit × tmM) := tm_cl (f_X5_sumOf 0 x1 v) fun r2 v1 => tm_cl (f_X5_sumOf 1 x1 v1) fun r4 v3 => (if r2 = r4 then tm_lt (tm_up v3 0 3 ((v3 0 3) ||| (1 <<< (x1 &&& 31)))) fun v12 => tm_cl (f_X1_add 4 x1 v12) fun _ v13 => some ((), v13) else tm_lt (tm_up v3 0 3 ((v3 0 3) &&& ((1 <<< (x1 &&& 31)) ^^^ (-1)))) fun v5 => tm_cl (f_X1_add 5 x1 v5) fun _ v6 => tm_cl (f_X5_firstDifference x1 v6) fun r9 v8 => (if r9 = (-1) then some ((), v8) else tm_cl (f_X4_markStale r9 v8) fun _ v10 => some ((), v10)))
set_option maxRecDepth 100000 in
set_option maxHeartbeats 4000000 in
theorem w_X4_compareSums {p : Program} {l : Launch} {e : Env} {s : State} {m : MethodId} {args : Array Value} {below : List Frame} {meth : Method} {c : Code} {D : va_G} {cy : Nat → ClassId} {ad : Nat → Nat} {A : Nat → Prop} {z : (Unit × tmM)} (C0 : tmC p s m args meth c cX4_compareSums 3 none RX4 TMW tm_NWC D cy tm_shC ad 256 [] A) (x1 : Int32) (v : tmM) : tmG p l e ({ frames := 3, cells := 0, slots := 0, locals := 83 } : Room) s m args below meth c 0 0 (MQ below (va_Qv (fun u => z = ((), u)) (tmAt tm_shC 256 D cy ad A) A) args s 0 0 A) 3 D cy tm_shC ad 256 [] A z 0 [(0, .ref (ad 0)), (1, .int x1)] [] v (f_X4_compareSums x1 v) := by
  unfold f_X4_compareSums
  refine tg_aload_n 0 C0 dX4_compareSums_0 rfl rfl ?_
  refine tg_get 0 5 C0 dX4_compareSums_1 (by decide) rfl rfl tu_X4 (by decide) tf_X4_21 rfl rfl rfl ?_
  refine tg_iconst (x := 0) C0 dX4_compareSums_4 (by decide) ?_
  refine tg_iload_n 1 C0 dX4_compareSums_5 rfl rfl ?_
  refine tg_callVi (As := [.int 0, .int x1]) 1 2 C0 dX4_compareSums_6 (c_X5_sumOf l 0 x1 v) rfl rfl (by decide) rfl rfl (tm_gV tl_X4_216 ti_X5_sumOf ts_X5_sumOf tn_X5 tc_X5_sumOf)  rfl rfl rfl rfl (by decide +kernel) ⟨by decide, by decide⟩ (Nat.le_of_ble_eq_true rfl) ⟨by decide, by decide⟩ (fun r2 v1 _ => ?_)
  refine tg_aload_n 0 C0 dX4_compareSums_9 rfl rfl ?_
  refine tg_get 0 5 C0 dX4_compareSums_10 (by decide) rfl rfl tu_X4 (by decide) tf_X4_21 rfl rfl rfl ?_
  refine tg_iconst (x := 1) C0 dX4_compareSums_13 (by decide) ?_
  refine tg_iload_n 1 C0 dX4_compareSums_14 rfl rfl ?_
  refine tg_callVi (As := [.int 1, .int x1]) 1 2 C0 dX4_compareSums_15 (c_X5_sumOf l 1 x1 v1) rfl rfl (by decide) rfl rfl (tm_gV tl_X4_216 ti_X5_sumOf ts_X5_sumOf tn_X5 tc_X5_sumOf)  rfl rfl rfl rfl (by decide +kernel) ⟨by decide, by decide⟩ (Nat.le_of_ble_eq_true rfl) ⟨by decide, by decide⟩ (fun r4 v3 _ => ?_)
  refine tg_icmp_ne 43 C0 dX4_compareSums_18 (by decide) (fun _ => ?_) (fun _ => ?_)
  · refine tg_aload_n 0 C0 dX4_compareSums_43 rfl rfl ?_
    refine tg_dup C0 dX4_compareSums_44 rfl ?_
    refine tg_get 0 3 C0 dX4_compareSums_45 (by decide) rfl rfl tu_X4 (by decide) tf_X4_53 rfl rfl rfl ?_
    refine tg_iconst (x := 1) C0 dX4_compareSums_48 (by decide) ?_
    refine tg_iload_n 1 C0 dX4_compareSums_49 rfl rfl ?_
    refine tg_ishl C0 dX4_compareSums_50 ?_
    refine tg_iconst (x := (-1)) C0 dX4_compareSums_51 (by decide) ?_
    refine tg_ixor C0 dX4_compareSums_52 ?_
    refine tg_iand C0 dX4_compareSums_53 ?_
    refine tg_put 0 3 C0 dX4_compareSums_54 (by decide) rfl rfl tu_X4 tyX4_ok nmX4 (by decide) tf_X4_53 rfl rfl rfl rfl rfl rfl ?_
    refine tg_letm (fun v5 _ => ?_)
    refine tg_aload_n 0 C0 dX4_compareSums_57 rfl rfl ?_
    refine tg_get 0 7 C0 dX4_compareSums_58 (by decide) rfl rfl tu_X4 (by decide) tf_X4_35 rfl rfl rfl ?_
    refine tg_iconst (x := 5) C0 dX4_compareSums_61 (by decide) ?_
    refine tg_iload_n 1 C0 dX4_compareSums_62 rfl rfl ?_
    refine tg_callVv (As := [.int 5, .int x1]) 10 2 C0 dX4_compareSums_63 (c_X1_add l 5 x1 v5) rfl rfl (by decide) rfl rfl (tm_gV tl_X4_190 ti_X1_add ts_X1_add tn_X1 tc_X1_add)  rfl rfl rfl rfl (by decide +kernel) ⟨by decide, by decide⟩ (Nat.le_of_ble_eq_true rfl) ⟨by decide, by decide⟩ (fun v6 _ => ?_)
    refine tg_aload_n 0 C0 dX4_compareSums_66 rfl rfl ?_
    refine tg_get 0 5 C0 dX4_compareSums_67 (by decide) rfl rfl tu_X4 (by decide) tf_X4_21 rfl rfl rfl ?_
    refine tg_iload_n 1 C0 dX4_compareSums_70 rfl rfl ?_
    refine tg_callVi (As := [.int x1]) 1 1 C0 dX4_compareSums_71 (c_X5_firstDifference l x1 v6) rfl rfl (by decide) rfl rfl (tm_gV tl_X4_219 ti_X5_firstDifference ts_X5_firstDifference tn_X5 tc_X5_firstDifference)  rfl rfl rfl rfl (by decide +kernel) ⟨by decide, by decide⟩ (Nat.le_of_ble_eq_true rfl) ⟨by decide, by decide⟩ (fun r9 v8 _ => ?_)
    refine tg_istore_n [(2, .int r9), (0, .ref (ad 0)), (1, .int x1)] C0 dX4_compareSums_74 rfl (by decide) rfl ?_
    refine tg_iload_n 0 C0 dX4_compareSums_75 rfl rfl ?_
    refine tg_iconst (x := (-1)) C0 dX4_compareSums_76 (by decide) ?_
    refine tg_icmp_eq 85 C0 dX4_compareSums_77 (by decide) (fun _ => ?_) (fun _ => ?_)
    · exact tg_vret C0 dX4_compareSums_85
    · refine tg_aload_n 1 C0 dX4_compareSums_80 rfl rfl ?_
      refine tg_iload_n 0 C0 dX4_compareSums_81 rfl rfl ?_
      refine tg_callVv (As := [.int r9]) 0 1 C0 dX4_compareSums_82 (c_X4_markStale l r9 v8) rfl rfl (by decide) rfl rfl (tm_gV tl_X4_196 ti_X4_markStale ts_X4_markStale tn_X4 tc_X4_markStale)  rfl rfl rfl rfl (by decide +kernel) ⟨by decide, by decide⟩ (Nat.le_of_ble_eq_true rfl) ⟨by decide, by decide⟩ (fun v10 _ => ?_)
      exact tg_vret C0 dX4_compareSums_85
  · refine tg_aload_n 0 C0 dX4_compareSums_21 rfl rfl ?_
    refine tg_dup C0 dX4_compareSums_22 rfl ?_
    refine tg_get 0 3 C0 dX4_compareSums_23 (by decide) rfl rfl tu_X4 (by decide) tf_X4_53 rfl rfl rfl ?_
    refine tg_iconst (x := 1) C0 dX4_compareSums_26 (by decide) ?_
    refine tg_iload_n 1 C0 dX4_compareSums_27 rfl rfl ?_
    refine tg_ishl C0 dX4_compareSums_28 ?_
    refine tg_ior C0 dX4_compareSums_29 ?_
    refine tg_put 0 3 C0 dX4_compareSums_30 (by decide) rfl rfl tu_X4 tyX4_ok nmX4 (by decide) tf_X4_53 rfl rfl rfl rfl rfl rfl ?_
    refine tg_letm (fun v12 _ => ?_)
    refine tg_aload_n 0 C0 dX4_compareSums_33 rfl rfl ?_
    refine tg_get 0 7 C0 dX4_compareSums_34 (by decide) rfl rfl tu_X4 (by decide) tf_X4_35 rfl rfl rfl ?_
    refine tg_iconst (x := 4) C0 dX4_compareSums_37 (by decide) ?_
    refine tg_iload_n 1 C0 dX4_compareSums_38 rfl rfl ?_
    refine tg_callVv (As := [.int 4, .int x1]) 10 2 C0 dX4_compareSums_39 (c_X1_add l 4 x1 v12) rfl rfl (by decide) rfl rfl (tm_gV tl_X4_190 ti_X1_add ts_X1_add tn_X1 tc_X1_add)  rfl rfl rfl rfl (by decide +kernel) ⟨by decide, by decide⟩ (Nat.le_of_ble_eq_true rfl) ⟨by decide, by decide⟩ (fun v13 _ => ?_)
    exact tg_vret C0 dX4_compareSums_42
theorem c_X4_compareSums (l : Launch) (x1 : Int32) (v : tmM) : tmMv tm_NWC tm_shC 256 l yX4_compareSums (Cond.code yX4_compareSums cX4_compareSums 3 none :: TMW) ({ frames := 3, cells := 0, slots := 0, locals := 83 } : Room) (fun ad => [.ref (ad 0), .int x1]) v (f_X4_compareSums x1 v) :=
  tmMv.of (cc := cX4_compareSums) (nL := 3) (by decide +kernel) rfl tm_NWC_ok (fun _ => Nat.le_of_ble_eq_true rfl) (fun p e s m args below meth c A D cy ad z C0 => w_X4_compareSums C0 x1 v)
-- ----- X4_turnToNew
theorem dX4_turnToNew_0 : decode cX4_turnToNew 0 = .ok (.aload_n 0, 1) := by decide +kernel
theorem dX4_turnToNew_1 : decode cX4_turnToNew 1 = .ok (.dup, 1) := by decide +kernel
theorem dX4_turnToNew_2 : decode cX4_turnToNew 2 = .ok (.getfield 56, 3) := by decide +kernel
theorem dX4_turnToNew_5 : decode cX4_turnToNew 5 = .ok (.iconst 1, 1) := by decide +kernel
theorem dX4_turnToNew_6 : decode cX4_turnToNew 6 = .ok (.iload_n 1, 1) := by decide +kernel
theorem dX4_turnToNew_7 : decode cX4_turnToNew 7 = .ok (.ishl, 1) := by decide +kernel
theorem dX4_turnToNew_8 : decode cX4_turnToNew 8 = .ok (.ior, 1) := by decide +kernel
theorem dX4_turnToNew_9 : decode cX4_turnToNew 9 = .ok (.putfield 56, 3) := by decide +kernel
theorem dX4_turnToNew_12 : decode cX4_turnToNew 12 = .ok (.aload_n 0, 1) := by decide +kernel
theorem dX4_turnToNew_13 : decode cX4_turnToNew 13 = .ok (.getfield 35, 3) := by decide +kernel
theorem dX4_turnToNew_16 : decode cX4_turnToNew 16 = .ok (.bipush 6, 2) := by decide +kernel
theorem dX4_turnToNew_18 : decode cX4_turnToNew 18 = .ok (.iload_n 1, 1) := by decide +kernel
theorem dX4_turnToNew_19 : decode cX4_turnToNew 19 = .ok (.invokevirtual 190, 3) := by decide +kernel
theorem dX4_turnToNew_22 : decode cX4_turnToNew 22 = .ok (.return_, 1) := by decide +kernel
def f_X4_turnToNew (x1 : Int32) (v : tmM) : Option (Unit × tmM) := tm_lt (tm_up v 0 4 ((v 0 4) ||| (1 <<< (x1 &&& 31)))) fun v1 => tm_cl (f_X1_add 6 x1 v1) fun _ v2 => some ((), v2)
set_option maxRecDepth 100000 in
set_option maxHeartbeats 4000000 in
theorem w_X4_turnToNew {p : Program} {l : Launch} {e : Env} {s : State} {m : MethodId} {args : Array Value} {below : List Frame} {meth : Method} {c : Code} {D : va_G} {cy : Nat → ClassId} {ad : Nat → Nat} {A : Nat → Prop} {z : (Unit × tmM)} (C0 : tmC p s m args meth c cX4_turnToNew 2 none RX4 TMW tm_NWC D cy tm_shC ad 256 [] A) (x1 : Int32) (v : tmM) : tmG p l e ({ frames := 2, cells := 0, slots := 0, locals := 62 } : Room) s m args below meth c 0 0 (MQ below (va_Qv (fun u => z = ((), u)) (tmAt tm_shC 256 D cy ad A) A) args s 0 0 A) 2 D cy tm_shC ad 256 [] A z 0 [(0, .ref (ad 0)), (1, .int x1)] [] v (f_X4_turnToNew x1 v) := by
  unfold f_X4_turnToNew
  refine tg_aload_n 0 C0 dX4_turnToNew_0 rfl rfl ?_
  refine tg_dup C0 dX4_turnToNew_1 rfl ?_
  refine tg_get 0 4 C0 dX4_turnToNew_2 (by decide) rfl rfl tu_X4 (by decide) tf_X4_56 rfl rfl rfl ?_
  refine tg_iconst (x := 1) C0 dX4_turnToNew_5 (by decide) ?_
  refine tg_iload_n 1 C0 dX4_turnToNew_6 rfl rfl ?_
  refine tg_ishl C0 dX4_turnToNew_7 ?_
  refine tg_ior C0 dX4_turnToNew_8 ?_
  refine tg_put 0 4 C0 dX4_turnToNew_9 (by decide) rfl rfl tu_X4 tyX4_ok nmX4 (by decide) tf_X4_56 rfl rfl rfl rfl rfl rfl ?_
  refine tg_letm (fun v1 _ => ?_)
  refine tg_aload_n 0 C0 dX4_turnToNew_12 rfl rfl ?_
  refine tg_get 0 7 C0 dX4_turnToNew_13 (by decide) rfl rfl tu_X4 (by decide) tf_X4_35 rfl rfl rfl ?_
  refine tg_bipush (x := 6) C0 dX4_turnToNew_16 (by decide) ?_
  refine tg_iload_n 1 C0 dX4_turnToNew_18 rfl rfl ?_
  refine tg_callVv (As := [.int 6, .int x1]) 10 2 C0 dX4_turnToNew_19 (c_X1_add l 6 x1 v1) rfl rfl (by decide) rfl rfl (tm_gV tl_X4_190 ti_X1_add ts_X1_add tn_X1 tc_X1_add)  rfl rfl rfl rfl (by decide +kernel) ⟨by decide, by decide⟩ (Nat.le_of_ble_eq_true rfl) ⟨by decide, by decide⟩ (fun v2 _ => ?_)
  exact tg_vret C0 dX4_turnToNew_22
theorem c_X4_turnToNew (l : Launch) (x1 : Int32) (v : tmM) : tmMv tm_NWC tm_shC 256 l yX4_turnToNew (Cond.code yX4_turnToNew cX4_turnToNew 2 none :: TMW) ({ frames := 2, cells := 0, slots := 0, locals := 62 } : Room) (fun ad => [.ref (ad 0), .int x1]) v (f_X4_turnToNew x1 v) :=
  tmMv.of (cc := cX4_turnToNew) (nL := 2) (by decide +kernel) rfl tm_NWC_ok (fun _ => Nat.le_of_ble_eq_true rfl) (fun p e s m args below meth c A D cy ad z C0 => w_X4_turnToNew C0 x1 v)
-- ----- X4_turnToOld
theorem dX4_turnToOld_0 : decode cX4_turnToOld 0 = .ok (.aload_n 0, 1) := by decide +kernel
theorem dX4_turnToOld_1 : decode cX4_turnToOld 1 = .ok (.dup, 1) := by decide +kernel
theorem dX4_turnToOld_2 : decode cX4_turnToOld 2 = .ok (.getfield 56, 3) := by decide +kernel
theorem dX4_turnToOld_5 : decode cX4_turnToOld 5 = .ok (.iconst 1, 1) := by decide +kernel
theorem dX4_turnToOld_6 : decode cX4_turnToOld 6 = .ok (.iload_n 1, 1) := by decide +kernel
theorem dX4_turnToOld_7 : decode cX4_turnToOld 7 = .ok (.ishl, 1) := by decide +kernel
theorem dX4_turnToOld_8 : decode cX4_turnToOld 8 = .ok (.iconst (-1), 1) := by decide +kernel
theorem dX4_turnToOld_9 : decode cX4_turnToOld 9 = .ok (.ixor, 1) := by decide +kernel
theorem dX4_turnToOld_10 : decode cX4_turnToOld 10 = .ok (.iand, 1) := by decide +kernel
theorem dX4_turnToOld_11 : decode cX4_turnToOld 11 = .ok (.putfield 56, 3) := by decide +kernel
theorem dX4_turnToOld_14 : decode cX4_turnToOld 14 = .ok (.aload_n 0, 1) := by decide +kernel
theorem dX4_turnToOld_15 : decode cX4_turnToOld 15 = .ok (.getfield 35, 3) := by decide +kernel
theorem dX4_turnToOld_18 : decode cX4_turnToOld 18 = .ok (.bipush 7, 2) := by decide +kernel
theorem dX4_turnToOld_20 : decode cX4_turnToOld 20 = .ok (.iload_n 1, 1) := by decide +kernel
theorem dX4_turnToOld_21 : decode cX4_turnToOld 21 = .ok (.invokevirtual 190, 3) := by decide +kernel
theorem dX4_turnToOld_24 : decode cX4_turnToOld 24 = .ok (.return_, 1) := by decide +kernel
def f_X4_turnToOld (x1 : Int32) (v : tmM) : Option (Unit × tmM) := tm_lt (tm_up v 0 4 ((v 0 4) &&& ((1 <<< (x1 &&& 31)) ^^^ (-1)))) fun v1 => tm_cl (f_X1_add 7 x1 v1) fun _ v2 => some ((), v2)
set_option maxRecDepth 100000 in
set_option maxHeartbeats 4000000 in
theorem w_X4_turnToOld {p : Program} {l : Launch} {e : Env} {s : State} {m : MethodId} {args : Array Value} {below : List Frame} {meth : Method} {c : Code} {D : va_G} {cy : Nat → ClassId} {ad : Nat → Nat} {A : Nat → Prop} {z : (Unit × tmM)} (C0 : tmC p s m args meth c cX4_turnToOld 2 none RX4 TMW tm_NWC D cy tm_shC ad 256 [] A) (x1 : Int32) (v : tmM) : tmG p l e ({ frames := 2, cells := 0, slots := 0, locals := 62 } : Room) s m args below meth c 0 0 (MQ below (va_Qv (fun u => z = ((), u)) (tmAt tm_shC 256 D cy ad A) A) args s 0 0 A) 2 D cy tm_shC ad 256 [] A z 0 [(0, .ref (ad 0)), (1, .int x1)] [] v (f_X4_turnToOld x1 v) := by
  unfold f_X4_turnToOld
  refine tg_aload_n 0 C0 dX4_turnToOld_0 rfl rfl ?_
  refine tg_dup C0 dX4_turnToOld_1 rfl ?_
  refine tg_get 0 4 C0 dX4_turnToOld_2 (by decide) rfl rfl tu_X4 (by decide) tf_X4_56 rfl rfl rfl ?_
  refine tg_iconst (x := 1) C0 dX4_turnToOld_5 (by decide) ?_
  refine tg_iload_n 1 C0 dX4_turnToOld_6 rfl rfl ?_
  refine tg_ishl C0 dX4_turnToOld_7 ?_
  refine tg_iconst (x := (-1)) C0 dX4_turnToOld_8 (by decide) ?_
  refine tg_ixor C0 dX4_turnToOld_9 ?_
  refine tg_iand C0 dX4_turnToOld_10 ?_
  refine tg_put 0 4 C0 dX4_turnToOld_11 (by decide) rfl rfl tu_X4 tyX4_ok nmX4 (by decide) tf_X4_56 rfl rfl rfl rfl rfl rfl ?_
  refine tg_letm (fun v1 _ => ?_)
  refine tg_aload_n 0 C0 dX4_turnToOld_14 rfl rfl ?_
  refine tg_get 0 7 C0 dX4_turnToOld_15 (by decide) rfl rfl tu_X4 (by decide) tf_X4_35 rfl rfl rfl ?_
  refine tg_bipush (x := 7) C0 dX4_turnToOld_18 (by decide) ?_
  refine tg_iload_n 1 C0 dX4_turnToOld_20 rfl rfl ?_
  refine tg_callVv (As := [.int 7, .int x1]) 10 2 C0 dX4_turnToOld_21 (c_X1_add l 7 x1 v1) rfl rfl (by decide) rfl rfl (tm_gV tl_X4_190 ti_X1_add ts_X1_add tn_X1 tc_X1_add)  rfl rfl rfl rfl (by decide +kernel) ⟨by decide, by decide⟩ (Nat.le_of_ble_eq_true rfl) ⟨by decide, by decide⟩ (fun v2 _ => ?_)
  exact tg_vret C0 dX4_turnToOld_24
theorem c_X4_turnToOld (l : Launch) (x1 : Int32) (v : tmM) : tmMv tm_NWC tm_shC 256 l yX4_turnToOld (Cond.code yX4_turnToOld cX4_turnToOld 2 none :: TMW) ({ frames := 2, cells := 0, slots := 0, locals := 62 } : Room) (fun ad => [.ref (ad 0), .int x1]) v (f_X4_turnToOld x1 v) :=
  tmMv.of (cc := cX4_turnToOld) (nL := 2) (by decide +kernel) rfl tm_NWC_ok (fun _ => Nat.le_of_ble_eq_true rfl) (fun p e s m args below meth c A D cy ad z C0 => w_X4_turnToOld C0 x1 v)
-- ----- X4_letNewLead
theorem dX4_letNewLead_0 : decode cX4_letNewLead 0 = .ok (.aload_n 0, 1) := by decide +kernel
theorem dX4_letNewLead_1 : decode cX4_letNewLead 1 = .ok (.getfield 21, 3) := by decide +kernel
theorem dX4_letNewLead_4 : decode cX4_letNewLead 4 = .ok (.invokevirtual 222, 3) := by decide +kernel
theorem dX4_letNewLead_7 : decode cX4_letNewLead 7 = .ok (.aload_n 0, 1) := by decide +kernel
theorem dX4_letNewLead_8 : decode cX4_letNewLead 8 = .ok (.getfield 42, 3) := by decide +kernel
theorem dX4_letNewLead_11 : decode cX4_letNewLead 11 = .ok (.invokevirtual 225, 3) := by decide +kernel
theorem dX4_letNewLead_14 : decode cX4_letNewLead 14 = .ok (.aload_n 0, 1) := by decide +kernel
theorem dX4_letNewLead_15 : decode cX4_letNewLead 15 = .ok (.iconst 2, 1) := by decide +kernel
theorem dX4_letNewLead_16 : decode cX4_letNewLead 16 = .ok (.invokevirtual 146, 3) := by decide +kernel
theorem dX4_letNewLead_19 : decode cX4_letNewLead 19 = .ok (.return_, 1) := by decide +kernel
theorem tl_X4_222 : Cond.methodLink RX4 222 yX5_keepAside ∈ TMW := tm_in 702 (by decide +kernel) (by decide +kernel)
theorem ti_X5_keepAside : Cond.instanceMethod yX5_keepAside ∈ TMW := tm_in 703 (by decide +kernel) (by decide +kernel)
theorem ts_X5_keepAside : Cond.selects RX5 yX5_keepAside yX5_keepAside ∈ TMW := tm_in 704 (by decide +kernel) (by decide +kernel)
theorem tc_X5_keepAside : Cond.code yX5_keepAside cX5_keepAside 1 none ∈ TMW := tm_in 705 (by decide +kernel) (by decide +kernel)
theorem tl_X4_225 : Cond.methodLink RX4 225 yX6_clear ∈ TMW := tm_in 706 (by decide +kernel) (by decide +kernel)
theorem ti_X6_clear : Cond.instanceMethod yX6_clear ∈ TMW := tm_in 707 (by decide +kernel) (by decide +kernel)
theorem ts_X6_clear : Cond.selects RX6 yX6_clear yX6_clear ∈ TMW := tm_in 708 (by decide +kernel) (by decide +kernel)
theorem tc_X6_clear : Cond.code yX6_clear cX6_clear 1 none ∈ TMW := tm_in 709 (by decide +kernel) (by decide +kernel)
theorem tl_X4_146 : Cond.methodLink RX4 146 yX4_enter ∈ TMW := tm_in 663 (by decide +kernel) (by decide +kernel)
theorem ti_X4_enter : Cond.instanceMethod yX4_enter ∈ TMW := tm_in 665 (by decide +kernel) (by decide +kernel)
theorem ts_X4_enter : Cond.selects RX4 yX4_enter yX4_enter ∈ TMW := tm_in 26 (by decide +kernel) (by decide +kernel)
theorem tc_X4_enter : Cond.code yX4_enter cX4_enter 2 none ∈ TMW := tm_in 666 (by decide +kernel) (by decide +kernel)
def f_X4_letNewLead (v : tmM) : Option (Unit × tmM) := tm_cl (f_X5_keepAside v) fun _ v1 => tm_cl (f_X6_clear v1) fun _ v3 => tm_cl (f_X4_enter 2 v3) fun _ v5 => some ((), v5)
set_option maxRecDepth 100000 in
set_option maxHeartbeats 4000000 in
theorem w_X4_letNewLead {p : Program} {l : Launch} {e : Env} {s : State} {m : MethodId} {args : Array Value} {below : List Frame} {meth : Method} {c : Code} {D : va_G} {cy : Nat → ClassId} {ad : Nat → Nat} {A : Nat → Prop} {z : (Unit × tmM)} (C0 : tmC p s m args meth c cX4_letNewLead 1 none RX4 TMW tm_NWC D cy tm_shC ad 256 [] A) (v : tmM) : tmG p l e ({ frames := 3, cells := 0, slots := 0, locals := 83 } : Room) s m args below meth c 0 0 (MQ below (va_Qv (fun u => z = ((), u)) (tmAt tm_shC 256 D cy ad A) A) args s 0 0 A) 1 D cy tm_shC ad 256 [] A z 0 [(0, .ref (ad 0))] [] v (f_X4_letNewLead v) := by
  unfold f_X4_letNewLead
  refine tg_aload_n 0 C0 dX4_letNewLead_0 rfl rfl ?_
  refine tg_get 0 5 C0 dX4_letNewLead_1 (by decide) rfl rfl tu_X4 (by decide) tf_X4_21 rfl rfl rfl ?_
  refine tg_callVv (As := []) 1 0 C0 dX4_letNewLead_4 (c_X5_keepAside l v) rfl rfl (by decide) rfl rfl (tm_gV tl_X4_222 ti_X5_keepAside ts_X5_keepAside tn_X5 tc_X5_keepAside)  rfl rfl rfl rfl (by decide +kernel) ⟨by decide, by decide⟩ (Nat.le_of_ble_eq_true rfl) ⟨by decide, by decide⟩ (fun v1 _ => ?_)
  refine tg_aload_n 0 C0 dX4_letNewLead_7 rfl rfl ?_
  refine tg_get 0 8 C0 dX4_letNewLead_8 (by decide) rfl rfl tu_X4 (by decide) tf_X4_42 rfl rfl rfl ?_
  refine tg_callVv (As := []) 13 0 C0 dX4_letNewLead_11 (c_X6_clear l v1) rfl rfl (by decide) rfl rfl (tm_gV tl_X4_225 ti_X6_clear ts_X6_clear tn_X6 tc_X6_clear)  rfl rfl rfl rfl (by decide +kernel) ⟨by decide, by decide⟩ (Nat.le_of_ble_eq_true rfl) ⟨by decide, by decide⟩ (fun v3 _ => ?_)
  refine tg_aload_n 0 C0 dX4_letNewLead_14 rfl rfl ?_
  refine tg_iconst (x := 2) C0 dX4_letNewLead_15 (by decide) ?_
  refine tg_callVv (As := [.int 2]) 0 1 C0 dX4_letNewLead_16 (c_X4_enter l 2 v3) rfl rfl (by decide) rfl rfl (tm_gV tl_X4_146 ti_X4_enter ts_X4_enter tn_X4 tc_X4_enter)  rfl rfl rfl rfl (by decide +kernel) ⟨by decide, by decide⟩ (Nat.le_of_ble_eq_true rfl) ⟨by decide, by decide⟩ (fun v5 _ => ?_)
  exact tg_vret C0 dX4_letNewLead_19
theorem c_X4_letNewLead (l : Launch) (v : tmM) : tmMv tm_NWC tm_shC 256 l yX4_letNewLead (Cond.code yX4_letNewLead cX4_letNewLead 1 none :: TMW) ({ frames := 3, cells := 0, slots := 0, locals := 83 } : Room) (fun ad => [.ref (ad 0)]) v (f_X4_letNewLead v) :=
  tmMv.of (cc := cX4_letNewLead) (nL := 1) (by decide +kernel) rfl tm_NWC_ok (fun _ => Nat.le_of_ble_eq_true rfl) (fun p e s m args below meth c A D cy ad z C0 => w_X4_letNewLead C0 v)
-- ----- X4_letOldLead
theorem dX4_letOldLead_0 : decode cX4_letOldLead 0 = .ok (.aload_n 0, 1) := by decide +kernel
theorem dX4_letOldLead_1 : decode cX4_letOldLead 1 = .ok (.iconst 0, 1) := by decide +kernel
theorem dX4_letOldLead_2 : decode cX4_letOldLead 2 = .ok (.putfield 53, 3) := by decide +kernel
theorem dX4_letOldLead_5 : decode cX4_letOldLead 5 = .ok (.aload_n 0, 1) := by decide +kernel
theorem dX4_letOldLead_6 : decode cX4_letOldLead 6 = .ok (.iconst 1, 1) := by decide +kernel
theorem dX4_letOldLead_7 : decode cX4_letOldLead 7 = .ok (.invokevirtual 146, 3) := by decide +kernel
theorem dX4_letOldLead_10 : decode cX4_letOldLead 10 = .ok (.return_, 1) := by decide +kernel
def f_X4_letOldLead (v : tmM) : Option (Unit × tmM) := tm_lt (tm_up v 0 3 0) fun v1 => tm_cl (f_X4_enter 1 v1) fun _ v2 => some ((), v2)
set_option maxRecDepth 100000 in
set_option maxHeartbeats 4000000 in
theorem w_X4_letOldLead {p : Program} {l : Launch} {e : Env} {s : State} {m : MethodId} {args : Array Value} {below : List Frame} {meth : Method} {c : Code} {D : va_G} {cy : Nat → ClassId} {ad : Nat → Nat} {A : Nat → Prop} {z : (Unit × tmM)} (C0 : tmC p s m args meth c cX4_letOldLead 1 none RX4 TMW tm_NWC D cy tm_shC ad 256 [] A) (v : tmM) : tmG p l e ({ frames := 3, cells := 0, slots := 0, locals := 83 } : Room) s m args below meth c 0 0 (MQ below (va_Qv (fun u => z = ((), u)) (tmAt tm_shC 256 D cy ad A) A) args s 0 0 A) 1 D cy tm_shC ad 256 [] A z 0 [(0, .ref (ad 0))] [] v (f_X4_letOldLead v) := by
  unfold f_X4_letOldLead
  refine tg_aload_n 0 C0 dX4_letOldLead_0 rfl rfl ?_
  refine tg_iconst (x := 0) C0 dX4_letOldLead_1 (by decide) ?_
  refine tg_put 0 3 C0 dX4_letOldLead_2 (by decide) rfl rfl tu_X4 tyX4_ok nmX4 (by decide) tf_X4_53 rfl rfl rfl rfl rfl rfl ?_
  refine tg_letm (fun v1 _ => ?_)
  refine tg_aload_n 0 C0 dX4_letOldLead_5 rfl rfl ?_
  refine tg_iconst (x := 1) C0 dX4_letOldLead_6 (by decide) ?_
  refine tg_callVv (As := [.int 1]) 0 1 C0 dX4_letOldLead_7 (c_X4_enter l 1 v1) rfl rfl (by decide) rfl rfl (tm_gV tl_X4_146 ti_X4_enter ts_X4_enter tn_X4 tc_X4_enter)  rfl rfl rfl rfl (by decide +kernel) ⟨by decide, by decide⟩ (Nat.le_of_ble_eq_true rfl) ⟨by decide, by decide⟩ (fun v2 _ => ?_)
  exact tg_vret C0 dX4_letOldLead_10
theorem c_X4_letOldLead (l : Launch) (v : tmM) : tmMv tm_NWC tm_shC 256 l yX4_letOldLead (Cond.code yX4_letOldLead cX4_letOldLead 1 none :: TMW) ({ frames := 3, cells := 0, slots := 0, locals := 83 } : Room) (fun ad => [.ref (ad 0)]) v (f_X4_letOldLead v) :=
  tmMv.of (cc := cX4_letOldLead) (nL := 1) (by decide +kernel) rfl tm_NWC_ok (fun _ => Nat.le_of_ble_eq_true rfl) (fun p e s m args below meth c A D cy ad z C0 => w_X4_letOldLead C0 v)
-- ----- X4_forgetSinceLead
theorem dX4_forgetSinceLead_0 : decode cX4_forgetSinceLead 0 = .ok (.aload_n 0, 1) := by decide +kernel
theorem dX4_forgetSinceLead_1 : decode cX4_forgetSinceLead 1 = .ok (.getfield 21, 3) := by decide +kernel
theorem dX4_forgetSinceLead_4 : decode cX4_forgetSinceLead 4 = .ok (.invokevirtual 227, 3) := by decide +kernel
theorem dX4_forgetSinceLead_7 : decode cX4_forgetSinceLead 7 = .ok (.aload_n 0, 1) := by decide +kernel
theorem dX4_forgetSinceLead_8 : decode cX4_forgetSinceLead 8 = .ok (.getfield 28, 3) := by decide +kernel
theorem dX4_forgetSinceLead_11 : decode cX4_forgetSinceLead 11 = .ok (.invokevirtual 230, 3) := by decide +kernel
theorem dX4_forgetSinceLead_14 : decode cX4_forgetSinceLead 14 = .ok (.return_, 1) := by decide +kernel
theorem tl_X4_227 : Cond.methodLink RX4 227 yX5_takeBack ∈ TMW := tm_in 718 (by decide +kernel) (by decide +kernel)
theorem ti_X5_takeBack : Cond.instanceMethod yX5_takeBack ∈ TMW := tm_in 719 (by decide +kernel) (by decide +kernel)
theorem ts_X5_takeBack : Cond.selects RX5 yX5_takeBack yX5_takeBack ∈ TMW := tm_in 720 (by decide +kernel) (by decide +kernel)
theorem tc_X5_takeBack : Cond.code yX5_takeBack cX5_takeBack 1 none ∈ TMW := tm_in 721 (by decide +kernel) (by decide +kernel)
theorem tl_X4_230 : Cond.methodLink RX4 230 yX2_clear ∈ TMW := tm_in 722 (by decide +kernel) (by decide +kernel)
theorem ti_X2_clear : Cond.instanceMethod yX2_clear ∈ TMW := tm_in 723 (by decide +kernel) (by decide +kernel)
theorem ts_X2_clear : Cond.selects RX2 yX2_clear yX2_clear ∈ TMW := tm_in 724 (by decide +kernel) (by decide +kernel)
theorem tc_X2_clear : Cond.code yX2_clear cX2_clear 1 none ∈ TMW := tm_in 725 (by decide +kernel) (by decide +kernel)
def f_X4_forgetSinceLead (v : tmM) : Option (Unit × tmM) := tm_cl (f_X5_takeBack v) fun _ v1 => tm_cl (f_X2_clear v1) fun _ v3 => some ((), v3)
set_option maxRecDepth 100000 in
set_option maxHeartbeats 4000000 in
theorem w_X4_forgetSinceLead {p : Program} {l : Launch} {e : Env} {s : State} {m : MethodId} {args : Array Value} {below : List Frame} {meth : Method} {c : Code} {D : va_G} {cy : Nat → ClassId} {ad : Nat → Nat} {A : Nat → Prop} {z : (Unit × tmM)} (C0 : tmC p s m args meth c cX4_forgetSinceLead 1 none RX4 TMW tm_NWC D cy tm_shC ad 256 [] A) (v : tmM) : tmG p l e ({ frames := 3, cells := 0, slots := 0, locals := 82 } : Room) s m args below meth c 0 0 (MQ below (va_Qv (fun u => z = ((), u)) (tmAt tm_shC 256 D cy ad A) A) args s 0 0 A) 1 D cy tm_shC ad 256 [] A z 0 [(0, .ref (ad 0))] [] v (f_X4_forgetSinceLead v) := by
  unfold f_X4_forgetSinceLead
  refine tg_aload_n 0 C0 dX4_forgetSinceLead_0 rfl rfl ?_
  refine tg_get 0 5 C0 dX4_forgetSinceLead_1 (by decide) rfl rfl tu_X4 (by decide) tf_X4_21 rfl rfl rfl ?_
  refine tg_callVv (As := []) 1 0 C0 dX4_forgetSinceLead_4 (c_X5_takeBack l v) rfl rfl (by decide) rfl rfl (tm_gV tl_X4_227 ti_X5_takeBack ts_X5_takeBack tn_X5 tc_X5_takeBack)  rfl rfl rfl rfl (by decide +kernel) ⟨by decide, by decide⟩ (Nat.le_of_ble_eq_true rfl) ⟨by decide, by decide⟩ (fun v1 _ => ?_)
  refine tg_aload_n 0 C0 dX4_forgetSinceLead_7 rfl rfl ?_
  refine tg_get 0 6 C0 dX4_forgetSinceLead_8 (by decide) rfl rfl tu_X4 (by decide) tf_X4_28 rfl rfl rfl ?_
  refine tg_callVv (As := []) 8 0 C0 dX4_forgetSinceLead_11 (c_X2_clear l v1) rfl rfl (by decide) rfl rfl (tm_gV tl_X4_230 ti_X2_clear ts_X2_clear tn_X2 tc_X2_clear)  rfl rfl rfl rfl (by decide +kernel) ⟨by decide, by decide⟩ (Nat.le_of_ble_eq_true rfl) ⟨by decide, by decide⟩ (fun v3 _ => ?_)
  exact tg_vret C0 dX4_forgetSinceLead_14
theorem c_X4_forgetSinceLead (l : Launch) (v : tmM) : tmMv tm_NWC tm_shC 256 l yX4_forgetSinceLead (Cond.code yX4_forgetSinceLead cX4_forgetSinceLead 1 none :: TMW) ({ frames := 3, cells := 0, slots := 0, locals := 82 } : Room) (fun ad => [.ref (ad 0)]) v (f_X4_forgetSinceLead v) :=
  tmMv.of (cc := cX4_forgetSinceLead) (nL := 1) (by decide +kernel) rfl tm_NWC_ok (fun _ => Nat.le_of_ble_eq_true rfl) (fun p e s m args below meth c A D cy ad z C0 => w_X4_forgetSinceLead C0 v)
-- ----- X4_forgetProgress
theorem dX4_forgetProgress_0 : decode cX4_forgetProgress 0 = .ok (.aload_n 0, 1) := by decide +kernel
theorem dX4_forgetProgress_1 : decode cX4_forgetProgress 1 = .ok (.getfield 28, 3) := by decide +kernel
theorem dX4_forgetProgress_4 : decode cX4_forgetProgress 4 = .ok (.invokevirtual 230, 3) := by decide +kernel
theorem dX4_forgetProgress_7 : decode cX4_forgetProgress 7 = .ok (.aload_n 0, 1) := by decide +kernel
theorem dX4_forgetProgress_8 : decode cX4_forgetProgress 8 = .ok (.iconst 0, 1) := by decide +kernel
theorem dX4_forgetProgress_9 : decode cX4_forgetProgress 9 = .ok (.putfield 50, 3) := by decide +kernel
theorem dX4_forgetProgress_12 : decode cX4_forgetProgress 12 = .ok (.aload_n 0, 1) := by decide +kernel
theorem dX4_forgetProgress_13 : decode cX4_forgetProgress 13 = .ok (.iconst 0, 1) := by decide +kernel
theorem dX4_forgetProgress_14 : decode cX4_forgetProgress 14 = .ok (.putfield 53, 3) := by decide +kernel
theorem dX4_forgetProgress_17 : decode cX4_forgetProgress 17 = .ok (.return_, 1) := by decide +kernel
def f_X4_forgetProgress (v : tmM) : Option (Unit × tmM) := tm_cl (f_X2_clear v) fun _ v1 => tm_lt (tm_up v1 0 2 0) fun v3 => tm_lt (tm_up v3 0 3 0) fun v4 => some ((), v4)
set_option maxRecDepth 100000 in
set_option maxHeartbeats 4000000 in
theorem w_X4_forgetProgress {p : Program} {l : Launch} {e : Env} {s : State} {m : MethodId} {args : Array Value} {below : List Frame} {meth : Method} {c : Code} {D : va_G} {cy : Nat → ClassId} {ad : Nat → Nat} {A : Nat → Prop} {z : (Unit × tmM)} (C0 : tmC p s m args meth c cX4_forgetProgress 1 none RX4 TMW tm_NWC D cy tm_shC ad 256 [] A) (v : tmM) : tmG p l e ({ frames := 1, cells := 0, slots := 0, locals := 20 } : Room) s m args below meth c 0 0 (MQ below (va_Qv (fun u => z = ((), u)) (tmAt tm_shC 256 D cy ad A) A) args s 0 0 A) 1 D cy tm_shC ad 256 [] A z 0 [(0, .ref (ad 0))] [] v (f_X4_forgetProgress v) := by
  unfold f_X4_forgetProgress
  refine tg_aload_n 0 C0 dX4_forgetProgress_0 rfl rfl ?_
  refine tg_get 0 6 C0 dX4_forgetProgress_1 (by decide) rfl rfl tu_X4 (by decide) tf_X4_28 rfl rfl rfl ?_
  refine tg_callVv (As := []) 8 0 C0 dX4_forgetProgress_4 (c_X2_clear l v) rfl rfl (by decide) rfl rfl (tm_gV tl_X4_230 ti_X2_clear ts_X2_clear tn_X2 tc_X2_clear)  rfl rfl rfl rfl (by decide +kernel) ⟨by decide, by decide⟩ (Nat.le_of_ble_eq_true rfl) ⟨by decide, by decide⟩ (fun v1 _ => ?_)
  refine tg_aload_n 0 C0 dX4_forgetProgress_7 rfl rfl ?_
  refine tg_iconst (x := 0) C0 dX4_forgetProgress_8 (by decide) ?_
  refine tg_put 0 2 C0 dX4_forgetProgress_9 (by decide) rfl rfl tu_X4 tyX4_ok nmX4 (by decide) tf_X4_50 rfl rfl rfl rfl rfl rfl ?_
  refine tg_letm (fun v3 _ => ?_)
  refine tg_aload_n 0 C0 dX4_forgetProgress_12 rfl rfl ?_
  refine tg_iconst (x := 0) C0 dX4_forgetProgress_13 (by decide) ?_
  refine tg_put 0 3 C0 dX4_forgetProgress_14 (by decide) rfl rfl tu_X4 tyX4_ok nmX4 (by decide) tf_X4_53 rfl rfl rfl rfl rfl rfl ?_
  refine tg_letm (fun v4 _ => ?_)
  exact tg_vret C0 dX4_forgetProgress_17
theorem c_X4_forgetProgress (l : Launch) (v : tmM) : tmMv tm_NWC tm_shC 256 l yX4_forgetProgress (Cond.code yX4_forgetProgress cX4_forgetProgress 1 none :: TMW) ({ frames := 1, cells := 0, slots := 0, locals := 20 } : Room) (fun ad => [.ref (ad 0)]) v (f_X4_forgetProgress v) :=
  tmMv.of (cc := cX4_forgetProgress) (nL := 1) (by decide +kernel) rfl tm_NWC_ok (fun _ => Nat.le_of_ble_eq_true rfl) (fun p e s m args below meth c A D cy ad z C0 => w_X4_forgetProgress C0 v)
-- ----- X4_perform
theorem dX4_perform_0 : decode cX4_perform 0 = .ok (.iload_n 1, 1) := by decide +kernel
theorem dX4_perform_1 : decode cX4_perform 1 = .ok (.tableswitch 148 0 9 #[55, 63, 71, 79, 87, 95, 103, 110, 117, 128], 55) := by decide +kernel
theorem dX4_perform_56 : decode cX4_perform 56 = .ok (.aload_n 0, 1) := by decide +kernel
theorem dX4_perform_57 : decode cX4_perform 57 = .ok (.iconst 1, 1) := by decide +kernel
theorem dX4_perform_58 : decode cX4_perform 58 = .ok (.invokevirtual 146, 3) := by decide +kernel
theorem dX4_perform_61 : decode cX4_perform 61 = .ok (.goto 105, 3) := by decide +kernel
theorem dX4_perform_64 : decode cX4_perform 64 = .ok (.aload_n 0, 1) := by decide +kernel
theorem dX4_perform_65 : decode cX4_perform 65 = .ok (.iload_n 2, 1) := by decide +kernel
theorem dX4_perform_66 : decode cX4_perform 66 = .ok (.invokevirtual 150, 3) := by decide +kernel
theorem dX4_perform_69 : decode cX4_perform 69 = .ok (.goto 97, 3) := by decide +kernel
theorem dX4_perform_72 : decode cX4_perform 72 = .ok (.aload_n 0, 1) := by decide +kernel
theorem dX4_perform_73 : decode cX4_perform 73 = .ok (.iload_n 2, 1) := by decide +kernel
theorem dX4_perform_74 : decode cX4_perform 74 = .ok (.invokevirtual 153, 3) := by decide +kernel
theorem dX4_perform_77 : decode cX4_perform 77 = .ok (.goto 89, 3) := by decide +kernel
theorem dX4_perform_80 : decode cX4_perform 80 = .ok (.aload_n 0, 1) := by decide +kernel
theorem dX4_perform_81 : decode cX4_perform 81 = .ok (.iload_n 2, 1) := by decide +kernel
theorem dX4_perform_82 : decode cX4_perform 82 = .ok (.invokevirtual 156, 3) := by decide +kernel
theorem dX4_perform_85 : decode cX4_perform 85 = .ok (.goto 81, 3) := by decide +kernel
theorem dX4_perform_88 : decode cX4_perform 88 = .ok (.aload_n 0, 1) := by decide +kernel
theorem dX4_perform_89 : decode cX4_perform 89 = .ok (.iload_n 2, 1) := by decide +kernel
theorem dX4_perform_90 : decode cX4_perform 90 = .ok (.invokevirtual 159, 3) := by decide +kernel
theorem dX4_perform_93 : decode cX4_perform 93 = .ok (.goto 73, 3) := by decide +kernel
theorem dX4_perform_96 : decode cX4_perform 96 = .ok (.aload_n 0, 1) := by decide +kernel
theorem dX4_perform_97 : decode cX4_perform 97 = .ok (.iload_n 2, 1) := by decide +kernel
theorem dX4_perform_98 : decode cX4_perform 98 = .ok (.invokevirtual 162, 3) := by decide +kernel
theorem dX4_perform_101 : decode cX4_perform 101 = .ok (.goto 65, 3) := by decide +kernel
theorem dX4_perform_104 : decode cX4_perform 104 = .ok (.aload_n 0, 1) := by decide +kernel
theorem dX4_perform_105 : decode cX4_perform 105 = .ok (.invokevirtual 165, 3) := by decide +kernel
theorem dX4_perform_108 : decode cX4_perform 108 = .ok (.goto 58, 3) := by decide +kernel
theorem dX4_perform_111 : decode cX4_perform 111 = .ok (.aload_n 0, 1) := by decide +kernel
theorem dX4_perform_112 : decode cX4_perform 112 = .ok (.invokevirtual 168, 3) := by decide +kernel
theorem dX4_perform_115 : decode cX4_perform 115 = .ok (.goto 51, 3) := by decide +kernel
theorem dX4_perform_118 : decode cX4_perform 118 = .ok (.aload_n 0, 1) := by decide +kernel
theorem dX4_perform_119 : decode cX4_perform 119 = .ok (.invokevirtual 171, 3) := by decide +kernel
theorem dX4_perform_122 : decode cX4_perform 122 = .ok (.aload_n 0, 1) := by decide +kernel
theorem dX4_perform_123 : decode cX4_perform 123 = .ok (.invokevirtual 168, 3) := by decide +kernel
theorem dX4_perform_126 : decode cX4_perform 126 = .ok (.goto 40, 3) := by decide +kernel
theorem dX4_perform_129 : decode cX4_perform 129 = .ok (.aload_n 0, 1) := by decide +kernel
theorem dX4_perform_130 : decode cX4_perform 130 = .ok (.getfield 21, 3) := by decide +kernel
theorem dX4_perform_133 : decode cX4_perform 133 = .ok (.iconst 1, 1) := by decide +kernel
theorem dX4_perform_134 : decode cX4_perform 134 = .ok (.invokevirtual 174, 3) := by decide +kernel
theorem dX4_perform_137 : decode cX4_perform 137 = .ok (.aload_n 0, 1) := by decide +kernel
theorem dX4_perform_138 : decode cX4_perform 138 = .ok (.invokevirtual 177, 3) := by decide +kernel
theorem dX4_perform_141 : decode cX4_perform 141 = .ok (.aload_n 0, 1) := by decide +kernel
theorem dX4_perform_142 : decode cX4_perform 142 = .ok (.iconst 0, 1) := by decide +kernel
theorem dX4_perform_143 : decode cX4_perform 143 = .ok (.invokevirtual 146, 3) := by decide +kernel
theorem dX4_perform_146 : decode cX4_perform 146 = .ok (.goto 20, 3) := by decide +kernel
theorem dX4_perform_149 : decode cX4_perform 149 = .ok (.aload_n 0, 1) := by decide +kernel
theorem dX4_perform_150 : decode cX4_perform 150 = .ok (.getfield 21, 3) := by decide +kernel
theorem dX4_perform_153 : decode cX4_perform 153 = .ok (.iconst 0, 1) := by decide +kernel
theorem dX4_perform_154 : decode cX4_perform 154 = .ok (.invokevirtual 174, 3) := by decide +kernel
theorem dX4_perform_157 : decode cX4_perform 157 = .ok (.aload_n 0, 1) := by decide +kernel
theorem dX4_perform_158 : decode cX4_perform 158 = .ok (.invokevirtual 177, 3) := by decide +kernel
theorem dX4_perform_161 : decode cX4_perform 161 = .ok (.aload_n 0, 1) := by decide +kernel
theorem dX4_perform_162 : decode cX4_perform 162 = .ok (.iconst 3, 1) := by decide +kernel
theorem dX4_perform_163 : decode cX4_perform 163 = .ok (.invokevirtual 146, 3) := by decide +kernel
theorem dX4_perform_166 : decode cX4_perform 166 = .ok (.return_, 1) := by decide +kernel
theorem tl_X4_150 : Cond.methodLink RX4 150 yX4_copyLowest ∈ TMW := tm_in 667 (by decide +kernel) (by decide +kernel)
theorem ti_X4_copyLowest : Cond.instanceMethod yX4_copyLowest ∈ TMW := tm_in 669 (by decide +kernel) (by decide +kernel)
theorem ts_X4_copyLowest : Cond.selects RX4 yX4_copyLowest yX4_copyLowest ∈ TMW := tm_in 27 (by decide +kernel) (by decide +kernel)
theorem tc_X4_copyLowest : Cond.code yX4_copyLowest cX4_copyLowest 5 none ∈ TMW := tm_in 670 (by decide +kernel) (by decide +kernel)
theorem tl_X4_153 : Cond.methodLink RX4 153 yX4_repairFirst ∈ TMW := tm_in 673 (by decide +kernel) (by decide +kernel)
theorem ti_X4_repairFirst : Cond.instanceMethod yX4_repairFirst ∈ TMW := tm_in 675 (by decide +kernel) (by decide +kernel)
theorem ts_X4_repairFirst : Cond.selects RX4 yX4_repairFirst yX4_repairFirst ∈ TMW := tm_in 28 (by decide +kernel) (by decide +kernel)
theorem tc_X4_repairFirst : Cond.code yX4_repairFirst cX4_repairFirst 4 none ∈ TMW := tm_in 676 (by decide +kernel) (by decide +kernel)
theorem tl_X4_156 : Cond.methodLink RX4 156 yX4_compareSums ∈ TMW := tm_in 677 (by decide +kernel) (by decide +kernel)
theorem ti_X4_compareSums : Cond.instanceMethod yX4_compareSums ∈ TMW := tm_in 679 (by decide +kernel) (by decide +kernel)
theorem ts_X4_compareSums : Cond.selects RX4 yX4_compareSums yX4_compareSums ∈ TMW := tm_in 29 (by decide +kernel) (by decide +kernel)
theorem tc_X4_compareSums : Cond.code yX4_compareSums cX4_compareSums 3 none ∈ TMW := tm_in 680 (by decide +kernel) (by decide +kernel)
theorem tl_X4_159 : Cond.methodLink RX4 159 yX4_turnToNew ∈ TMW := tm_in 690 (by decide +kernel) (by decide +kernel)
theorem ti_X4_turnToNew : Cond.instanceMethod yX4_turnToNew ∈ TMW := tm_in 692 (by decide +kernel) (by decide +kernel)
theorem ts_X4_turnToNew : Cond.selects RX4 yX4_turnToNew yX4_turnToNew ∈ TMW := tm_in 30 (by decide +kernel) (by decide +kernel)
theorem tc_X4_turnToNew : Cond.code yX4_turnToNew cX4_turnToNew 2 none ∈ TMW := tm_in 693 (by decide +kernel) (by decide +kernel)
theorem tl_X4_162 : Cond.methodLink RX4 162 yX4_turnToOld ∈ TMW := tm_in 694 (by decide +kernel) (by decide +kernel)
theorem ti_X4_turnToOld : Cond.instanceMethod yX4_turnToOld ∈ TMW := tm_in 696 (by decide +kernel) (by decide +kernel)
theorem ts_X4_turnToOld : Cond.selects RX4 yX4_turnToOld yX4_turnToOld ∈ TMW := tm_in 31 (by decide +kernel) (by decide +kernel)
theorem tc_X4_turnToOld : Cond.code yX4_turnToOld cX4_turnToOld 2 none ∈ TMW := tm_in 697 (by decide +kernel) (by decide +kernel)
theorem tl_X4_165 : Cond.methodLink RX4 165 yX4_letNewLead ∈ TMW := tm_in 698 (by decide +kernel) (by decide +kernel)
theorem ti_X4_letNewLead : Cond.instanceMethod yX4_letNewLead ∈ TMW := tm_in 700 (by decide +kernel) (by decide +kernel)
theorem ts_X4_letNewLead : Cond.selects RX4 yX4_letNewLead yX4_letNewLead ∈ TMW := tm_in 32 (by decide +kernel) (by decide +kernel)
theorem tc_X4_letNewLead : Cond.code yX4_letNewLead cX4_letNewLead 1 none ∈ TMW := tm_in 701 (by decide +kernel) (by decide +kernel)
theorem tl_X4_168 : Cond.methodLink RX4 168 yX4_letOldLead ∈ TMW := tm_in 710 (by decide +kernel) (by decide +kernel)
theorem ti_X4_letOldLead : Cond.instanceMethod yX4_letOldLead ∈ TMW := tm_in 712 (by decide +kernel) (by decide +kernel)
theorem ts_X4_letOldLead : Cond.selects RX4 yX4_letOldLead yX4_letOldLead ∈ TMW := tm_in 33 (by decide +kernel) (by decide +kernel)
theorem tc_X4_letOldLead : Cond.code yX4_letOldLead cX4_letOldLead 1 none ∈ TMW := tm_in 713 (by decide +kernel) (by decide +kernel)
theorem tl_X4_171 : Cond.methodLink RX4 171 yX4_forgetSinceLead ∈ TMW := tm_in 714 (by decide +kernel) (by decide +kernel)
theorem ti_X4_forgetSinceLead : Cond.instanceMethod yX4_forgetSinceLead ∈ TMW := tm_in 716 (by decide +kernel) (by decide +kernel)
theorem ts_X4_forgetSinceLead : Cond.selects RX4 yX4_forgetSinceLead yX4_forgetSinceLead ∈ TMW := tm_in 34 (by decide +kernel) (by decide +kernel)
theorem tc_X4_forgetSinceLead : Cond.code yX4_forgetSinceLead cX4_forgetSinceLead 1 none ∈ TMW := tm_in 717 (by decide +kernel) (by decide +kernel)
theorem tl_X4_174 : Cond.methodLink RX4 174 yX5_clear ∈ TMW := tm_in 726 (by decide +kernel) (by decide +kernel)
theorem ti_X5_clear : Cond.instanceMethod yX5_clear ∈ TMW := tm_in 727 (by decide +kernel) (by decide +kernel)
theorem ts_X5_clear : Cond.selects RX5 yX5_clear yX5_clear ∈ TMW := tm_in 728 (by decide +kernel) (by decide +kernel)
theorem tc_X5_clear : Cond.code yX5_clear cX5_clear 3 none ∈ TMW := tm_in 729 (by decide +kernel) (by decide +kernel)
theorem tl_X4_177 : Cond.methodLink RX4 177 yX4_forgetProgress ∈ TMW := tm_in 730 (by decide +kernel) (by decide +kernel)
theorem ti_X4_forgetProgress : Cond.instanceMethod yX4_forgetProgress ∈ TMW := tm_in 732 (by decide +kernel) (by decide +kernel)
theorem ts_X4_forgetProgress : Cond.selects RX4 yX4_forgetProgress yX4_forgetProgress ∈ TMW := tm_in 35 (by decide +kernel) (by decide +kernel)
theorem tc_X4_forgetProgress : Cond.code yX4_forgetProgress cX4_forgetProgress 1 none ∈ TMW := tm_in 733 (by decide +kernel) (by decide +kernel)
def f_X4_perform (x1 x2 : Int32) (v : tmM) : Option (Unit × tmM) := (if x1 = 0 then tm_cl (f_X4_enter 1 v) fun _ v1 => some ((), v1) else if x1 = 1 then tm_cl (f_X4_copyLowest x2 v) fun _ v4 => some ((), v4) else if x1 = 2 then tm_cl (f_X4_repairFirst x2 v) fun _ v7 => some ((), v7) else if x1 = 3 then tm_cl (f_X4_compareSums x2 v) fun _ v10 => some ((), v10) else if x1 = 4 then tm_cl (f_X4_turnToNew x2 v) fun _ v13 => some ((), v13) else if x1 = 5 then tm_cl (f_X4_turnToOld x2 v) fun _ v16 => some ((), v16) else if x1 = 6 then tm_cl (f_X4_letNewLead v) fun _ v19 => some ((), v19) else if x1 = 7 then tm_cl (f_X4_letOldLead v) fun _ v22 => some ((), v22) else if x1 = 8 then tm_cl (f_X4_forgetSinceLead v) fun _ v25 => tm_cl (f_X4_letOldLead v25) fun _ v27 => some ((), v27) else if x1 = 9 then tm_cl (f_X5_clear 1 v) fun _ v30 => tm_cl (f_X4_forgetProgress v30) fun _ v32 => tm_cl (f_X4_enter 0 v32) fun _ v34 => some ((), v34) else tm_cl (f_X5_clear 0 v) fun _ v37 => tm_cl (f_X4_forgetProgress v37) fun _ v39 => tm_cl (f_X4_enter 3 v39) fun _ v41 => some ((), v41))
set_option maxRecDepth 100000 in
set_option maxHeartbeats 4000000 in
theorem w_X4_perform {p : Program} {l : Launch} {e : Env} {s : State} {m : MethodId} {args : Array Value} {below : List Frame} {meth : Method} {c : Code} {D : va_G} {cy : Nat → ClassId} {ad : Nat → Nat} {A : Nat → Prop} {z : (Unit × tmM)} (C0 : tmC p s m args meth c cX4_perform 3 none RX4 TMW tm_NWC D cy tm_shC ad 256 [] A) (x1 x2 : Int32) (v : tmM) : tmG p l e ({ frames := 4, cells := 0, slots := 0, locals := 109 } : Room) s m args below meth c 0 0 (MQ below (va_Qv (fun u => z = ((), u)) (tmAt tm_shC 256 D cy ad A) A) args s 0 0 A) 3 D cy tm_shC ad 256 [] A z 0 [(0, .ref (ad 0)), (1, .int x1), (2, .int x2)] [] v (f_X4_perform x1 x2 v) := by
  unfold f_X4_perform
  refine tg_iload_n 1 C0 dX4_perform_0 rfl rfl ?_
  refine tg_tab 0 (cst := 0) 56 tg_tab0 C0 dX4_perform_1 (by decide) rfl (by decide) (by decide) (fun _ => ?_) (fun h3 => ?_)
  · refine tg_aload_n 0 C0 dX4_perform_56 rfl rfl ?_
    refine tg_iconst (x := 1) C0 dX4_perform_57 (by decide) ?_
    refine tg_callVv (As := [.int 1]) 0 1 C0 dX4_perform_58 (c_X4_enter l 1 v) rfl rfl (by decide) rfl rfl (tm_gV tl_X4_146 ti_X4_enter ts_X4_enter tn_X4 tc_X4_enter)  rfl rfl rfl rfl (by decide +kernel) ⟨by decide, by decide⟩ (Nat.le_of_ble_eq_true rfl) ⟨by decide, by decide⟩ (fun v1 _ => ?_)
    refine tg_goto 166 C0 dX4_perform_61 (by decide) ?_
    exact tg_vret C0 dX4_perform_166
  refine tg_tab 1 (cst := 1) 64 h3 C0 dX4_perform_1 (by decide) rfl (by decide) (by decide) (fun _ => ?_) (fun h6 => ?_)
  · refine tg_aload_n 0 C0 dX4_perform_64 rfl rfl ?_
    refine tg_iload_n 2 C0 dX4_perform_65 rfl rfl ?_
    refine tg_callVv (As := [.int x2]) 0 1 C0 dX4_perform_66 (c_X4_copyLowest l x2 v) rfl rfl (by decide) rfl rfl (tm_gV tl_X4_150 ti_X4_copyLowest ts_X4_copyLowest tn_X4 tc_X4_copyLowest)  rfl rfl rfl rfl (by decide +kernel) ⟨by decide, by decide⟩ (Nat.le_of_ble_eq_true rfl) ⟨by decide, by decide⟩ (fun v4 _ => ?_)
    refine tg_goto 166 C0 dX4_perform_69 (by decide) ?_
    exact tg_vret C0 dX4_perform_166
  refine tg_tab 2 (cst := 2) 72 h6 C0 dX4_perform_1 (by decide) rfl (by decide) (by decide) (fun _ => ?_) (fun h9 => ?_)
  · refine tg_aload_n 0 C0 dX4_perform_72 rfl rfl ?_
    refine tg_iload_n 2 C0 dX4_perform_73 rfl rfl ?_
    refine tg_callVv (As := [.int x2]) 0 1 C0 dX4_perform_74 (c_X4_repairFirst l x2 v) rfl rfl (by decide) rfl rfl (tm_gV tl_X4_153 ti_X4_repairFirst ts_X4_repairFirst tn_X4 tc_X4_repairFirst)  rfl rfl rfl rfl (by decide +kernel) ⟨by decide, by decide⟩ (Nat.le_of_ble_eq_true rfl) ⟨by decide, by decide⟩ (fun v7 _ => ?_)
    refine tg_goto 166 C0 dX4_perform_77 (by decide) ?_
    exact tg_vret C0 dX4_perform_166
  refine tg_tab 3 (cst := 3) 80 h9 C0 dX4_perform_1 (by decide) rfl (by decide) (by decide) (fun _ => ?_) (fun h12 => ?_)
  · refine tg_aload_n 0 C0 dX4_perform_80 rfl rfl ?_
    refine tg_iload_n 2 C0 dX4_perform_81 rfl rfl ?_
    refine tg_callVv (As := [.int x2]) 0 1 C0 dX4_perform_82 (c_X4_compareSums l x2 v) rfl rfl (by decide) rfl rfl (tm_gV tl_X4_156 ti_X4_compareSums ts_X4_compareSums tn_X4 tc_X4_compareSums)  rfl rfl rfl rfl (by decide +kernel) ⟨by decide, by decide⟩ (Nat.le_of_ble_eq_true rfl) ⟨by decide, by decide⟩ (fun v10 _ => ?_)
    refine tg_goto 166 C0 dX4_perform_85 (by decide) ?_
    exact tg_vret C0 dX4_perform_166
  refine tg_tab 4 (cst := 4) 88 h12 C0 dX4_perform_1 (by decide) rfl (by decide) (by decide) (fun _ => ?_) (fun h15 => ?_)
  · refine tg_aload_n 0 C0 dX4_perform_88 rfl rfl ?_
    refine tg_iload_n 2 C0 dX4_perform_89 rfl rfl ?_
    refine tg_callVv (As := [.int x2]) 0 1 C0 dX4_perform_90 (c_X4_turnToNew l x2 v) rfl rfl (by decide) rfl rfl (tm_gV tl_X4_159 ti_X4_turnToNew ts_X4_turnToNew tn_X4 tc_X4_turnToNew)  rfl rfl rfl rfl (by decide +kernel) ⟨by decide, by decide⟩ (Nat.le_of_ble_eq_true rfl) ⟨by decide, by decide⟩ (fun v13 _ => ?_)
    refine tg_goto 166 C0 dX4_perform_93 (by decide) ?_
    exact tg_vret C0 dX4_perform_166
  refine tg_tab 5 (cst := 5) 96 h15 C0 dX4_perform_1 (by decide) rfl (by decide) (by decide) (fun _ => ?_) (fun h18 => ?_)
  · refine tg_aload_n 0 C0 dX4_perform_96 rfl rfl ?_
    refine tg_iload_n 2 C0 dX4_perform_97 rfl rfl ?_
    refine tg_callVv (As := [.int x2]) 0 1 C0 dX4_perform_98 (c_X4_turnToOld l x2 v) rfl rfl (by decide) rfl rfl (tm_gV tl_X4_162 ti_X4_turnToOld ts_X4_turnToOld tn_X4 tc_X4_turnToOld)  rfl rfl rfl rfl (by decide +kernel) ⟨by decide, by decide⟩ (Nat.le_of_ble_eq_true rfl) ⟨by decide, by decide⟩ (fun v16 _ => ?_)
    refine tg_goto 166 C0 dX4_perform_101 (by decide) ?_
    exact tg_vret C0 dX4_perform_166
  refine tg_tab 6 (cst := 6) 104 h18 C0 dX4_perform_1 (by decide) rfl (by decide) (by decide) (fun _ => ?_) (fun h21 => ?_)
  · refine tg_aload_n 0 C0 dX4_perform_104 rfl rfl ?_
    refine tg_callVv (As := []) 0 0 C0 dX4_perform_105 (c_X4_letNewLead l v) rfl rfl (by decide) rfl rfl (tm_gV tl_X4_165 ti_X4_letNewLead ts_X4_letNewLead tn_X4 tc_X4_letNewLead)  rfl rfl rfl rfl (by decide +kernel) ⟨by decide, by decide⟩ (Nat.le_of_ble_eq_true rfl) ⟨by decide, by decide⟩ (fun v19 _ => ?_)
    refine tg_goto 166 C0 dX4_perform_108 (by decide) ?_
    exact tg_vret C0 dX4_perform_166
  refine tg_tab 7 (cst := 7) 111 h21 C0 dX4_perform_1 (by decide) rfl (by decide) (by decide) (fun _ => ?_) (fun h24 => ?_)
  · refine tg_aload_n 0 C0 dX4_perform_111 rfl rfl ?_
    refine tg_callVv (As := []) 0 0 C0 dX4_perform_112 (c_X4_letOldLead l v) rfl rfl (by decide) rfl rfl (tm_gV tl_X4_168 ti_X4_letOldLead ts_X4_letOldLead tn_X4 tc_X4_letOldLead)  rfl rfl rfl rfl (by decide +kernel) ⟨by decide, by decide⟩ (Nat.le_of_ble_eq_true rfl) ⟨by decide, by decide⟩ (fun v22 _ => ?_)
    refine tg_goto 166 C0 dX4_perform_115 (by decide) ?_
    exact tg_vret C0 dX4_perform_166
  refine tg_tab 8 (cst := 8) 118 h24 C0 dX4_perform_1 (by decide) rfl (by decide) (by decide) (fun _ => ?_) (fun h29 => ?_)
  · refine tg_aload_n 0 C0 dX4_perform_118 rfl rfl ?_
    refine tg_callVv (As := []) 0 0 C0 dX4_perform_119 (c_X4_forgetSinceLead l v) rfl rfl (by decide) rfl rfl (tm_gV tl_X4_171 ti_X4_forgetSinceLead ts_X4_forgetSinceLead tn_X4 tc_X4_forgetSinceLead)  rfl rfl rfl rfl (by decide +kernel) ⟨by decide, by decide⟩ (Nat.le_of_ble_eq_true rfl) ⟨by decide, by decide⟩ (fun v25 _ => ?_)
    refine tg_aload_n 0 C0 dX4_perform_122 rfl rfl ?_
    refine tg_callVv (As := []) 0 0 C0 dX4_perform_123 (c_X4_letOldLead l v25) rfl rfl (by decide) rfl rfl (tm_gV tl_X4_168 ti_X4_letOldLead ts_X4_letOldLead tn_X4 tc_X4_letOldLead)  rfl rfl rfl rfl (by decide +kernel) ⟨by decide, by decide⟩ (Nat.le_of_ble_eq_true rfl) ⟨by decide, by decide⟩ (fun v27 _ => ?_)
    refine tg_goto 166 C0 dX4_perform_126 (by decide) ?_
    exact tg_vret C0 dX4_perform_166
  refine tg_tab 9 (cst := 9) 129 h29 C0 dX4_perform_1 (by decide) rfl (by decide) (by decide) (fun _ => ?_) (fun h36 => ?_)
  · refine tg_aload_n 0 C0 dX4_perform_129 rfl rfl ?_
    refine tg_get 0 5 C0 dX4_perform_130 (by decide) rfl rfl tu_X4 (by decide) tf_X4_21 rfl rfl rfl ?_
    refine tg_iconst (x := 1) C0 dX4_perform_133 (by decide) ?_
    refine tg_callVv (As := [.int 1]) 1 1 C0 dX4_perform_134 (c_X5_clear l 1 v) rfl rfl (by decide) rfl rfl (tm_gV tl_X4_174 ti_X5_clear ts_X5_clear tn_X5 tc_X5_clear)  rfl rfl rfl rfl (by decide +kernel) ⟨by decide, by decide⟩ (Nat.le_of_ble_eq_true rfl) ⟨by decide, by decide⟩ (fun v30 _ => ?_)
    refine tg_aload_n 0 C0 dX4_perform_137 rfl rfl ?_
    refine tg_callVv (As := []) 0 0 C0 dX4_perform_138 (c_X4_forgetProgress l v30) rfl rfl (by decide) rfl rfl (tm_gV tl_X4_177 ti_X4_forgetProgress ts_X4_forgetProgress tn_X4 tc_X4_forgetProgress)  rfl rfl rfl rfl (by decide +kernel) ⟨by decide, by decide⟩ (Nat.le_of_ble_eq_true rfl) ⟨by decide, by decide⟩ (fun v32 _ => ?_)
    refine tg_aload_n 0 C0 dX4_perform_141 rfl rfl ?_
    refine tg_iconst (x := 0) C0 dX4_perform_142 (by decide) ?_
    refine tg_callVv (As := [.int 0]) 0 1 C0 dX4_perform_143 (c_X4_enter l 0 v32) rfl rfl (by decide) rfl rfl (tm_gV tl_X4_146 ti_X4_enter ts_X4_enter tn_X4 tc_X4_enter)  rfl rfl rfl rfl (by decide +kernel) ⟨by decide, by decide⟩ (Nat.le_of_ble_eq_true rfl) ⟨by decide, by decide⟩ (fun v34 _ => ?_)
    refine tg_goto 166 C0 dX4_perform_146 (by decide) ?_
    exact tg_vret C0 dX4_perform_166
  refine tg_tabO 10 149 h36 C0 dX4_perform_1 (by decide) (by decide) ?_
  refine tg_aload_n 0 C0 dX4_perform_149 rfl rfl ?_
  refine tg_get 0 5 C0 dX4_perform_150 (by decide) rfl rfl tu_X4 (by decide) tf_X4_21 rfl rfl rfl ?_
  refine tg_iconst (x := 0) C0 dX4_perform_153 (by decide) ?_
  refine tg_callVv (As := [.int 0]) 1 1 C0 dX4_perform_154 (c_X5_clear l 0 v) rfl rfl (by decide) rfl rfl (tm_gV tl_X4_174 ti_X5_clear ts_X5_clear tn_X5 tc_X5_clear)  rfl rfl rfl rfl (by decide +kernel) ⟨by decide, by decide⟩ (Nat.le_of_ble_eq_true rfl) ⟨by decide, by decide⟩ (fun v37 _ => ?_)
  refine tg_aload_n 0 C0 dX4_perform_157 rfl rfl ?_
  refine tg_callVv (As := []) 0 0 C0 dX4_perform_158 (c_X4_forgetProgress l v37) rfl rfl (by decide) rfl rfl (tm_gV tl_X4_177 ti_X4_forgetProgress ts_X4_forgetProgress tn_X4 tc_X4_forgetProgress)  rfl rfl rfl rfl (by decide +kernel) ⟨by decide, by decide⟩ (Nat.le_of_ble_eq_true rfl) ⟨by decide, by decide⟩ (fun v39 _ => ?_)
  refine tg_aload_n 0 C0 dX4_perform_161 rfl rfl ?_
  refine tg_iconst (x := 3) C0 dX4_perform_162 (by decide) ?_
  refine tg_callVv (As := [.int 3]) 0 1 C0 dX4_perform_163 (c_X4_enter l 3 v39) rfl rfl (by decide) rfl rfl (tm_gV tl_X4_146 ti_X4_enter ts_X4_enter tn_X4 tc_X4_enter)  rfl rfl rfl rfl (by decide +kernel) ⟨by decide, by decide⟩ (Nat.le_of_ble_eq_true rfl) ⟨by decide, by decide⟩ (fun v41 _ => ?_)
  exact tg_vret C0 dX4_perform_166
theorem c_X4_perform (l : Launch) (x1 x2 : Int32) (v : tmM) : tmMv tm_NWC tm_shC 256 l yX4_perform (Cond.code yX4_perform cX4_perform 3 none :: TMW) ({ frames := 4, cells := 0, slots := 0, locals := 109 } : Room) (fun ad => [.ref (ad 0), .int x1, .int x2]) v (f_X4_perform x1 x2 v) :=
  tmMv.of (cc := cX4_perform) (nL := 3) (by decide +kernel) rfl tm_NWC_ok (fun _ => Nat.le_of_ble_eq_true rfl) (fun p e s m args below meth c A D cy ad z C0 => w_X4_perform C0 x1 x2 v)
-- ----- X4_become
theorem dX4_become_0 : decode cX4_become 0 = .ok (.aload_n 0, 1) := by decide +kernel
theorem dX4_become_1 : decode cX4_become 1 = .ok (.aload_n 1, 1) := by decide +kernel
theorem dX4_become_2 : decode cX4_become 2 = .ok (.getfield 9, 3) := by decide +kernel
theorem dX4_become_5 : decode cX4_become 5 = .ok (.putfield 9, 3) := by decide +kernel
theorem dX4_become_8 : decode cX4_become 8 = .ok (.aload_n 0, 1) := by decide +kernel
theorem dX4_become_9 : decode cX4_become 9 = .ok (.aload_n 1, 1) := by decide +kernel
theorem dX4_become_10 : decode cX4_become 10 = .ok (.getfield 15, 3) := by decide +kernel
theorem dX4_become_13 : decode cX4_become 13 = .ok (.putfield 15, 3) := by decide +kernel
theorem dX4_become_16 : decode cX4_become 16 = .ok (.aload_n 0, 1) := by decide +kernel
theorem dX4_become_17 : decode cX4_become 17 = .ok (.aload_n 1, 1) := by decide +kernel
theorem dX4_become_18 : decode cX4_become 18 = .ok (.getfield 50, 3) := by decide +kernel
theorem dX4_become_21 : decode cX4_become 21 = .ok (.putfield 50, 3) := by decide +kernel
theorem dX4_become_24 : decode cX4_become 24 = .ok (.aload_n 0, 1) := by decide +kernel
theorem dX4_become_25 : decode cX4_become 25 = .ok (.aload_n 1, 1) := by decide +kernel
theorem dX4_become_26 : decode cX4_become 26 = .ok (.getfield 53, 3) := by decide +kernel
theorem dX4_become_29 : decode cX4_become 29 = .ok (.putfield 53, 3) := by decide +kernel
theorem dX4_become_32 : decode cX4_become 32 = .ok (.aload_n 0, 1) := by decide +kernel
theorem dX4_become_33 : decode cX4_become 33 = .ok (.aload_n 1, 1) := by decide +kernel
theorem dX4_become_34 : decode cX4_become 34 = .ok (.getfield 56, 3) := by decide +kernel
theorem dX4_become_37 : decode cX4_become 37 = .ok (.putfield 56, 3) := by decide +kernel
theorem dX4_become_40 : decode cX4_become 40 = .ok (.aload_n 0, 1) := by decide +kernel
theorem dX4_become_41 : decode cX4_become 41 = .ok (.getfield 21, 3) := by decide +kernel
theorem dX4_become_44 : decode cX4_become 44 = .ok (.aload_n 1, 1) := by decide +kernel
theorem dX4_become_45 : decode cX4_become 45 = .ok (.getfield 21, 3) := by decide +kernel
theorem dX4_become_48 : decode cX4_become 48 = .ok (.invokevirtual 59, 3) := by decide +kernel
theorem dX4_become_51 : decode cX4_become 51 = .ok (.aload_n 0, 1) := by decide +kernel
theorem dX4_become_52 : decode cX4_become 52 = .ok (.getfield 28, 3) := by decide +kernel
theorem dX4_become_55 : decode cX4_become 55 = .ok (.aload_n 1, 1) := by decide +kernel
theorem dX4_become_56 : decode cX4_become 56 = .ok (.getfield 28, 3) := by decide +kernel
theorem dX4_become_59 : decode cX4_become 59 = .ok (.invokevirtual 63, 3) := by decide +kernel
theorem dX4_become_62 : decode cX4_become 62 = .ok (.aload_n 0, 1) := by decide +kernel
theorem dX4_become_63 : decode cX4_become 63 = .ok (.getfield 35, 3) := by decide +kernel
theorem dX4_become_66 : decode cX4_become 66 = .ok (.aload_n 1, 1) := by decide +kernel
theorem dX4_become_67 : decode cX4_become 67 = .ok (.getfield 35, 3) := by decide +kernel
theorem dX4_become_70 : decode cX4_become 70 = .ok (.invokevirtual 66, 3) := by decide +kernel
theorem dX4_become_73 : decode cX4_become 73 = .ok (.aload_n 0, 1) := by decide +kernel
theorem dX4_become_74 : decode cX4_become 74 = .ok (.getfield 42, 3) := by decide +kernel
theorem dX4_become_77 : decode cX4_become 77 = .ok (.aload_n 1, 1) := by decide +kernel
theorem dX4_become_78 : decode cX4_become 78 = .ok (.getfield 42, 3) := by decide +kernel
theorem dX4_become_81 : decode cX4_become 81 = .ok (.invokevirtual 69, 3) := by decide +kernel
theorem dX4_become_84 : decode cX4_become 84 = .ok (.aload_n 1, 1) := by decide +kernel
theorem dX4_become_85 : decode cX4_become 85 = .ok (.getfield 46, 3) := by decide +kernel
theorem dX4_become_88 : decode cX4_become 88 = .ok (.iconst 0, 1) := by decide +kernel
theorem dX4_become_89 : decode cX4_become 89 = .ok (.aload_n 0, 1) := by decide +kernel
theorem dX4_become_90 : decode cX4_become 90 = .ok (.getfield 46, 3) := by decide +kernel
theorem dX4_become_93 : decode cX4_become 93 = .ok (.iconst 0, 1) := by decide +kernel
theorem dX4_become_94 : decode cX4_become 94 = .ok (.bipush 60, 2) := by decide +kernel
theorem dX4_become_96 : decode cX4_become 96 = .ok (.invokestatic 72, 3) := by decide +kernel
theorem dX4_become_99 : decode cX4_become 99 = .ok (.return_, 1) := by decide +kernel
theorem tl_X4_59 : Cond.methodLink RX4 59 yX5_become ∈ TMW := tm_in 501 (by decide +kernel) (by decide +kernel)
theorem ti_X5_become : Cond.instanceMethod yX5_become ∈ TMW := tm_in 502 (by decide +kernel) (by decide +kernel)
theorem ts_X5_become : Cond.selects RX5 yX5_become yX5_become ∈ TMW := tm_in 503 (by decide +kernel) (by decide +kernel)
theorem tc_X5_become : Cond.code yX5_become cX5_become 2 none ∈ TMW := tm_in 504 (by decide +kernel) (by decide +kernel)
theorem tl_X4_63 : Cond.methodLink RX4 63 yX2_become ∈ TMW := tm_in 511 (by decide +kernel) (by decide +kernel)
theorem ti_X2_become : Cond.instanceMethod yX2_become ∈ TMW := tm_in 512 (by decide +kernel) (by decide +kernel)
theorem ts_X2_become : Cond.selects RX2 yX2_become yX2_become ∈ TMW := tm_in 513 (by decide +kernel) (by decide +kernel)
theorem tc_X2_become : Cond.code yX2_become cX2_become 2 none ∈ TMW := tm_in 514 (by decide +kernel) (by decide +kernel)
theorem tl_X4_66 : Cond.methodLink RX4 66 yX1_become ∈ TMW := tm_in 516 (by decide +kernel) (by decide +kernel)
theorem ti_X1_become : Cond.instanceMethod yX1_become ∈ TMW := tm_in 517 (by decide +kernel) (by decide +kernel)
theorem ts_X1_become : Cond.selects RX1 yX1_become yX1_become ∈ TMW := tm_in 518 (by decide +kernel) (by decide +kernel)
theorem tc_X1_become : Cond.code yX1_become cX1_become 2 none ∈ TMW := tm_in 519 (by decide +kernel) (by decide +kernel)
theorem tl_X4_69 : Cond.methodLink RX4 69 yX6_become ∈ TMW := tm_in 521 (by decide +kernel) (by decide +kernel)
theorem ti_X6_become : Cond.instanceMethod yX6_become ∈ TMW := tm_in 522 (by decide +kernel) (by decide +kernel)
theorem ts_X6_become : Cond.selects RX6 yX6_become yX6_become ∈ TMW := tm_in 523 (by decide +kernel) (by decide +kernel)
theorem tc_X6_become : Cond.code yX6_become cX6_become 3 none ∈ TMW := tm_in 524 (by decide +kernel) (by decide +kernel)
theorem tl_X4_72 : Cond.methodLink RX4 72 arraycopyName ∈ TMW := tm_in 526 (by decide +kernel) (by decide +kernel)
def f_X4_become (k1 : Nat) (k2 : Nat) (v : tmM) : Option (Unit × tmM) := tm_lt (tm_up v k1 0 (v k2 0)) fun v1 => tm_lt (tm_up v1 k1 1 (v1 k2 1)) fun v2 => tm_lt (tm_up v2 k1 2 (v2 k2 2)) fun v3 => tm_lt (tm_up v3 k1 3 (v3 k2 3)) fun v4 => tm_lt (tm_up v4 k1 4 (v4 k2 4)) fun v5 => tm_cl (f_X5_become k1 k2 v5) fun _ v6 => tm_cl (f_X2_become k1 k2 v6) fun _ v8 => tm_cl (f_X1_become k1 k2 v8) fun _ v10 => tm_cl (f_X6_become k1 k2 v10) fun _ v12 => tm_g (tm_cok 0 0 60 60 60) (tm_lt (tm_set v12 (k1 + 18) (va_cpy (v12 (k2 + 18)) (v12 (k1 + 18)) (0 : Int32).toNatClampNeg (0 : Int32).toNatClampNeg (60 : Int32).toNatClampNeg)) fun v14 => some ((), v14))
set_option maxRecDepth 100000 in
set_option maxHeartbeats 4000000 in
theorem w_X4_become {p : Program} {l : Launch} {e : Env} {s : State} {m : MethodId} {args : Array Value} {below : List Frame} {meth : Method} {c : Code} {D : va_G} {cy : Nat → ClassId} {ad : Nat → Nat} {A : Nat → Prop} {z : (Unit × tmM)} {k1 : Nat} {k2 : Nat} (C0 : tmC p s m args meth c cX4_become 2 none RX4 TMW tm_NWC D cy tm_shC ad 256 [] A) (hk1 : tm_isS k1) (hk2 : tm_isS k2) (v : tmM) : tmG p l e ({ frames := 3, cells := 0, slots := 0, locals := 83 } : Room) s m args below meth c 0 0 (MQ below (va_Qv (fun u => z = ((), u)) (tmAt tm_shC 256 D cy ad A) A) args s 0 0 A) 2 D cy tm_shC ad 256 [] A z 0 [(0, .ref (ad k1)), (1, .ref (ad k2))] [] v (f_X4_become k1 k2 v) := by
  unfold f_X4_become
  refine tg_aload_n 0 C0 dX4_become_0 rfl rfl ?_
  refine tg_aload_n 1 C0 dX4_become_1 rfl rfl ?_
  refine tg_get k2 0 C0 dX4_become_2 (tm_Sl 0 (by decide) hk2) (tm_S 0 (by decide) hk2) rfl tu_X4 (by decide) tf_X4_9 rfl rfl rfl ?_
  refine tg_put k1 0 C0 dX4_become_5 (tm_Sl 0 (by decide) hk1) (tm_S 0 (by decide) hk1) rfl tu_X4 tyX4_ok nmX4 (by decide) tf_X4_9 rfl rfl rfl rfl rfl rfl ?_
  refine tg_letm (fun v1 _ => ?_)
  refine tg_aload_n 0 C0 dX4_become_8 rfl rfl ?_
  refine tg_aload_n 1 C0 dX4_become_9 rfl rfl ?_
  refine tg_get k2 1 C0 dX4_become_10 (tm_Sl 0 (by decide) hk2) (tm_S 0 (by decide) hk2) rfl tu_X4 (by decide) tf_X4_15 rfl rfl rfl ?_
  refine tg_put k1 1 C0 dX4_become_13 (tm_Sl 0 (by decide) hk1) (tm_S 0 (by decide) hk1) rfl tu_X4 tyX4_ok nmX4 (by decide) tf_X4_15 rfl rfl rfl rfl rfl rfl ?_
  refine tg_letm (fun v2 _ => ?_)
  refine tg_aload_n 0 C0 dX4_become_16 rfl rfl ?_
  refine tg_aload_n 1 C0 dX4_become_17 rfl rfl ?_
  refine tg_get k2 2 C0 dX4_become_18 (tm_Sl 0 (by decide) hk2) (tm_S 0 (by decide) hk2) rfl tu_X4 (by decide) tf_X4_50 rfl rfl rfl ?_
  refine tg_put k1 2 C0 dX4_become_21 (tm_Sl 0 (by decide) hk1) (tm_S 0 (by decide) hk1) rfl tu_X4 tyX4_ok nmX4 (by decide) tf_X4_50 rfl rfl rfl rfl rfl rfl ?_
  refine tg_letm (fun v3 _ => ?_)
  refine tg_aload_n 0 C0 dX4_become_24 rfl rfl ?_
  refine tg_aload_n 1 C0 dX4_become_25 rfl rfl ?_
  refine tg_get k2 3 C0 dX4_become_26 (tm_Sl 0 (by decide) hk2) (tm_S 0 (by decide) hk2) rfl tu_X4 (by decide) tf_X4_53 rfl rfl rfl ?_
  refine tg_put k1 3 C0 dX4_become_29 (tm_Sl 0 (by decide) hk1) (tm_S 0 (by decide) hk1) rfl tu_X4 tyX4_ok nmX4 (by decide) tf_X4_53 rfl rfl rfl rfl rfl rfl ?_
  refine tg_letm (fun v4 _ => ?_)
  refine tg_aload_n 0 C0 dX4_become_32 rfl rfl ?_
  refine tg_aload_n 1 C0 dX4_become_33 rfl rfl ?_
  refine tg_get k2 4 C0 dX4_become_34 (tm_Sl 0 (by decide) hk2) (tm_S 0 (by decide) hk2) rfl tu_X4 (by decide) tf_X4_56 rfl rfl rfl ?_
  refine tg_put k1 4 C0 dX4_become_37 (tm_Sl 0 (by decide) hk1) (tm_S 0 (by decide) hk1) rfl tu_X4 tyX4_ok nmX4 (by decide) tf_X4_56 rfl rfl rfl rfl rfl rfl ?_
  refine tg_letm (fun v5 _ => ?_)
  refine tg_aload_n 0 C0 dX4_become_40 rfl rfl ?_
  refine tg_get k1 5 C0 dX4_become_41 (tm_Sl 0 (by decide) hk1) (tm_S 0 (by decide) hk1) rfl tu_X4 (by decide) tf_X4_21 rfl rfl rfl ?_
  refine tg_aload_n 1 C0 dX4_become_44 rfl rfl ?_
  refine tg_get k2 5 C0 dX4_become_45 (tm_Sl 0 (by decide) hk2) (tm_S 0 (by decide) hk2) rfl tu_X4 (by decide) tf_X4_21 rfl rfl rfl ?_
  refine tg_callVv (As := [.ref (ad (k2 + 1))]) (k1 + 1) 1 C0 dX4_become_48 (c_X5_become l k1 k2 hk1 hk2 v5) rfl rfl (tm_Sl 1 (by decide) hk1) (tm_S 1 (by decide) hk1) rfl (tm_gV tl_X4_59 ti_X5_become ts_X5_become tn_X5 tc_X5_become)  rfl rfl rfl rfl (by decide +kernel) ⟨by decide, by decide⟩ (Nat.le_of_ble_eq_true rfl) ⟨by decide, by decide⟩ (fun v6 _ => ?_)
  refine tg_aload_n 0 C0 dX4_become_51 rfl rfl ?_
  refine tg_get k1 6 C0 dX4_become_52 (tm_Sl 0 (by decide) hk1) (tm_S 0 (by decide) hk1) rfl tu_X4 (by decide) tf_X4_28 rfl rfl rfl ?_
  refine tg_aload_n 1 C0 dX4_become_55 rfl rfl ?_
  refine tg_get k2 6 C0 dX4_become_56 (tm_Sl 0 (by decide) hk2) (tm_S 0 (by decide) hk2) rfl tu_X4 (by decide) tf_X4_28 rfl rfl rfl ?_
  refine tg_callVv (As := [.ref (ad (k2 + 8))]) (k1 + 8) 1 C0 dX4_become_59 (c_X2_become l k1 k2 hk1 hk2 v6) rfl rfl (tm_Sl 8 (by decide) hk1) (tm_S 8 (by decide) hk1) rfl (tm_gV tl_X4_63 ti_X2_become ts_X2_become tn_X2 tc_X2_become)  rfl rfl rfl rfl (by decide +kernel) ⟨by decide, by decide⟩ (Nat.le_of_ble_eq_true rfl) ⟨by decide, by decide⟩ (fun v8 _ => ?_)
  refine tg_aload_n 0 C0 dX4_become_62 rfl rfl ?_
  refine tg_get k1 7 C0 dX4_become_63 (tm_Sl 0 (by decide) hk1) (tm_S 0 (by decide) hk1) rfl tu_X4 (by decide) tf_X4_35 rfl rfl rfl ?_
  refine tg_aload_n 1 C0 dX4_become_66 rfl rfl ?_
  refine tg_get k2 7 C0 dX4_become_67 (tm_Sl 0 (by decide) hk2) (tm_S 0 (by decide) hk2) rfl tu_X4 (by decide) tf_X4_35 rfl rfl rfl ?_
  refine tg_callVv (As := [.ref (ad (k2 + 10))]) (k1 + 10) 1 C0 dX4_become_70 (c_X1_become l k1 k2 hk1 hk2 v8) rfl rfl (tm_Sl 10 (by decide) hk1) (tm_S 10 (by decide) hk1) rfl (tm_gV tl_X4_66 ti_X1_become ts_X1_become tn_X1 tc_X1_become)  rfl rfl rfl rfl (by decide +kernel) ⟨by decide, by decide⟩ (Nat.le_of_ble_eq_true rfl) ⟨by decide, by decide⟩ (fun v10 _ => ?_)
  refine tg_aload_n 0 C0 dX4_become_73 rfl rfl ?_
  refine tg_get k1 8 C0 dX4_become_74 (tm_Sl 0 (by decide) hk1) (tm_S 0 (by decide) hk1) rfl tu_X4 (by decide) tf_X4_42 rfl rfl rfl ?_
  refine tg_aload_n 1 C0 dX4_become_77 rfl rfl ?_
  refine tg_get k2 8 C0 dX4_become_78 (tm_Sl 0 (by decide) hk2) (tm_S 0 (by decide) hk2) rfl tu_X4 (by decide) tf_X4_42 rfl rfl rfl ?_
  refine tg_callVv (As := [.ref (ad (k2 + 13))]) (k1 + 13) 1 C0 dX4_become_81 (c_X6_become l k1 k2 hk1 hk2 v10) rfl rfl (tm_Sl 13 (by decide) hk1) (tm_S 13 (by decide) hk1) rfl (tm_gV tl_X4_69 ti_X6_become ts_X6_become tn_X6 tc_X6_become)  rfl rfl rfl rfl (by decide +kernel) ⟨by decide, by decide⟩ (Nat.le_of_ble_eq_true rfl) ⟨by decide, by decide⟩ (fun v12 _ => ?_)
  refine tg_aload_n 1 C0 dX4_become_84 rfl rfl ?_
  refine tg_get k2 9 C0 dX4_become_85 (tm_Sl 0 (by decide) hk2) (tm_S 0 (by decide) hk2) rfl tu_X4 (by decide) tf_X4_46 rfl rfl rfl ?_
  refine tg_iconst (x := 0) C0 dX4_become_88 (by decide) ?_
  refine tg_aload_n 0 C0 dX4_become_89 rfl rfl ?_
  refine tg_get k1 9 C0 dX4_become_90 (tm_Sl 0 (by decide) hk1) (tm_S 0 (by decide) hk1) rfl tu_X4 (by decide) tf_X4_46 rfl rfl rfl ?_
  refine tg_iconst (x := 0) C0 dX4_become_93 (by decide) ?_
  refine tg_bipush (x := 60) C0 dX4_become_94 (by decide) ?_
  refine tg_copy (k2 + 18) (k1 + 18) C0 dX4_become_96 (tm_Sl 18 (by decide) hk2) (tm_Sl 18 (by decide) hk1) (tm_S 18 (by decide) hk2) (tm_S 18 (by decide) hk1) tl_X4_72 tnat tsta tsys (by decide) (Nat.le_of_ble_eq_true rfl) ?_
  refine tg_letm (fun v14 _ => ?_)
  exact tg_vret C0 dX4_become_99
theorem c_X4_become (l : Launch) (k1 : Nat) (k2 : Nat) (hk1 : tm_isS k1) (hk2 : tm_isS k2) (v : tmM) : tmMv tm_NWC tm_shC 256 l yX4_become (Cond.code yX4_become cX4_become 2 none :: TMW) ({ frames := 3, cells := 0, slots := 0, locals := 83 } : Room) (fun ad => [.ref (ad k1), .ref (ad k2)]) v (f_X4_become k1 k2 v) :=
  tmMv.of (cc := cX4_become) (nL := 2) (by decide +kernel) rfl tm_NWC_ok (fun _ => Nat.le_of_ble_eq_true rfl) (fun p e s m args below meth c A D cy ad z C0 => w_X4_become C0 hk1 hk2 v)
