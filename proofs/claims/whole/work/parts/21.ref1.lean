-- ----- X8_event
theorem dX8_event_0 : decode cX8_event 0 = .ok (.aload_n 0, 1) := by decide +kernel
theorem dX8_event_1 : decode cX8_event 1 = .ok (.iload_n 1, 1) := by decide +kernel
theorem dX8_event_2 : decode cX8_event 2 = .ok (.iconst 0, 1) := by decide +kernel
theorem dX8_event_3 : decode cX8_event 3 = .ok (.aload_n 0, 1) := by decide +kernel
theorem dX8_event_4 : decode cX8_event 4 = .ok (.getfield 7, 3) := by decide +kernel
theorem dX8_event_7 : decode cX8_event 7 = .ok (.bipush 10, 2) := by decide +kernel
theorem dX8_event_9 : decode cX8_event 9 = .ok (.iaload, 1) := by decide +kernel
theorem dX8_event_10 : decode cX8_event 10 = .ok (.iconst 1, 1) := by decide +kernel
theorem dX8_event_11 : decode cX8_event 11 = .ok (.isub, 1) := by decide +kernel
theorem dX8_event_12 : decode cX8_event 12 = .ok (.invokestatic 63, 3) := by decide +kernel
theorem dX8_event_15 : decode cX8_event 15 = .ok (.ifCond .ne 7, 3) := by decide +kernel
theorem dX8_event_18 : decode cX8_event 18 = .ok (.iconst 1, 1) := by decide +kernel
theorem dX8_event_19 : decode cX8_event 19 = .ok (.goto 17, 3) := by decide +kernel
theorem dX8_event_22 : decode cX8_event 22 = .ok (.iload_n 2, 1) := by decide +kernel
theorem dX8_event_23 : decode cX8_event 23 = .ok (.iconst 0, 1) := by decide +kernel
theorem dX8_event_24 : decode cX8_event 24 = .ok (.iconst 1, 1) := by decide +kernel
theorem dX8_event_25 : decode cX8_event 25 = .ok (.invokestatic 63, 3) := by decide +kernel
theorem dX8_event_28 : decode cX8_event 28 = .ok (.ifCond .eq 7, 3) := by decide +kernel
theorem dX8_event_31 : decode cX8_event 31 = .ok (.iconst 0, 1) := by decide +kernel
theorem dX8_event_32 : decode cX8_event 32 = .ok (.goto 4, 3) := by decide +kernel
theorem dX8_event_35 : decode cX8_event 35 = .ok (.iconst 2, 1) := by decide +kernel
theorem dX8_event_36 : decode cX8_event 36 = .ok (.putfield 56, 3) := by decide +kernel
theorem dX8_event_39 : decode cX8_event 39 = .ok (.aload_n 0, 1) := by decide +kernel
theorem dX8_event_40 : decode cX8_event 40 = .ok (.getfield 56, 3) := by decide +kernel
theorem dX8_event_43 : decode cX8_event 43 = .ok (.ifCond .le 7, 3) := by decide +kernel
theorem dX8_event_46 : decode cX8_event 46 = .ok (.iconst 0, 1) := by decide +kernel
theorem dX8_event_47 : decode cX8_event 47 = .ok (.goto 17, 3) := by decide +kernel
theorem dX8_event_50 : decode cX8_event 50 = .ok (.aload_n 0, 1) := by decide +kernel
theorem dX8_event_51 : decode cX8_event 51 = .ok (.getfield 7, 3) := by decide +kernel
theorem dX8_event_54 : decode cX8_event 54 = .ok (.sipush 371, 3) := by decide +kernel
theorem dX8_event_57 : decode cX8_event 57 = .ok (.iconst 2, 1) := by decide +kernel
theorem dX8_event_58 : decode cX8_event 58 = .ok (.iload_n 1, 1) := by decide +kernel
theorem dX8_event_59 : decode cX8_event 59 = .ok (.imul, 1) := by decide +kernel
theorem dX8_event_60 : decode cX8_event 60 = .ok (.iadd, 1) := by decide +kernel
theorem dX8_event_61 : decode cX8_event 61 = .ok (.iload_n 2, 1) := by decide +kernel
theorem dX8_event_62 : decode cX8_event 62 = .ok (.iadd, 1) := by decide +kernel
theorem dX8_event_63 : decode cX8_event 63 = .ok (.iaload, 1) := by decide +kernel
theorem dX8_event_64 : decode cX8_event 64 = .ok (.ireturn, 1) := by decide +kernel
def f_X8_event_36 (x1 x2 s0 : Int32) (v : tmM) : Option (Int32 × tmM) := tm_lt (tm_up v 0 0 s0) fun v5 => (if (v5 0 0) ≤ 0 then tm_g (tm_ix ((371 + (2 * x1)) + x2) 491) (some (v5 1 ((371 + (2 * x1)) + x2).toNatClampNeg, v5)) else some (0, v5))
set_option maxRecDepth 100000 in
set_option maxHeartbeats 4000000 in
theorem w_X8_event_36 {p : Program} {l : Launch} {e : Env} {s : State} {m : MethodId} {args : Array Value} {below : List Frame} {meth : Method} {c : Code} {D : va_G} {cy : Nat → ClassId} {ad : Nat → Nat} {A : Nat → Prop} {z : (Int32 × tmM)} (C0 : tmC p s m args meth c cX8_event 3 (some .int) RX8 TMW tm_NWR D cy tm_shR ad 13 [] A) (x1 x2 s0 : Int32) (v : tmM) : tmG p l e ({ frames := 1, cells := 0, slots := 0, locals := 22 } : Room) s m args below meth c 0 0 (MQ below (va_Qi (fun r u => z = (r, u)) (tmAt tm_shR 13 D cy ad A) A) args s 0 0 A) 3 D cy tm_shR ad 13 [] A z 36 [(0, .ref (ad 0)), (1, .int x1), (2, .int x2)] [.int s0, .ref (ad 0)] v (f_X8_event_36 x1 x2 s0 v) := by
  unfold f_X8_event_36
  refine tg_put 0 0 C0 dX8_event_36 (by decide) rfl rfl tu_X8 tyX8_ok nmX8 (by decide) tf_X8_56 rfl rfl rfl rfl rfl rfl ?_
  refine tg_letm (fun v5 _ => ?_)
  refine tg_aload_n 0 C0 dX8_event_39 rfl rfl ?_
  refine tg_get 0 0 C0 dX8_event_40 (by decide) rfl rfl tu_X8 (by decide) tf_X8_56 rfl rfl rfl ?_
  refine tg_if_le 50 C0 dX8_event_43 (by decide) (fun _ => ?_) (fun _ => ?_)
  · refine tg_aload_n 0 C0 dX8_event_50 rfl rfl ?_
    refine tg_get 0 1 C0 dX8_event_51 (by decide) rfl rfl tu_X8 (by decide) tf_X8_7 rfl rfl rfl ?_
    refine tg_sipush (x := 371) C0 dX8_event_54 (by decide) ?_
    refine tg_iconst (x := 2) C0 dX8_event_57 (by decide) ?_
    refine tg_iload_n 1 C0 dX8_event_58 rfl rfl ?_
    refine tg_imul C0 dX8_event_59 ?_
    refine tg_iadd C0 dX8_event_60 ?_
    refine tg_iload_n 2 C0 dX8_event_61 rfl rfl ?_
    refine tg_iadd C0 dX8_event_62 ?_
    refine tg_iald 1 C0 dX8_event_63 (by decide) rfl (fun _ => ?_)
    exact tg_iret C0 dX8_event_64
  · refine tg_iconst (x := 0) C0 dX8_event_46 (by decide) ?_
    refine tg_goto 64 C0 dX8_event_47 (by decide) ?_
    exact tg_iret C0 dX8_event_64
def f_X8_event (x1 x2 : Int32) (v : tmM) : Option (Int32 × tmM) := tm_g (tm_ix 10 491) (tm_cl (f_X8_in x1 0 ((v 1 (10 : Int32).toNatClampNeg) - 1) v) fun r2 v1 => (if r2 = 0 then f_X8_event_36 x1 x2 1 v1 else tm_cl (f_X8_in x2 0 1 v1) fun r4 v3 => (if r4 = 0 then f_X8_event_36 x1 x2 2 v3 else f_X8_event_36 x1 x2 0 v3)))
set_option maxRecDepth 100000 in
set_option maxHeartbeats 4000000 in
theorem w_X8_event {p : Program} {l : Launch} {e : Env} {s : State} {m : MethodId} {args : Array Value} {below : List Frame} {meth : Method} {c : Code} {D : va_G} {cy : Nat → ClassId} {ad : Nat → Nat} {A : Nat → Prop} {z : (Int32 × tmM)} (C0 : tmC p s m args meth c cX8_event 3 (some .int) RX8 TMW tm_NWR D cy tm_shR ad 13 [] A) (x1 x2 : Int32) (v : tmM) : tmG p l e ({ frames := 1, cells := 0, slots := 0, locals := 22 } : Room) s m args below meth c 0 0 (MQ below (va_Qi (fun r u => z = (r, u)) (tmAt tm_shR 13 D cy ad A) A) args s 0 0 A) 3 D cy tm_shR ad 13 [] A z 0 [(0, .ref (ad 0)), (1, .int x1), (2, .int x2)] [] v (f_X8_event x1 x2 v) := by
  unfold f_X8_event
  refine tg_aload_n 0 C0 dX8_event_0 rfl rfl ?_
  refine tg_iload_n 1 C0 dX8_event_1 rfl rfl ?_
  refine tg_iconst (x := 0) C0 dX8_event_2 (by decide) ?_
  refine tg_aload_n 0 C0 dX8_event_3 rfl rfl ?_
  refine tg_get 0 1 C0 dX8_event_4 (by decide) rfl rfl tu_X8 (by decide) tf_X8_7 rfl rfl rfl ?_
  refine tg_bipush (x := 10) C0 dX8_event_7 (by decide) ?_
  refine tg_iald 1 C0 dX8_event_9 (by decide) rfl (fun _ => ?_)
  refine tg_iconst (x := 1) C0 dX8_event_10 (by decide) ?_
  refine tg_isub C0 dX8_event_11 ?_
  refine tg_callSi (As := [.int x1, .int 0, .int ((v 1 (10 : Int32).toNatClampNeg) - 1)]) 3 C0 dX8_event_12 (c_X8_in l x1 0 ((v 1 (10 : Int32).toNatClampNeg) - 1) v) rfl rfl (tm_gc tc_X8_in) tl_X8_63 tn_X8 tst_X8_in  rfl rfl rfl rfl (by decide +kernel) ⟨by decide, by decide⟩ (Nat.le_of_ble_eq_true rfl) ⟨by decide, by decide⟩ (fun r2 v1 _ => ?_)
  refine tg_if_ne 22 C0 dX8_event_15 (by decide) (fun _ => ?_) (fun _ => ?_)
  · refine tg_iload_n 2 C0 dX8_event_22 rfl rfl ?_
    refine tg_iconst (x := 0) C0 dX8_event_23 (by decide) ?_
    refine tg_iconst (x := 1) C0 dX8_event_24 (by decide) ?_
    refine tg_callSi (As := [.int x2, .int 0, .int 1]) 3 C0 dX8_event_25 (c_X8_in l x2 0 1 v1) rfl rfl (tm_gc tc_X8_in) tl_X8_63 tn_X8 tst_X8_in  rfl rfl rfl rfl (by decide +kernel) ⟨by decide, by decide⟩ (Nat.le_of_ble_eq_true rfl) ⟨by decide, by decide⟩ (fun r4 v3 _ => ?_)
    refine tg_if_eq 35 C0 dX8_event_28 (by decide) (fun _ => ?_) (fun _ => ?_)
    · refine tg_iconst (x := 2) C0 dX8_event_35 (by decide) ?_
      exact w_X8_event_36 C0 x1 x2 2 v3
    · refine tg_iconst (x := 0) C0 dX8_event_31 (by decide) ?_
      refine tg_goto 36 C0 dX8_event_32 (by decide) ?_
      exact w_X8_event_36 C0 x1 x2 0 v3
  · refine tg_iconst (x := 1) C0 dX8_event_18 (by decide) ?_
    refine tg_goto 36 C0 dX8_event_19 (by decide) ?_
    exact w_X8_event_36 C0 x1 x2 1 v1
theorem c_X8_event (l : Launch) (x1 x2 : Int32) (v : tmM) : tmMi tm_NWR tm_shR 13 l yX8_event (Cond.code yX8_event cX8_event 3 (some .int) :: TMW) ({ frames := 1, cells := 0, slots := 0, locals := 22 } : Room) (fun ad => [.ref (ad 0), .int x1, .int x2]) v (f_X8_event x1 x2 v) :=
  tmMi.of (cc := cX8_event) (nL := 3) (by decide +kernel) rfl tm_NWR_ok (fun _ => Nat.le_of_ble_eq_true rfl) (fun p e s m args below meth c A D cy ad z C0 => w_X8_event C0 x1 x2 v)
-- ----- X8_since
theorem dX8_since_0 : decode cX8_since 0 = .ok (.aload_n 0, 1) := by decide +kernel
theorem dX8_since_1 : decode cX8_since 1 = .ok (.iload_n 1, 1) := by decide +kernel
theorem dX8_since_2 : decode cX8_since 2 = .ok (.ifCond .ge 7, 3) := by decide +kernel
theorem dX8_since_5 : decode cX8_since 5 = .ok (.iconst 1, 1) := by decide +kernel
theorem dX8_since_6 : decode cX8_since 6 = .ok (.goto 17, 3) := by decide +kernel
theorem dX8_since_9 : decode cX8_since 9 = .ok (.iload_n 2, 1) := by decide +kernel
theorem dX8_since_10 : decode cX8_since 10 = .ok (.iconst 0, 1) := by decide +kernel
theorem dX8_since_11 : decode cX8_since 11 = .ok (.iconst 2, 1) := by decide +kernel
theorem dX8_since_12 : decode cX8_since 12 = .ok (.invokestatic 63, 3) := by decide +kernel
theorem dX8_since_15 : decode cX8_since 15 = .ok (.ifCond .eq 7, 3) := by decide +kernel
theorem dX8_since_18 : decode cX8_since 18 = .ok (.iconst 0, 1) := by decide +kernel
theorem dX8_since_19 : decode cX8_since 19 = .ok (.goto 4, 3) := by decide +kernel
theorem dX8_since_22 : decode cX8_since 22 = .ok (.iconst 2, 1) := by decide +kernel
theorem dX8_since_23 : decode cX8_since 23 = .ok (.putfield 56, 3) := by decide +kernel
theorem dX8_since_26 : decode cX8_since 26 = .ok (.aload_n 0, 1) := by decide +kernel
theorem dX8_since_27 : decode cX8_since 27 = .ok (.getfield 56, 3) := by decide +kernel
theorem dX8_since_30 : decode cX8_since 30 = .ok (.ifCond .le 5, 3) := by decide +kernel
theorem dX8_since_33 : decode cX8_since 33 = .ok (.iconst 0, 1) := by decide +kernel
theorem dX8_since_34 : decode cX8_since 34 = .ok (.ireturn, 1) := by decide +kernel
theorem dX8_since_35 : decode cX8_since 35 = .ok (.aload_n 0, 1) := by decide +kernel
theorem dX8_since_36 : decode cX8_since 36 = .ok (.getfield 7, 3) := by decide +kernel
theorem dX8_since_39 : decode cX8_since 39 = .ok (.iconst 0, 1) := by decide +kernel
theorem dX8_since_40 : decode cX8_since 40 = .ok (.iaload, 1) := by decide +kernel
theorem dX8_since_41 : decode cX8_since 41 = .ok (.iconst 2, 1) := by decide +kernel
theorem dX8_since_42 : decode cX8_since 42 = .ok (.if_icmp .ne 18, 3) := by decide +kernel
theorem dX8_since_45 : decode cX8_since 45 = .ok (.iload_n 1, 1) := by decide +kernel
theorem dX8_since_46 : decode cX8_since 46 = .ok (.aload_n 0, 1) := by decide +kernel
theorem dX8_since_47 : decode cX8_since 47 = .ok (.getfield 7, 3) := by decide +kernel
theorem dX8_since_50 : decode cX8_since 50 = .ok (.bipush 9, 2) := by decide +kernel
theorem dX8_since_52 : decode cX8_since 52 = .ok (.iaload, 1) := by decide +kernel
theorem dX8_since_53 : decode cX8_since 53 = .ok (.if_icmp .ge 7, 3) := by decide +kernel
theorem dX8_since_56 : decode cX8_since 56 = .ok (.iconst 1, 1) := by decide +kernel
theorem dX8_since_57 : decode cX8_since 57 = .ok (.goto 4, 3) := by decide +kernel
theorem dX8_since_60 : decode cX8_since 60 = .ok (.iconst 0, 1) := by decide +kernel
theorem dX8_since_61 : decode cX8_since 61 = .ok (.istore_n 3, 1) := by decide +kernel
theorem dX8_since_62 : decode cX8_since 62 = .ok (.iload_n 3, 1) := by decide +kernel
theorem dX8_since_63 : decode cX8_since 63 = .ok (.ifCond .eq 30, 3) := by decide +kernel
theorem dX8_since_66 : decode cX8_since 66 = .ok (.aload_n 0, 1) := by decide +kernel
theorem dX8_since_67 : decode cX8_since 67 = .ok (.getfield 7, 3) := by decide +kernel
theorem dX8_since_70 : decode cX8_since 70 = .ok (.sipush 311, 3) := by decide +kernel
theorem dX8_since_73 : decode cX8_since 73 = .ok (.iconst 3, 1) := by decide +kernel
theorem dX8_since_74 : decode cX8_since 74 = .ok (.aload_n 0, 1) := by decide +kernel
theorem dX8_since_75 : decode cX8_since 75 = .ok (.getfield 7, 3) := by decide +kernel
theorem dX8_since_78 : decode cX8_since 78 = .ok (.bipush 9, 2) := by decide +kernel
theorem dX8_since_80 : decode cX8_since 80 = .ok (.iaload, 1) := by decide +kernel
theorem dX8_since_81 : decode cX8_since 81 = .ok (.iconst 1, 1) := by decide +kernel
theorem dX8_since_82 : decode cX8_since 82 = .ok (.isub, 1) := by decide +kernel
theorem dX8_since_83 : decode cX8_since 83 = .ok (.iload_n 1, 1) := by decide +kernel
theorem dX8_since_84 : decode cX8_since 84 = .ok (.isub, 1) := by decide +kernel
theorem dX8_since_85 : decode cX8_since 85 = .ok (.imul, 1) := by decide +kernel
theorem dX8_since_86 : decode cX8_since 86 = .ok (.iadd, 1) := by decide +kernel
theorem dX8_since_87 : decode cX8_since 87 = .ok (.iload_n 2, 1) := by decide +kernel
theorem dX8_since_88 : decode cX8_since 88 = .ok (.iadd, 1) := by decide +kernel
theorem dX8_since_89 : decode cX8_since 89 = .ok (.iaload, 1) := by decide +kernel
theorem dX8_since_90 : decode cX8_since 90 = .ok (.goto 4, 3) := by decide +kernel
theorem dX8_since_93 : decode cX8_since 93 = .ok (.iconst (-1), 1) := by decide +kernel
theorem dX8_since_94 : decode cX8_since 94 = .ok (.ireturn, 1) := by decide +kernel
def f_X8_since_61 (x1 x2 s0 : Int32) (v : tmM) : Option (Int32 × tmM) := (if s0 = 0 then some ((-1), v) else tm_g (tm_ix 9 491) (tm_g (tm_ix ((311 + (3 * (((v 1 (9 : Int32).toNatClampNeg) - 1) - x1))) + x2) 491) (some (v 1 ((311 + (3 * (((v 1 (9 : Int32).toNatClampNeg) - 1) - x1))) + x2).toNatClampNeg, v))))
set_option maxRecDepth 100000 in
set_option maxHeartbeats 4000000 in
theorem w_X8_since_61 {p : Program} {l : Launch} {e : Env} {s : State} {m : MethodId} {args : Array Value} {below : List Frame} {meth : Method} {c : Code} {D : va_G} {cy : Nat → ClassId} {ad : Nat → Nat} {A : Nat → Prop} {z : (Int32 × tmM)} (C0 : tmC p s m args meth c cX8_since 4 (some .int) RX8 TMW tm_NWR D cy tm_shR ad 13 [] A) (x1 x2 s0 : Int32) (v : tmM) : tmG p l e ({ frames := 1, cells := 0, slots := 0, locals := 22 } : Room) s m args below meth c 0 0 (MQ below (va_Qi (fun r u => z = (r, u)) (tmAt tm_shR 13 D cy ad A) A) args s 0 0 A) 4 D cy tm_shR ad 13 [] A z 61 [(0, .ref (ad 0)), (1, .int x1), (2, .int x2)] [.int s0] v (f_X8_since_61 x1 x2 s0 v) := by
  unfold f_X8_since_61
  refine tg_istore_n [(3, .int s0), (0, .ref (ad 0)), (1, .int x1), (2, .int x2)] C0 dX8_since_61 rfl (by decide) rfl ?_
  refine tg_iload_n 0 C0 dX8_since_62 rfl rfl ?_
  refine tg_if_eq 93 C0 dX8_since_63 (by decide) (fun _ => ?_) (fun _ => ?_)
  · refine tg_iconst (x := (-1)) C0 dX8_since_93 (by decide) ?_
    exact tg_iret C0 dX8_since_94
  · refine tg_aload_n 1 C0 dX8_since_66 rfl rfl ?_
    refine tg_get 0 1 C0 dX8_since_67 (by decide) rfl rfl tu_X8 (by decide) tf_X8_7 rfl rfl rfl ?_
    refine tg_sipush (x := 311) C0 dX8_since_70 (by decide) ?_
    refine tg_iconst (x := 3) C0 dX8_since_73 (by decide) ?_
    refine tg_aload_n 1 C0 dX8_since_74 rfl rfl ?_
    refine tg_get 0 1 C0 dX8_since_75 (by decide) rfl rfl tu_X8 (by decide) tf_X8_7 rfl rfl rfl ?_
    refine tg_bipush (x := 9) C0 dX8_since_78 (by decide) ?_
    refine tg_iald 1 C0 dX8_since_80 (by decide) rfl (fun _ => ?_)
    refine tg_iconst (x := 1) C0 dX8_since_81 (by decide) ?_
    refine tg_isub C0 dX8_since_82 ?_
    refine tg_iload_n 2 C0 dX8_since_83 rfl rfl ?_
    refine tg_isub C0 dX8_since_84 ?_
    refine tg_imul C0 dX8_since_85 ?_
    refine tg_iadd C0 dX8_since_86 ?_
    refine tg_iload_n 3 C0 dX8_since_87 rfl rfl ?_
    refine tg_iadd C0 dX8_since_88 ?_
    refine tg_iald 1 C0 dX8_since_89 (by decide) rfl (fun _ => ?_)
    refine tg_goto 94 C0 dX8_since_90 (by decide) ?_
    exact tg_iret C0 dX8_since_94
def f_X8_since_60 (x1 x2 : Int32) (v : tmM) : Option (Int32 × tmM) := f_X8_since_61 x1 x2 0 v
set_option maxRecDepth 100000 in
set_option maxHeartbeats 4000000 in
theorem w_X8_since_60 {p : Program} {l : Launch} {e : Env} {s : State} {m : MethodId} {args : Array Value} {below : List Frame} {meth : Method} {c : Code} {D : va_G} {cy : Nat → ClassId} {ad : Nat → Nat} {A : Nat → Prop} {z : (Int32 × tmM)} (C0 : tmC p s m args meth c cX8_since 4 (some .int) RX8 TMW tm_NWR D cy tm_shR ad 13 [] A) (x1 x2 : Int32) (v : tmM) : tmG p l e ({ frames := 1, cells := 0, slots := 0, locals := 22 } : Room) s m args below meth c 0 0 (MQ below (va_Qi (fun r u => z = (r, u)) (tmAt tm_shR 13 D cy ad A) A) args s 0 0 A) 4 D cy tm_shR ad 13 [] A z 60 [(0, .ref (ad 0)), (1, .int x1), (2, .int x2)] [] v (f_X8_since_60 x1 x2 v) := by
  unfold f_X8_since_60
  refine tg_iconst (x := 0) C0 dX8_since_60 (by decide) ?_
  exact w_X8_since_61 C0 x1 x2 0 v
def f_X8_since_23 (x1 x2 s0 : Int32) (v : tmM) : Option (Int32 × tmM) := tm_lt (tm_up v 0 0 s0) fun v3 => (if (v3 0 0) ≤ 0 then tm_g (tm_ix 0 491) ((if (v3 1 (0 : Int32).toNatClampNeg) = 2 then tm_g (tm_ix 9 491) ((if (v3 1 (9 : Int32).toNatClampNeg) ≤ x1 then f_X8_since_60 x1 x2 v3 else f_X8_since_61 x1 x2 1 v3)) else f_X8_since_60 x1 x2 v3)) else some (0, v3))
set_option maxRecDepth 100000 in
set_option maxHeartbeats 4000000 in
theorem w_X8_since_23 {p : Program} {l : Launch} {e : Env} {s : State} {m : MethodId} {args : Array Value} {below : List Frame} {meth : Method} {c : Code} {D : va_G} {cy : Nat → ClassId} {ad : Nat → Nat} {A : Nat → Prop} {z : (Int32 × tmM)} (C0 : tmC p s m args meth c cX8_since 4 (some .int) RX8 TMW tm_NWR D cy tm_shR ad 13 [] A) (x1 x2 s0 : Int32) (v : tmM) : tmG p l e ({ frames := 1, cells := 0, slots := 0, locals := 22 } : Room) s m args below meth c 0 0 (MQ below (va_Qi (fun r u => z = (r, u)) (tmAt tm_shR 13 D cy ad A) A) args s 0 0 A) 4 D cy tm_shR ad 13 [] A z 23 [(0, .ref (ad 0)), (1, .int x1), (2, .int x2)] [.int s0, .ref (ad 0)] v (f_X8_since_23 x1 x2 s0 v) := by
  unfold f_X8_since_23
  refine tg_put 0 0 C0 dX8_since_23 (by decide) rfl rfl tu_X8 tyX8_ok nmX8 (by decide) tf_X8_56 rfl rfl rfl rfl rfl rfl ?_
  refine tg_letm (fun v3 _ => ?_)
  refine tg_aload_n 0 C0 dX8_since_26 rfl rfl ?_
  refine tg_get 0 0 C0 dX8_since_27 (by decide) rfl rfl tu_X8 (by decide) tf_X8_56 rfl rfl rfl ?_
  refine tg_if_le 35 C0 dX8_since_30 (by decide) (fun _ => ?_) (fun _ => ?_)
  · refine tg_aload_n 0 C0 dX8_since_35 rfl rfl ?_
    refine tg_get 0 1 C0 dX8_since_36 (by decide) rfl rfl tu_X8 (by decide) tf_X8_7 rfl rfl rfl ?_
    refine tg_iconst (x := 0) C0 dX8_since_39 (by decide) ?_
    refine tg_iald 1 C0 dX8_since_40 (by decide) rfl (fun _ => ?_)
    refine tg_iconst (x := 2) C0 dX8_since_41 (by decide) ?_
    refine tg_icmp_ne 60 C0 dX8_since_42 (by decide) (fun _ => ?_) (fun _ => ?_)
    · exact w_X8_since_60 C0 x1 x2 v3
    · refine tg_iload_n 1 C0 dX8_since_45 rfl rfl ?_
      refine tg_aload_n 0 C0 dX8_since_46 rfl rfl ?_
      refine tg_get 0 1 C0 dX8_since_47 (by decide) rfl rfl tu_X8 (by decide) tf_X8_7 rfl rfl rfl ?_
      refine tg_bipush (x := 9) C0 dX8_since_50 (by decide) ?_
      refine tg_iald 1 C0 dX8_since_52 (by decide) rfl (fun _ => ?_)
      refine tg_icmp_ge 60 C0 dX8_since_53 (by decide) (fun _ => ?_) (fun _ => ?_)
      · exact w_X8_since_60 C0 x1 x2 v3
      · refine tg_iconst (x := 1) C0 dX8_since_56 (by decide) ?_
        refine tg_goto 61 C0 dX8_since_57 (by decide) ?_
        exact w_X8_since_61 C0 x1 x2 1 v3
  · refine tg_iconst (x := 0) C0 dX8_since_33 (by decide) ?_
    exact tg_iret C0 dX8_since_34
def f_X8_since (x1 x2 : Int32) (v : tmM) : Option (Int32 × tmM) := (if 0 ≤ x1 then tm_cl (f_X8_in x2 0 2 v) fun r2 v1 => (if r2 = 0 then f_X8_since_23 x1 x2 2 v1 else f_X8_since_23 x1 x2 0 v1) else f_X8_since_23 x1 x2 1 v)
set_option maxRecDepth 100000 in
set_option maxHeartbeats 4000000 in
theorem w_X8_since {p : Program} {l : Launch} {e : Env} {s : State} {m : MethodId} {args : Array Value} {below : List Frame} {meth : Method} {c : Code} {D : va_G} {cy : Nat → ClassId} {ad : Nat → Nat} {A : Nat → Prop} {z : (Int32 × tmM)} (C0 : tmC p s m args meth c cX8_since 4 (some .int) RX8 TMW tm_NWR D cy tm_shR ad 13 [] A) (x1 x2 : Int32) (v : tmM) : tmG p l e ({ frames := 1, cells := 0, slots := 0, locals := 22 } : Room) s m args below meth c 0 0 (MQ below (va_Qi (fun r u => z = (r, u)) (tmAt tm_shR 13 D cy ad A) A) args s 0 0 A) 4 D cy tm_shR ad 13 [] A z 0 [(0, .ref (ad 0)), (1, .int x1), (2, .int x2)] [] v (f_X8_since x1 x2 v) := by
  unfold f_X8_since
  refine tg_aload_n 0 C0 dX8_since_0 rfl rfl ?_
  refine tg_iload_n 1 C0 dX8_since_1 rfl rfl ?_
  refine tg_if_ge 9 C0 dX8_since_2 (by decide) (fun _ => ?_) (fun _ => ?_)
  · refine tg_iload_n 2 C0 dX8_since_9 rfl rfl ?_
    refine tg_iconst (x := 0) C0 dX8_since_10 (by decide) ?_
    refine tg_iconst (x := 2) C0 dX8_since_11 (by decide) ?_
    refine tg_callSi (As := [.int x2, .int 0, .int 2]) 3 C0 dX8_since_12 (c_X8_in l x2 0 2 v) rfl rfl (tm_gc tc_X8_in) tl_X8_63 tn_X8 tst_X8_in  rfl rfl rfl rfl (by decide +kernel) ⟨by decide, by decide⟩ (Nat.le_of_ble_eq_true rfl) ⟨by decide, by decide⟩ (fun r2 v1 _ => ?_)
    refine tg_if_eq 22 C0 dX8_since_15 (by decide) (fun _ => ?_) (fun _ => ?_)
    · refine tg_iconst (x := 2) C0 dX8_since_22 (by decide) ?_
      exact w_X8_since_23 C0 x1 x2 2 v1
    · refine tg_iconst (x := 0) C0 dX8_since_18 (by decide) ?_
      refine tg_goto 23 C0 dX8_since_19 (by decide) ?_
      exact w_X8_since_23 C0 x1 x2 0 v1
  · refine tg_iconst (x := 1) C0 dX8_since_5 (by decide) ?_
    refine tg_goto 23 C0 dX8_since_6 (by decide) ?_
    exact w_X8_since_23 C0 x1 x2 1 v
theorem c_X8_since (l : Launch) (x1 x2 : Int32) (v : tmM) : tmMi tm_NWR tm_shR 13 l yX8_since (Cond.code yX8_since cX8_since 4 (some .int) :: TMW) ({ frames := 1, cells := 0, slots := 0, locals := 22 } : Room) (fun ad => [.ref (ad 0), .int x1, .int x2]) v (f_X8_since x1 x2 v) :=
  tmMi.of (cc := cX8_since) (nL := 4) (by decide +kernel) rfl tm_NWR_ok (fun _ => Nat.le_of_ble_eq_true rfl) (fun p e s m args below meth c A D cy ad z C0 => w_X8_since C0 x1 x2 v)
-- ----- X8_account
theorem dX8_account_0 : decode cX8_account 0 = .ok (.aload_n 0, 1) := by decide +kernel
theorem dX8_account_1 : decode cX8_account 1 = .ok (.iload_n 1, 1) := by decide +kernel
theorem dX8_account_2 : decode cX8_account 2 = .ok (.iconst 0, 1) := by decide +kernel
theorem dX8_account_3 : decode cX8_account 3 = .ok (.bipush 9, 2) := by decide +kernel
theorem dX8_account_5 : decode cX8_account 5 = .ok (.invokestatic 63, 3) := by decide +kernel
theorem dX8_account_8 : decode cX8_account 8 = .ok (.ifCond .eq 7, 3) := by decide +kernel
theorem dX8_account_11 : decode cX8_account 11 = .ok (.iconst 0, 1) := by decide +kernel
theorem dX8_account_12 : decode cX8_account 12 = .ok (.goto 4, 3) := by decide +kernel
theorem dX8_account_15 : decode cX8_account 15 = .ok (.iconst 1, 1) := by decide +kernel
theorem dX8_account_16 : decode cX8_account 16 = .ok (.putfield 56, 3) := by decide +kernel
theorem dX8_account_19 : decode cX8_account 19 = .ok (.aload_n 0, 1) := by decide +kernel
theorem dX8_account_20 : decode cX8_account 20 = .ok (.getfield 56, 3) := by decide +kernel
theorem dX8_account_23 : decode cX8_account 23 = .ok (.ifCond .le 7, 3) := by decide +kernel
theorem dX8_account_26 : decode cX8_account 26 = .ok (.iconst 0, 1) := by decide +kernel
theorem dX8_account_27 : decode cX8_account 27 = .ok (.goto 9, 3) := by decide +kernel
theorem dX8_account_30 : decode cX8_account 30 = .ok (.aload_n 0, 1) := by decide +kernel
theorem dX8_account_31 : decode cX8_account 31 = .ok (.getfield 23, 3) := by decide +kernel
theorem dX8_account_34 : decode cX8_account 34 = .ok (.iload_n 1, 1) := by decide +kernel
theorem dX8_account_35 : decode cX8_account 35 = .ok (.iaload, 1) := by decide +kernel
theorem dX8_account_36 : decode cX8_account 36 = .ok (.ireturn, 1) := by decide +kernel
def f_X8_account_16 (x1 s0 : Int32) (v : tmM) : Option (Int32 × tmM) := tm_lt (tm_up v 0 0 s0) fun v3 => (if (v3 0 0) ≤ 0 then tm_g (tm_ix x1 10) (some (v3 5 x1.toNatClampNeg, v3)) else some (0, v3))
set_option maxRecDepth 100000 in
set_option maxHeartbeats 4000000 in
theorem w_X8_account_16 {p : Program} {l : Launch} {e : Env} {s : State} {m : MethodId} {args : Array Value} {below : List Frame} {meth : Method} {c : Code} {D : va_G} {cy : Nat → ClassId} {ad : Nat → Nat} {A : Nat → Prop} {z : (Int32 × tmM)} (C0 : tmC p s m args meth c cX8_account 2 (some .int) RX8 TMW tm_NWR D cy tm_shR ad 13 [] A) (x1 s0 : Int32) (v : tmM) : tmG p l e ({ frames := 1, cells := 0, slots := 0, locals := 22 } : Room) s m args below meth c 0 0 (MQ below (va_Qi (fun r u => z = (r, u)) (tmAt tm_shR 13 D cy ad A) A) args s 0 0 A) 2 D cy tm_shR ad 13 [] A z 16 [(0, .ref (ad 0)), (1, .int x1)] [.int s0, .ref (ad 0)] v (f_X8_account_16 x1 s0 v) := by
  unfold f_X8_account_16
  refine tg_put 0 0 C0 dX8_account_16 (by decide) rfl rfl tu_X8 tyX8_ok nmX8 (by decide) tf_X8_56 rfl rfl rfl rfl rfl rfl ?_
  refine tg_letm (fun v3 _ => ?_)
  refine tg_aload_n 0 C0 dX8_account_19 rfl rfl ?_
  refine tg_get 0 0 C0 dX8_account_20 (by decide) rfl rfl tu_X8 (by decide) tf_X8_56 rfl rfl rfl ?_
  refine tg_if_le 30 C0 dX8_account_23 (by decide) (fun _ => ?_) (fun _ => ?_)
  · refine tg_aload_n 0 C0 dX8_account_30 rfl rfl ?_
    refine tg_get 0 6 C0 dX8_account_31 (by decide) rfl rfl tu_X8 (by decide) tf_X8_23 rfl rfl rfl ?_
    refine tg_iload_n 1 C0 dX8_account_34 rfl rfl ?_
    refine tg_iald 5 C0 dX8_account_35 (by decide) rfl (fun _ => ?_)
    exact tg_iret C0 dX8_account_36
  · refine tg_iconst (x := 0) C0 dX8_account_26 (by decide) ?_
    refine tg_goto 36 C0 dX8_account_27 (by decide) ?_
    exact tg_iret C0 dX8_account_36
def f_X8_account (x1 : Int32) (v : tmM) : Option (Int32 × tmM) := tm_cl (f_X8_in x1 0 9 v) fun r2 v1 => (if r2 = 0 then f_X8_account_16 x1 1 v1 else f_X8_account_16 x1 0 v1)
set_option maxRecDepth 100000 in
set_option maxHeartbeats 4000000 in
theorem w_X8_account {p : Program} {l : Launch} {e : Env} {s : State} {m : MethodId} {args : Array Value} {below : List Frame} {meth : Method} {c : Code} {D : va_G} {cy : Nat → ClassId} {ad : Nat → Nat} {A : Nat → Prop} {z : (Int32 × tmM)} (C0 : tmC p s m args meth c cX8_account 2 (some .int) RX8 TMW tm_NWR D cy tm_shR ad 13 [] A) (x1 : Int32) (v : tmM) : tmG p l e ({ frames := 1, cells := 0, slots := 0, locals := 22 } : Room) s m args below meth c 0 0 (MQ below (va_Qi (fun r u => z = (r, u)) (tmAt tm_shR 13 D cy ad A) A) args s 0 0 A) 2 D cy tm_shR ad 13 [] A z 0 [(0, .ref (ad 0)), (1, .int x1)] [] v (f_X8_account x1 v) := by
  unfold f_X8_account
  refine tg_aload_n 0 C0 dX8_account_0 rfl rfl ?_
  refine tg_iload_n 1 C0 dX8_account_1 rfl rfl ?_
  refine tg_iconst (x := 0) C0 dX8_account_2 (by decide) ?_
  refine tg_bipush (x := 9) C0 dX8_account_3 (by decide) ?_
  refine tg_callSi (As := [.int x1, .int 0, .int 9]) 3 C0 dX8_account_5 (c_X8_in l x1 0 9 v) rfl rfl (tm_gc tc_X8_in) tl_X8_63 tn_X8 tst_X8_in  rfl rfl rfl rfl (by decide +kernel) ⟨by decide, by decide⟩ (Nat.le_of_ble_eq_true rfl) ⟨by decide, by decide⟩ (fun r2 v1 _ => ?_)
  refine tg_if_eq 15 C0 dX8_account_8 (by decide) (fun _ => ?_) (fun _ => ?_)
  · refine tg_iconst (x := 1) C0 dX8_account_15 (by decide) ?_
    exact w_X8_account_16 C0 x1 1 v1
  · refine tg_iconst (x := 0) C0 dX8_account_11 (by decide) ?_
    refine tg_goto 16 C0 dX8_account_12 (by decide) ?_
    exact w_X8_account_16 C0 x1 0 v1
theorem c_X8_account (l : Launch) (x1 : Int32) (v : tmM) : tmMi tm_NWR tm_shR 13 l yX8_account (Cond.code yX8_account cX8_account 2 (some .int) :: TMW) ({ frames := 1, cells := 0, slots := 0, locals := 22 } : Room) (fun ad => [.ref (ad 0), .int x1]) v (f_X8_account x1 v) :=
  tmMi.of (cc := cX8_account) (nL := 2) (by decide +kernel) rfl tm_NWR_ok (fun _ => Nat.le_of_ble_eq_true rfl) (fun p e s m args below meth c A D cy ad z C0 => w_X8_account C0 x1 v)
-- ----- X8_keepsWrite
theorem dX8_keepsWrite_0 : decode cX8_keepsWrite 0 = .ok (.aload_n 0, 1) := by decide +kernel
theorem dX8_keepsWrite_1 : decode cX8_keepsWrite 1 = .ok (.getfield 7, 3) := by decide +kernel
theorem dX8_keepsWrite_4 : decode cX8_keepsWrite 4 = .ok (.bipush 8, 2) := by decide +kernel
theorem dX8_keepsWrite_6 : decode cX8_keepsWrite 6 = .ok (.dup2, 1) := by decide +kernel
theorem dX8_keepsWrite_7 : decode cX8_keepsWrite 7 = .ok (.iaload, 1) := by decide +kernel
theorem dX8_keepsWrite_8 : decode cX8_keepsWrite 8 = .ok (.iconst 1, 1) := by decide +kernel
theorem dX8_keepsWrite_9 : decode cX8_keepsWrite 9 = .ok (.iadd, 1) := by decide +kernel
theorem dX8_keepsWrite_10 : decode cX8_keepsWrite 10 = .ok (.iastore, 1) := by decide +kernel
theorem dX8_keepsWrite_11 : decode cX8_keepsWrite 11 = .ok (.aload_n 0, 1) := by decide +kernel
theorem dX8_keepsWrite_12 : decode cX8_keepsWrite 12 = .ok (.getfield 7, 3) := by decide +kernel
theorem dX8_keepsWrite_15 : decode cX8_keepsWrite 15 = .ok (.bipush 9, 2) := by decide +kernel
theorem dX8_keepsWrite_17 : decode cX8_keepsWrite 17 = .ok (.iaload, 1) := by decide +kernel
theorem dX8_keepsWrite_18 : decode cX8_keepsWrite 18 = .ok (.bipush 20, 2) := by decide +kernel
theorem dX8_keepsWrite_20 : decode cX8_keepsWrite 20 = .ok (.if_icmp .ne 45, 3) := by decide +kernel
theorem dX8_keepsWrite_23 : decode cX8_keepsWrite 23 = .ok (.sipush 311, 3) := by decide +kernel
theorem dX8_keepsWrite_26 : decode cX8_keepsWrite 26 = .ok (.istore_n 3, 1) := by decide +kernel
theorem dX8_keepsWrite_27 : decode cX8_keepsWrite 27 = .ok (.iload_n 3, 1) := by decide +kernel
theorem dX8_keepsWrite_28 : decode cX8_keepsWrite 28 = .ok (.sipush 368, 3) := by decide +kernel
theorem dX8_keepsWrite_31 : decode cX8_keepsWrite 31 = .ok (.if_icmp .ge 23, 3) := by decide +kernel
theorem dX8_keepsWrite_34 : decode cX8_keepsWrite 34 = .ok (.aload_n 0, 1) := by decide +kernel
theorem dX8_keepsWrite_35 : decode cX8_keepsWrite 35 = .ok (.getfield 7, 3) := by decide +kernel
theorem dX8_keepsWrite_38 : decode cX8_keepsWrite 38 = .ok (.iload_n 3, 1) := by decide +kernel
theorem dX8_keepsWrite_39 : decode cX8_keepsWrite 39 = .ok (.aload_n 0, 1) := by decide +kernel
theorem dX8_keepsWrite_40 : decode cX8_keepsWrite 40 = .ok (.getfield 7, 3) := by decide +kernel
theorem dX8_keepsWrite_43 : decode cX8_keepsWrite 43 = .ok (.iload_n 3, 1) := by decide +kernel
theorem dX8_keepsWrite_44 : decode cX8_keepsWrite 44 = .ok (.iconst 3, 1) := by decide +kernel
theorem dX8_keepsWrite_45 : decode cX8_keepsWrite 45 = .ok (.iadd, 1) := by decide +kernel
theorem dX8_keepsWrite_46 : decode cX8_keepsWrite 46 = .ok (.iaload, 1) := by decide +kernel
theorem dX8_keepsWrite_47 : decode cX8_keepsWrite 47 = .ok (.iastore, 1) := by decide +kernel
theorem dX8_keepsWrite_48 : decode cX8_keepsWrite 48 = .ok (.iinc 3 1, 3) := by decide +kernel
theorem dX8_keepsWrite_51 : decode cX8_keepsWrite 51 = .ok (.goto (-24), 3) := by decide +kernel
theorem dX8_keepsWrite_54 : decode cX8_keepsWrite 54 = .ok (.aload_n 0, 1) := by decide +kernel
theorem dX8_keepsWrite_55 : decode cX8_keepsWrite 55 = .ok (.getfield 7, 3) := by decide +kernel
theorem dX8_keepsWrite_58 : decode cX8_keepsWrite 58 = .ok (.bipush 9, 2) := by decide +kernel
theorem dX8_keepsWrite_60 : decode cX8_keepsWrite 60 = .ok (.dup2, 1) := by decide +kernel
theorem dX8_keepsWrite_61 : decode cX8_keepsWrite 61 = .ok (.iaload, 1) := by decide +kernel
theorem dX8_keepsWrite_62 : decode cX8_keepsWrite 62 = .ok (.iconst 1, 1) := by decide +kernel
theorem dX8_keepsWrite_63 : decode cX8_keepsWrite 63 = .ok (.isub, 1) := by decide +kernel
theorem dX8_keepsWrite_64 : decode cX8_keepsWrite 64 = .ok (.iastore, 1) := by decide +kernel
theorem dX8_keepsWrite_65 : decode cX8_keepsWrite 65 = .ok (.sipush 311, 3) := by decide +kernel
theorem dX8_keepsWrite_68 : decode cX8_keepsWrite 68 = .ok (.iconst 3, 1) := by decide +kernel
theorem dX8_keepsWrite_69 : decode cX8_keepsWrite 69 = .ok (.aload_n 0, 1) := by decide +kernel
theorem dX8_keepsWrite_70 : decode cX8_keepsWrite 70 = .ok (.getfield 7, 3) := by decide +kernel
theorem dX8_keepsWrite_73 : decode cX8_keepsWrite 73 = .ok (.bipush 9, 2) := by decide +kernel
theorem dX8_keepsWrite_75 : decode cX8_keepsWrite 75 = .ok (.iaload, 1) := by decide +kernel
theorem dX8_keepsWrite_76 : decode cX8_keepsWrite 76 = .ok (.imul, 1) := by decide +kernel
theorem dX8_keepsWrite_77 : decode cX8_keepsWrite 77 = .ok (.iadd, 1) := by decide +kernel
theorem dX8_keepsWrite_78 : decode cX8_keepsWrite 78 = .ok (.istore_n 3, 1) := by decide +kernel
theorem dX8_keepsWrite_79 : decode cX8_keepsWrite 79 = .ok (.aload_n 0, 1) := by decide +kernel
theorem dX8_keepsWrite_80 : decode cX8_keepsWrite 80 = .ok (.getfield 7, 3) := by decide +kernel
theorem dX8_keepsWrite_83 : decode cX8_keepsWrite 83 = .ok (.iload_n 3, 1) := by decide +kernel
theorem dX8_keepsWrite_84 : decode cX8_keepsWrite 84 = .ok (.iload_n 1, 1) := by decide +kernel
theorem dX8_keepsWrite_85 : decode cX8_keepsWrite 85 = .ok (.iastore, 1) := by decide +kernel
theorem dX8_keepsWrite_86 : decode cX8_keepsWrite 86 = .ok (.aload_n 0, 1) := by decide +kernel
theorem dX8_keepsWrite_87 : decode cX8_keepsWrite 87 = .ok (.getfield 7, 3) := by decide +kernel
theorem dX8_keepsWrite_90 : decode cX8_keepsWrite 90 = .ok (.iload_n 3, 1) := by decide +kernel
theorem dX8_keepsWrite_91 : decode cX8_keepsWrite 91 = .ok (.iconst 1, 1) := by decide +kernel
theorem dX8_keepsWrite_92 : decode cX8_keepsWrite 92 = .ok (.iadd, 1) := by decide +kernel
theorem dX8_keepsWrite_93 : decode cX8_keepsWrite 93 = .ok (.iload_n 2, 1) := by decide +kernel
theorem dX8_keepsWrite_94 : decode cX8_keepsWrite 94 = .ok (.iastore, 1) := by decide +kernel
theorem dX8_keepsWrite_95 : decode cX8_keepsWrite 95 = .ok (.aload_n 0, 1) := by decide +kernel
theorem dX8_keepsWrite_96 : decode cX8_keepsWrite 96 = .ok (.getfield 7, 3) := by decide +kernel
theorem dX8_keepsWrite_99 : decode cX8_keepsWrite 99 = .ok (.iload_n 3, 1) := by decide +kernel
theorem dX8_keepsWrite_100 : decode cX8_keepsWrite 100 = .ok (.iconst 2, 1) := by decide +kernel
theorem dX8_keepsWrite_101 : decode cX8_keepsWrite 101 = .ok (.iadd, 1) := by decide +kernel
theorem dX8_keepsWrite_102 : decode cX8_keepsWrite 102 = .ok (.aload_n 0, 1) := by decide +kernel
theorem dX8_keepsWrite_103 : decode cX8_keepsWrite 103 = .ok (.iconst 1, 1) := by decide +kernel
theorem dX8_keepsWrite_104 : decode cX8_keepsWrite 104 = .ok (.iload_n 1, 1) := by decide +kernel
theorem dX8_keepsWrite_105 : decode cX8_keepsWrite 105 = .ok (.invokevirtual 74, 3) := by decide +kernel
theorem dX8_keepsWrite_108 : decode cX8_keepsWrite 108 = .ok (.iastore, 1) := by decide +kernel
theorem dX8_keepsWrite_109 : decode cX8_keepsWrite 109 = .ok (.aload_n 0, 1) := by decide +kernel
theorem dX8_keepsWrite_110 : decode cX8_keepsWrite 110 = .ok (.getfield 7, 3) := by decide +kernel
theorem dX8_keepsWrite_113 : decode cX8_keepsWrite 113 = .ok (.bipush 9, 2) := by decide +kernel
theorem dX8_keepsWrite_115 : decode cX8_keepsWrite 115 = .ok (.dup2, 1) := by decide +kernel
theorem dX8_keepsWrite_116 : decode cX8_keepsWrite 116 = .ok (.iaload, 1) := by decide +kernel
theorem dX8_keepsWrite_117 : decode cX8_keepsWrite 117 = .ok (.iconst 1, 1) := by decide +kernel
theorem dX8_keepsWrite_118 : decode cX8_keepsWrite 118 = .ok (.iadd, 1) := by decide +kernel
theorem dX8_keepsWrite_119 : decode cX8_keepsWrite 119 = .ok (.iastore, 1) := by decide +kernel
theorem dX8_keepsWrite_120 : decode cX8_keepsWrite 120 = .ok (.return_, 1) := by decide +kernel
def f_X8_keepsWrite_65 (x1 x2 : Int32) (v : tmM) : Option (Unit × tmM) := tm_g (tm_ix 9 491) (tm_lt (311 + (3 * (v 1 (9 : Int32).toNatClampNeg))) fun y2 => tm_g (tm_ix y2 491) (tm_lt (tm_up v 1 y2.toNatClampNeg x1) fun v3 => tm_g (tm_ix (y2 + 1) 491) (tm_lt (tm_up v3 1 (y2 + 1).toNatClampNeg x2) fun v4 => tm_cl (f_X8_valueIn 1 x1 v4) fun r6 v5 => tm_g (tm_ix (y2 + 2) 491) (tm_lt (tm_up v5 1 (y2 + 2).toNatClampNeg r6) fun v7 => tm_g (tm_ix 9 491) (tm_g (tm_ix 9 491) (tm_lt (tm_up v7 1 (9 : Int32).toNatClampNeg ((v7 1 (9 : Int32).toNatClampNeg) + 1)) fun v8 => some ((), v8)))))))
set_option maxRecDepth 100000 in
set_option maxHeartbeats 4000000 in
theorem w_X8_keepsWrite_65 {p : Program} {l : Launch} {e : Env} {s : State} {m : MethodId} {args : Array Value} {below : List Frame} {meth : Method} {c : Code} {D : va_G} {cy : Nat → ClassId} {ad : Nat → Nat} {A : Nat → Prop} {z : (Unit × tmM)} (C0 : tmC p s m args meth c cX8_keepsWrite 4 none RX8 TMW tm_NWR D cy tm_shR ad 13 [] A) (x1 x2 : Int32) (v : tmM) : tmG p l e ({ frames := 3, cells := 0, slots := 0, locals := 67 } : Room) s m args below meth c 0 0 (MQ below (va_Qv (fun u => z = ((), u)) (tmAt tm_shR 13 D cy ad A) A) args s 0 0 A) 4 D cy tm_shR ad 13 [] A z 65 [(0, .ref (ad 0)), (1, .int x1), (2, .int x2)] [] v (f_X8_keepsWrite_65 x1 x2 v) := by
  unfold f_X8_keepsWrite_65
  refine tg_sipush (x := 311) C0 dX8_keepsWrite_65 (by decide) ?_
  refine tg_iconst (x := 3) C0 dX8_keepsWrite_68 (by decide) ?_
  refine tg_aload_n 0 C0 dX8_keepsWrite_69 rfl rfl ?_
  refine tg_get 0 1 C0 dX8_keepsWrite_70 (by decide) rfl rfl tu_X8 (by decide) tf_X8_7 rfl rfl rfl ?_
  refine tg_bipush (x := 9) C0 dX8_keepsWrite_73 (by decide) ?_
  refine tg_iald 1 C0 dX8_keepsWrite_75 (by decide) rfl (fun _ => ?_)
  refine tg_imul C0 dX8_keepsWrite_76 ?_
  refine tg_iadd C0 dX8_keepsWrite_77 ?_
  refine tg_leti (fun y2 _ => ?_)
  refine tg_istore_n [(3, .int y2), (0, .ref (ad 0)), (1, .int x1), (2, .int x2)] C0 dX8_keepsWrite_78 rfl (by decide) rfl ?_
  refine tg_aload_n 1 C0 dX8_keepsWrite_79 rfl rfl ?_
  refine tg_get 0 1 C0 dX8_keepsWrite_80 (by decide) rfl rfl tu_X8 (by decide) tf_X8_7 rfl rfl rfl ?_
  refine tg_iload_n 0 C0 dX8_keepsWrite_83 rfl rfl ?_
  refine tg_iload_n 2 C0 dX8_keepsWrite_84 rfl rfl ?_
  refine tg_iast 1 C0 dX8_keepsWrite_85 (by decide) rfl (fun _ => ?_)
  refine tg_letm (fun v3 _ => ?_)
  refine tg_aload_n 1 C0 dX8_keepsWrite_86 rfl rfl ?_
  refine tg_get 0 1 C0 dX8_keepsWrite_87 (by decide) rfl rfl tu_X8 (by decide) tf_X8_7 rfl rfl rfl ?_
  refine tg_iload_n 0 C0 dX8_keepsWrite_90 rfl rfl ?_
  refine tg_iconst (x := 1) C0 dX8_keepsWrite_91 (by decide) ?_
  refine tg_iadd C0 dX8_keepsWrite_92 ?_
  refine tg_iload_n 3 C0 dX8_keepsWrite_93 rfl rfl ?_
  refine tg_iast 1 C0 dX8_keepsWrite_94 (by decide) rfl (fun _ => ?_)
  refine tg_letm (fun v4 _ => ?_)
  refine tg_aload_n 1 C0 dX8_keepsWrite_95 rfl rfl ?_
  refine tg_get 0 1 C0 dX8_keepsWrite_96 (by decide) rfl rfl tu_X8 (by decide) tf_X8_7 rfl rfl rfl ?_
  refine tg_iload_n 0 C0 dX8_keepsWrite_99 rfl rfl ?_
  refine tg_iconst (x := 2) C0 dX8_keepsWrite_100 (by decide) ?_
  refine tg_iadd C0 dX8_keepsWrite_101 ?_
  refine tg_aload_n 1 C0 dX8_keepsWrite_102 rfl rfl ?_
  refine tg_iconst (x := 1) C0 dX8_keepsWrite_103 (by decide) ?_
  refine tg_iload_n 2 C0 dX8_keepsWrite_104 rfl rfl ?_
  refine tg_callVi (As := [.int 1, .int x1]) 0 2 C0 dX8_keepsWrite_105 (c_X8_valueIn l 1 x1 v4) rfl rfl (by decide) rfl rfl (tm_gV tl_X8_74 ti_X8_valueIn ts_X8_valueIn tn_X8 tc_X8_valueIn)  rfl rfl rfl rfl (by decide +kernel) ⟨by decide, by decide⟩ (Nat.le_of_ble_eq_true rfl) ⟨by decide, by decide⟩ (fun r6 v5 _ => ?_)
  refine tg_iast 1 C0 dX8_keepsWrite_108 (by decide) rfl (fun _ => ?_)
  refine tg_letm (fun v7 _ => ?_)
  refine tg_aload_n 1 C0 dX8_keepsWrite_109 rfl rfl ?_
  refine tg_get 0 1 C0 dX8_keepsWrite_110 (by decide) rfl rfl tu_X8 (by decide) tf_X8_7 rfl rfl rfl ?_
  refine tg_bipush (x := 9) C0 dX8_keepsWrite_113 (by decide) ?_
  refine tg_dup2 C0 dX8_keepsWrite_115 ⟨rfl, rfl⟩ ?_
  refine tg_iald 1 C0 dX8_keepsWrite_116 (by decide) rfl (fun _ => ?_)
  refine tg_iconst (x := 1) C0 dX8_keepsWrite_117 (by decide) ?_
  refine tg_iadd C0 dX8_keepsWrite_118 ?_
  refine tg_iast 1 C0 dX8_keepsWrite_119 (by decide) rfl (fun _ => ?_)
  refine tg_letm (fun v8 _ => ?_)
  exact tg_vret C0 dX8_keepsWrite_120
def f_X8_keepsWrite_27b (K0 : Int32 → Int32 → tmM → Option (Unit × tmM)) (L : Int32 → Int32 → Int32 → tmM → Option (Unit × tmM)) (x1 x2 x3 : Int32) (v : tmM) : Option (Unit × tmM) := (if 368 ≤ x3 then K0 x1 x2 v else tm_g (tm_ix (x3 + 3) 491) (tm_g (tm_ix x3 491) (tm_lt (tm_up v 1 x3.toNatClampNeg (v 1 (x3 + 3).toNatClampNeg)) fun v9 => L x1 x2 (x3 + 1) v9)))
set_option maxRecDepth 100000 in
set_option maxHeartbeats 4000000 in
theorem w_X8_keepsWrite_27b {p : Program} {l : Launch} {e : Env} {s : State} {m : MethodId} {args : Array Value} {below : List Frame} {meth : Method} {c : Code} {D : va_G} {cy : Nat → ClassId} {ad : Nat → Nat} {A : Nat → Prop} {z : (Unit × tmM)} {K0 : Int32 → Int32 → tmM → Option (Unit × tmM)} {L : Int32 → Int32 → Int32 → tmM → Option (Unit × tmM)} (C0 : tmC p s m args meth c cX8_keepsWrite 4 none RX8 TMW tm_NWR D cy tm_shR ad 13 [] A) (hK0 : ∀ (a1 a2 : Int32) (w : tmM), tmG p l e ({ frames := 3, cells := 0, slots := 0, locals := 67 } : Room) s m args below meth c 0 0 (MQ below (va_Qv (fun u => z = ((), u)) (tmAt tm_shR 13 D cy ad A) A) args s 0 0 A) 4 D cy tm_shR ad 13 [] A z 54 [(0, .ref (ad 0)), (1, .int a1), (2, .int a2)] [] w (K0 a1 a2 w)) (hL : ∀ (a1 a2 a3 : Int32) (w : tmM), tmG p l e ({ frames := 3, cells := 0, slots := 0, locals := 67 } : Room) s m args below meth c 0 0 (MQ below (va_Qv (fun u => z = ((), u)) (tmAt tm_shR 13 D cy ad A) A) args s 0 0 A) 4 D cy tm_shR ad 13 [] A z 27 [(0, .ref (ad 0)), (1, .int a1), (2, .int a2), (3, .int a3)] [] w (L a1 a2 a3 w)) (x1 x2 x3 : Int32) (v : tmM) : tmG p l e ({ frames := 3, cells := 0, slots := 0, locals := 67 } : Room) s m args below meth c 0 0 (MQ below (va_Qv (fun u => z = ((), u)) (tmAt tm_shR 13 D cy ad A) A) args s 0 0 A) 4 D cy tm_shR ad 13 [] A z 27 [(0, .ref (ad 0)), (1, .int x1), (2, .int x2), (3, .int x3)] [] v (f_X8_keepsWrite_27b K0 L x1 x2 x3 v) := by
  unfold f_X8_keepsWrite_27b
  refine tg_iload_n 3 C0 dX8_keepsWrite_27 rfl rfl ?_
  refine tg_sipush (x := 368) C0 dX8_keepsWrite_28 (by decide) ?_
  refine tg_icmp_ge 54 C0 dX8_keepsWrite_31 (by decide) (fun _ => ?_) (fun _ => ?_)
  · refine tg_sub [0, 1, 2] rfl ?_
    exact hK0 x1 x2 v
  · refine tg_aload_n 0 C0 dX8_keepsWrite_34 rfl rfl ?_
    refine tg_get 0 1 C0 dX8_keepsWrite_35 (by decide) rfl rfl tu_X8 (by decide) tf_X8_7 rfl rfl rfl ?_
    refine tg_iload_n 3 C0 dX8_keepsWrite_38 rfl rfl ?_
    refine tg_aload_n 0 C0 dX8_keepsWrite_39 rfl rfl ?_
    refine tg_get 0 1 C0 dX8_keepsWrite_40 (by decide) rfl rfl tu_X8 (by decide) tf_X8_7 rfl rfl rfl ?_
    refine tg_iload_n 3 C0 dX8_keepsWrite_43 rfl rfl ?_
    refine tg_iconst (x := 3) C0 dX8_keepsWrite_44 (by decide) ?_
    refine tg_iadd C0 dX8_keepsWrite_45 ?_
    refine tg_iald 1 C0 dX8_keepsWrite_46 (by decide) rfl (fun _ => ?_)
    refine tg_iast 1 C0 dX8_keepsWrite_47 (by decide) rfl (fun _ => ?_)
    refine tg_letm (fun v9 _ => ?_)
    refine tg_iinc [(3, .int (x3 + 1)), (0, .ref (ad 0)), (1, .int x1), (2, .int x2)] 3 C0 dX8_keepsWrite_48 rfl rfl (by decide) rfl ?_
    refine tg_goto 27 C0 dX8_keepsWrite_51 (by decide) ?_
    refine tg_sub [1, 2, 3, 0] rfl ?_
    exact hL x1 x2 (x3 + 1) v9
def f_X8_keepsWrite_27 (K0 : Int32 → Int32 → tmM → Option (Unit × tmM)) : Nat → Int32 → Int32 → Int32 → tmM → Option (Unit × tmM)
  | 0 => fun _ _ _ _ => none
  | n + 1 => f_X8_keepsWrite_27b K0 (f_X8_keepsWrite_27 K0 n)
theorem w_X8_keepsWrite_27 {p : Program} {l : Launch} {e : Env} {s : State} {m : MethodId} {args : Array Value} {below : List Frame} {meth : Method} {c : Code} {D : va_G} {cy : Nat → ClassId} {ad : Nat → Nat} {A : Nat → Prop} {z : (Unit × tmM)} {K0 : Int32 → Int32 → tmM → Option (Unit × tmM)} (C0 : tmC p s m args meth c cX8_keepsWrite 4 none RX8 TMW tm_NWR D cy tm_shR ad 13 [] A) (hK0 : ∀ (a1 a2 : Int32) (w : tmM), tmG p l e ({ frames := 3, cells := 0, slots := 0, locals := 67 } : Room) s m args below meth c 0 0 (MQ below (va_Qv (fun u => z = ((), u)) (tmAt tm_shR 13 D cy ad A) A) args s 0 0 A) 4 D cy tm_shR ad 13 [] A z 54 [(0, .ref (ad 0)), (1, .int a1), (2, .int a2)] [] w (K0 a1 a2 w)) (nn : Nat) : ∀ (x1 x2 x3 : Int32) (v : tmM), tmG p l e ({ frames := 3, cells := 0, slots := 0, locals := 67 } : Room) s m args below meth c 0 0 (MQ below (va_Qv (fun u => z = ((), u)) (tmAt tm_shR 13 D cy ad A) A) args s 0 0 A) 4 D cy tm_shR ad 13 [] A z 27 [(0, .ref (ad 0)), (1, .int x1), (2, .int x2), (3, .int x3)] [] v (f_X8_keepsWrite_27 K0 nn x1 x2 x3 v) := by
  induction nn with
  | zero => intro _ _ _ _; exact tg_none
  | succ n ih => intro x1 x2 x3 v; exact w_X8_keepsWrite_27b C0 hK0 ih x1 x2 x3 v
def f_X8_keepsWrite (x1 x2 : Int32) (v : tmM) : Option (Unit × tmM) := tm_g (tm_ix 8 491) (tm_g (tm_ix 8 491) (tm_lt (tm_up v 1 (8 : Int32).toNatClampNeg ((v 1 (8 : Int32).toNatClampNeg) + 1)) fun v1 => tm_g (tm_ix 9 491) ((if (v1 1 (9 : Int32).toNatClampNeg) = 20 then f_X8_keepsWrite_27 (fun x10 x11 v12 => tm_g (tm_ix 9 491) (tm_g (tm_ix 9 491) (tm_lt (tm_up v12 1 (9 : Int32).toNatClampNeg ((v12 1 (9 : Int32).toNatClampNeg) - 1)) fun v13 => f_X8_keepsWrite_65 x10 x11 v13))) 10000 x1 x2 311 v1 else f_X8_keepsWrite_65 x1 x2 v1))))
set_option maxRecDepth 100000 in
set_option maxHeartbeats 4000000 in
theorem w_X8_keepsWrite {p : Program} {l : Launch} {e : Env} {s : State} {m : MethodId} {args : Array Value} {below : List Frame} {meth : Method} {c : Code} {D : va_G} {cy : Nat → ClassId} {ad : Nat → Nat} {A : Nat → Prop} {z : (Unit × tmM)} (C0 : tmC p s m args meth c cX8_keepsWrite 4 none RX8 TMW tm_NWR D cy tm_shR ad 13 [] A) (x1 x2 : Int32) (v : tmM) : tmG p l e ({ frames := 3, cells := 0, slots := 0, locals := 67 } : Room) s m args below meth c 0 0 (MQ below (va_Qv (fun u => z = ((), u)) (tmAt tm_shR 13 D cy ad A) A) args s 0 0 A) 4 D cy tm_shR ad 13 [] A z 0 [(0, .ref (ad 0)), (1, .int x1), (2, .int x2)] [] v (f_X8_keepsWrite x1 x2 v) := by
  unfold f_X8_keepsWrite
  refine tg_aload_n 0 C0 dX8_keepsWrite_0 rfl rfl ?_
  refine tg_get 0 1 C0 dX8_keepsWrite_1 (by decide) rfl rfl tu_X8 (by decide) tf_X8_7 rfl rfl rfl ?_
  refine tg_bipush (x := 8) C0 dX8_keepsWrite_4 (by decide) ?_
  refine tg_dup2 C0 dX8_keepsWrite_6 ⟨rfl, rfl⟩ ?_
  refine tg_iald 1 C0 dX8_keepsWrite_7 (by decide) rfl (fun _ => ?_)
  refine tg_iconst (x := 1) C0 dX8_keepsWrite_8 (by decide) ?_
  refine tg_iadd C0 dX8_keepsWrite_9 ?_
  refine tg_iast 1 C0 dX8_keepsWrite_10 (by decide) rfl (fun _ => ?_)
  refine tg_letm (fun v1 _ => ?_)
  refine tg_aload_n 0 C0 dX8_keepsWrite_11 rfl rfl ?_
  refine tg_get 0 1 C0 dX8_keepsWrite_12 (by decide) rfl rfl tu_X8 (by decide) tf_X8_7 rfl rfl rfl ?_
  refine tg_bipush (x := 9) C0 dX8_keepsWrite_15 (by decide) ?_
  refine tg_iald 1 C0 dX8_keepsWrite_17 (by decide) rfl (fun _ => ?_)
  refine tg_bipush (x := 20) C0 dX8_keepsWrite_18 (by decide) ?_
  refine tg_icmp_ne 65 C0 dX8_keepsWrite_20 (by decide) (fun _ => ?_) (fun _ => ?_)
  · exact w_X8_keepsWrite_65 C0 x1 x2 v1
  · refine tg_sipush (x := 311) C0 dX8_keepsWrite_23 (by decide) ?_
    refine tg_istore_n [(3, .int 311), (0, .ref (ad 0)), (1, .int x1), (2, .int x2)] C0 dX8_keepsWrite_26 rfl (by decide) rfl ?_
    refine tg_sub [1, 2, 3, 0] rfl ?_
    refine w_X8_keepsWrite_27 C0 (fun x10 x11 v12 => ?_) 10000 x1 x2 311 v1
    refine tg_aload_n 0 C0 dX8_keepsWrite_54 rfl rfl ?_
    refine tg_get 0 1 C0 dX8_keepsWrite_55 (by decide) rfl rfl tu_X8 (by decide) tf_X8_7 rfl rfl rfl ?_
    refine tg_bipush (x := 9) C0 dX8_keepsWrite_58 (by decide) ?_
    refine tg_dup2 C0 dX8_keepsWrite_60 ⟨rfl, rfl⟩ ?_
    refine tg_iald 1 C0 dX8_keepsWrite_61 (by decide) rfl (fun _ => ?_)
    refine tg_iconst (x := 1) C0 dX8_keepsWrite_62 (by decide) ?_
    refine tg_isub C0 dX8_keepsWrite_63 ?_
    refine tg_iast 1 C0 dX8_keepsWrite_64 (by decide) rfl (fun _ => ?_)
    refine tg_letm (fun v13 _ => ?_)
    exact w_X8_keepsWrite_65 C0 x10 x11 v13
theorem c_X8_keepsWrite (l : Launch) (x1 x2 : Int32) (v : tmM) : tmMv tm_NWR tm_shR 13 l yX8_keepsWrite (Cond.code yX8_keepsWrite cX8_keepsWrite 4 none :: TMW) ({ frames := 3, cells := 0, slots := 0, locals := 67 } : Room) (fun ad => [.ref (ad 0), .int x1, .int x2]) v (f_X8_keepsWrite x1 x2 v) :=
  tmMv.of (cc := cX8_keepsWrite) (nL := 4) (by decide +kernel) rfl tm_NWR_ok (fun _ => Nat.le_of_ble_eq_true rfl) (fun p e s m args below meth c A D cy ad z C0 => w_X8_keepsWrite C0 x1 x2 v)
-- ----- X8_writesRow
theorem dX8_writesRow_0 : decode cX8_writesRow 0 = .ok (.aload_n 0, 1) := by decide +kernel
theorem dX8_writesRow_1 : decode cX8_writesRow 1 = .ok (.getfield 7, 3) := by decide +kernel
theorem dX8_writesRow_4 : decode cX8_writesRow 4 = .ok (.sipush 431, 3) := by decide +kernel
theorem dX8_writesRow_7 : decode cX8_writesRow 7 = .ok (.iload_n 1, 1) := by decide +kernel
theorem dX8_writesRow_8 : decode cX8_writesRow 8 = .ok (.iadd, 1) := by decide +kernel
theorem dX8_writesRow_9 : decode cX8_writesRow 9 = .ok (.dup2, 1) := by decide +kernel
theorem dX8_writesRow_10 : decode cX8_writesRow 10 = .ok (.iaload, 1) := by decide +kernel
theorem dX8_writesRow_11 : decode cX8_writesRow 11 = .ok (.iconst 1, 1) := by decide +kernel
theorem dX8_writesRow_12 : decode cX8_writesRow 12 = .ok (.iadd, 1) := by decide +kernel
theorem dX8_writesRow_13 : decode cX8_writesRow 13 = .ok (.iastore, 1) := by decide +kernel
theorem dX8_writesRow_14 : decode cX8_writesRow 14 = .ok (.aload_n 0, 1) := by decide +kernel
theorem dX8_writesRow_15 : decode cX8_writesRow 15 = .ok (.getfield 7, 3) := by decide +kernel
theorem dX8_writesRow_18 : decode cX8_writesRow 18 = .ok (.iconst 0, 1) := by decide +kernel
theorem dX8_writesRow_19 : decode cX8_writesRow 19 = .ok (.iaload, 1) := by decide +kernel
theorem dX8_writesRow_20 : decode cX8_writesRow 20 = .ok (.iconst 2, 1) := by decide +kernel
theorem dX8_writesRow_21 : decode cX8_writesRow 21 = .ok (.if_icmp .ne 9, 3) := by decide +kernel
theorem dX8_writesRow_24 : decode cX8_writesRow 24 = .ok (.aload_n 0, 1) := by decide +kernel
theorem dX8_writesRow_25 : decode cX8_writesRow 25 = .ok (.iload_n 1, 1) := by decide +kernel
theorem dX8_writesRow_26 : decode cX8_writesRow 26 = .ok (.iload_n 2, 1) := by decide +kernel
theorem dX8_writesRow_27 : decode cX8_writesRow 27 = .ok (.invokevirtual 153, 3) := by decide +kernel
theorem dX8_writesRow_30 : decode cX8_writesRow 30 = .ok (.aload_n 0, 1) := by decide +kernel
theorem dX8_writesRow_31 : decode cX8_writesRow 31 = .ok (.aload_n 0, 1) := by decide +kernel
theorem dX8_writesRow_32 : decode cX8_writesRow 32 = .ok (.invokevirtual 89, 3) := by decide +kernel
theorem dX8_writesRow_35 : decode cX8_writesRow 35 = .ok (.iload_n 1, 1) := by decide +kernel
theorem dX8_writesRow_36 : decode cX8_writesRow 36 = .ok (.iload_n 2, 1) := by decide +kernel
theorem dX8_writesRow_37 : decode cX8_writesRow 37 = .ok (.invokevirtual 93, 3) := by decide +kernel
theorem dX8_writesRow_40 : decode cX8_writesRow 40 = .ok (.aload_n 0, 1) := by decide +kernel
theorem dX8_writesRow_41 : decode cX8_writesRow 41 = .ok (.iconst 0, 1) := by decide +kernel
theorem dX8_writesRow_42 : decode cX8_writesRow 42 = .ok (.iload_n 1, 1) := by decide +kernel
theorem dX8_writesRow_43 : decode cX8_writesRow 43 = .ok (.invokevirtual 85, 3) := by decide +kernel
theorem dX8_writesRow_46 : decode cX8_writesRow 46 = .ok (.aload_n 0, 1) := by decide +kernel
theorem dX8_writesRow_47 : decode cX8_writesRow 47 = .ok (.invokevirtual 140, 3) := by decide +kernel
theorem dX8_writesRow_50 : decode cX8_writesRow 50 = .ok (.ifCond .eq 24, 3) := by decide +kernel
theorem dX8_writesRow_53 : decode cX8_writesRow 53 = .ok (.aload_n 0, 1) := by decide +kernel
theorem dX8_writesRow_54 : decode cX8_writesRow 54 = .ok (.iconst 1, 1) := by decide +kernel
theorem dX8_writesRow_55 : decode cX8_writesRow 55 = .ok (.aload_n 0, 1) := by decide +kernel
theorem dX8_writesRow_56 : decode cX8_writesRow 56 = .ok (.invokevirtual 89, 3) := by decide +kernel
theorem dX8_writesRow_59 : decode cX8_writesRow 59 = .ok (.isub, 1) := by decide +kernel
theorem dX8_writesRow_60 : decode cX8_writesRow 60 = .ok (.invokevirtual 113, 3) := by decide +kernel
theorem dX8_writesRow_63 : decode cX8_writesRow 63 = .ok (.ifCond .eq 11, 3) := by decide +kernel
theorem dX8_writesRow_66 : decode cX8_writesRow 66 = .ok (.aload_n 0, 1) := by decide +kernel
theorem dX8_writesRow_67 : decode cX8_writesRow 67 = .ok (.iload_n 1, 1) := by decide +kernel
theorem dX8_writesRow_68 : decode cX8_writesRow 68 = .ok (.invokevirtual 156, 3) := by decide +kernel
theorem dX8_writesRow_71 : decode cX8_writesRow 71 = .ok (.goto 15, 3) := by decide +kernel
theorem dX8_writesRow_74 : decode cX8_writesRow 74 = .ok (.aload_n 0, 1) := by decide +kernel
theorem dX8_writesRow_75 : decode cX8_writesRow 75 = .ok (.invokevirtual 140, 3) := by decide +kernel
theorem dX8_writesRow_78 : decode cX8_writesRow 78 = .ok (.ifCond .eq 8, 3) := by decide +kernel
theorem dX8_writesRow_81 : decode cX8_writesRow 81 = .ok (.aload_n 0, 1) := by decide +kernel
theorem dX8_writesRow_82 : decode cX8_writesRow 82 = .ok (.iload_n 1, 1) := by decide +kernel
theorem dX8_writesRow_83 : decode cX8_writesRow 83 = .ok (.invokevirtual 159, 3) := by decide +kernel
theorem dX8_writesRow_86 : decode cX8_writesRow 86 = .ok (.return_, 1) := by decide +kernel
theorem tl_X8_159 : Cond.methodLink RX8 159 yX8_becomesStale ∈ TMW := tm_in 1816 (by decide +kernel) (by decide +kernel)
theorem ti_X8_becomesStale : Cond.instanceMethod yX8_becomesStale ∈ TMW := tm_in 1818 (by decide +kernel) (by decide +kernel)
theorem ts_X8_becomesStale : Cond.selects RX8 yX8_becomesStale yX8_becomesStale ∈ TMW := tm_in 63 (by decide +kernel) (by decide +kernel)
theorem tc_X8_becomesStale : Cond.code yX8_becomesStale cX8_becomesStale 2 none ∈ TMW := tm_in 1819 (by decide +kernel) (by decide +kernel)
theorem tl_X8_156 : Cond.methodLink RX8 156 yX8_makesSame ∈ TMW := tm_in 1808 (by decide +kernel) (by decide +kernel)
theorem ti_X8_makesSame : Cond.instanceMethod yX8_makesSame ∈ TMW := tm_in 1810 (by decide +kernel) (by decide +kernel)
theorem ts_X8_makesSame : Cond.selects RX8 yX8_makesSame yX8_makesSame ∈ TMW := tm_in 61 (by decide +kernel) (by decide +kernel)
theorem tc_X8_makesSame : Cond.code yX8_makesSame cX8_makesSame 3 none ∈ TMW := tm_in 1811 (by decide +kernel) (by decide +kernel)
theorem tl_X8_153 : Cond.methodLink RX8 153 yX8_keepsWrite ∈ TMW := tm_in 1792 (by decide +kernel) (by decide +kernel)
theorem ti_X8_keepsWrite : Cond.instanceMethod yX8_keepsWrite ∈ TMW := tm_in 1794 (by decide +kernel) (by decide +kernel)
theorem ts_X8_keepsWrite : Cond.selects RX8 yX8_keepsWrite yX8_keepsWrite ∈ TMW := tm_in 57 (by decide +kernel) (by decide +kernel)
theorem tc_X8_keepsWrite : Cond.code yX8_keepsWrite cX8_keepsWrite 4 none ∈ TMW := tm_in 1795 (by decide +kernel) (by decide +kernel)
def f_X8_writesRow_74 (x1 : Int32) (v : tmM) : Option (Unit × tmM) := tm_cl (f_X8_isBoth v) fun r11 v10 => (if r11 = 0 then some ((), v10) else tm_cl (f_X8_becomesStale x1 v10) fun _ v12 => some ((), v12))
set_option maxRecDepth 100000 in
set_option maxHeartbeats 4000000 in
theorem w_X8_writesRow_74 {p : Program} {l : Launch} {e : Env} {s : State} {m : MethodId} {args : Array Value} {below : List Frame} {meth : Method} {c : Code} {D : va_G} {cy : Nat → ClassId} {ad : Nat → Nat} {A : Nat → Prop} {z : (Unit × tmM)} (C0 : tmC p s m args meth c cX8_writesRow 3 none RX8 TMW tm_NWR D cy tm_shR ad 13 [] A) (x1 : Int32) (v : tmM) : tmG p l e ({ frames := 4, cells := 0, slots := 0, locals := 90 } : Room) s m args below meth c 0 0 (MQ below (va_Qv (fun u => z = ((), u)) (tmAt tm_shR 13 D cy ad A) A) args s 0 0 A) 3 D cy tm_shR ad 13 [] A z 74 [(0, .ref (ad 0)), (1, .int x1)] [] v (f_X8_writesRow_74 x1 v) := by
  unfold f_X8_writesRow_74
  refine tg_aload_n 0 C0 dX8_writesRow_74 rfl rfl ?_
  refine tg_callVi (As := []) 0 0 C0 dX8_writesRow_75 (c_X8_isBoth l v) rfl rfl (by decide) rfl rfl (tm_gV tl_X8_140 ti_X8_isBoth ts_X8_isBoth tn_X8 tc_X8_isBoth)  rfl rfl rfl rfl (by decide +kernel) ⟨by decide, by decide⟩ (Nat.le_of_ble_eq_true rfl) ⟨by decide, by decide⟩ (fun r11 v10 _ => ?_)
  refine tg_if_eq 86 C0 dX8_writesRow_78 (by decide) (fun _ => ?_) (fun _ => ?_)
  · exact tg_vret C0 dX8_writesRow_86
  · refine tg_aload_n 0 C0 dX8_writesRow_81 rfl rfl ?_
    refine tg_iload_n 1 C0 dX8_writesRow_82 rfl rfl ?_
    refine tg_callVv (As := [.int x1]) 0 1 C0 dX8_writesRow_83 (c_X8_becomesStale l x1 v10) rfl rfl (by decide) rfl rfl (tm_gV tl_X8_159 ti_X8_becomesStale ts_X8_becomesStale tn_X8 tc_X8_becomesStale)  rfl rfl rfl rfl (by decide +kernel) ⟨by decide, by decide⟩ (Nat.le_of_ble_eq_true rfl) ⟨by decide, by decide⟩ (fun v12 _ => ?_)
    exact tg_vret C0 dX8_writesRow_86
def f_X8_writesRow_30 (x1 x2 : Int32) (v : tmM) : Option (Unit × tmM) := tm_cl (f_X8_leads v) fun r3 v2 => tm_cl (f_X8_lays r3 x1 x2 v2) fun _ v4 => tm_cl (f_X8_notes 0 x1 v4) fun _ v6 => tm_cl (f_X8_isBoth v6) fun r9 v8 => (if r9 = 0 then f_X8_writesRow_74 x1 v8 else tm_cl (f_X8_leads v8) fun r15 v14 => tm_cl (f_X8_isUp (1 - r15) v14) fun r17 v16 => (if r17 = 0 then f_X8_writesRow_74 x1 v16 else tm_cl (f_X8_makesSame x1 v16) fun _ v18 => some ((), v18)))
set_option maxRecDepth 100000 in
set_option maxHeartbeats 4000000 in
theorem w_X8_writesRow_30 {p : Program} {l : Launch} {e : Env} {s : State} {m : MethodId} {args : Array Value} {below : List Frame} {meth : Method} {c : Code} {D : va_G} {cy : Nat → ClassId} {ad : Nat → Nat} {A : Nat → Prop} {z : (Unit × tmM)} (C0 : tmC p s m args meth c cX8_writesRow 3 none RX8 TMW tm_NWR D cy tm_shR ad 13 [] A) (x1 x2 : Int32) (v : tmM) : tmG p l e ({ frames := 4, cells := 0, slots := 0, locals := 90 } : Room) s m args below meth c 0 0 (MQ below (va_Qv (fun u => z = ((), u)) (tmAt tm_shR 13 D cy ad A) A) args s 0 0 A) 3 D cy tm_shR ad 13 [] A z 30 [(0, .ref (ad 0)), (1, .int x1), (2, .int x2)] [] v (f_X8_writesRow_30 x1 x2 v) := by
  unfold f_X8_writesRow_30
  refine tg_aload_n 0 C0 dX8_writesRow_30 rfl rfl ?_
  refine tg_aload_n 0 C0 dX8_writesRow_31 rfl rfl ?_
  refine tg_callVi (As := []) 0 0 C0 dX8_writesRow_32 (c_X8_leads l v) rfl rfl (by decide) rfl rfl (tm_gV tl_X8_89 ti_X8_leads ts_X8_leads tn_X8 tc_X8_leads)  rfl rfl rfl rfl (by decide +kernel) ⟨by decide, by decide⟩ (Nat.le_of_ble_eq_true rfl) ⟨by decide, by decide⟩ (fun r3 v2 _ => ?_)
  refine tg_iload_n 1 C0 dX8_writesRow_35 rfl rfl ?_
  refine tg_iload_n 2 C0 dX8_writesRow_36 rfl rfl ?_
  refine tg_callVv (As := [.int r3, .int x1, .int x2]) 0 3 C0 dX8_writesRow_37 (c_X8_lays l r3 x1 x2 v2) rfl rfl (by decide) rfl rfl (tm_gV tl_X8_93 ti_X8_lays ts_X8_lays tn_X8 tc_X8_lays)  rfl rfl rfl rfl (by decide +kernel) ⟨by decide, by decide⟩ (Nat.le_of_ble_eq_true rfl) ⟨by decide, by decide⟩ (fun v4 _ => ?_)
  refine tg_aload_n 0 C0 dX8_writesRow_40 rfl rfl ?_
  refine tg_iconst (x := 0) C0 dX8_writesRow_41 (by decide) ?_
  refine tg_iload_n 1 C0 dX8_writesRow_42 rfl rfl ?_
  refine tg_callVv (As := [.int 0, .int x1]) 0 2 C0 dX8_writesRow_43 (c_X8_notes l 0 x1 v4) rfl rfl (by decide) rfl rfl (tm_gV tl_X8_85 ti_X8_notes ts_X8_notes tn_X8 tc_X8_notes)  rfl rfl rfl rfl (by decide +kernel) ⟨by decide, by decide⟩ (Nat.le_of_ble_eq_true rfl) ⟨by decide, by decide⟩ (fun v6 _ => ?_)
  refine tg_aload_n 0 C0 dX8_writesRow_46 rfl rfl ?_
  refine tg_callVi (As := []) 0 0 C0 dX8_writesRow_47 (c_X8_isBoth l v6) rfl rfl (by decide) rfl rfl (tm_gV tl_X8_140 ti_X8_isBoth ts_X8_isBoth tn_X8 tc_X8_isBoth)  rfl rfl rfl rfl (by decide +kernel) ⟨by decide, by decide⟩ (Nat.le_of_ble_eq_true rfl) ⟨by decide, by decide⟩ (fun r9 v8 _ => ?_)
  refine tg_if_eq 74 C0 dX8_writesRow_50 (by decide) (fun _ => ?_) (fun _ => ?_)
  · refine tg_sub [0, 1] rfl ?_
    exact w_X8_writesRow_74 C0 x1 v8
  · refine tg_aload_n 0 C0 dX8_writesRow_53 rfl rfl ?_
    refine tg_iconst (x := 1) C0 dX8_writesRow_54 (by decide) ?_
    refine tg_aload_n 0 C0 dX8_writesRow_55 rfl rfl ?_
    refine tg_callVi (As := []) 0 0 C0 dX8_writesRow_56 (c_X8_leads l v8) rfl rfl (by decide) rfl rfl (tm_gV tl_X8_89 ti_X8_leads ts_X8_leads tn_X8 tc_X8_leads)  rfl rfl rfl rfl (by decide +kernel) ⟨by decide, by decide⟩ (Nat.le_of_ble_eq_true rfl) ⟨by decide, by decide⟩ (fun r15 v14 _ => ?_)
    refine tg_isub C0 dX8_writesRow_59 ?_
    refine tg_callVi (As := [.int (1 - r15)]) 0 1 C0 dX8_writesRow_60 (c_X8_isUp l (1 - r15) v14) rfl rfl (by decide) rfl rfl (tm_gV tl_X8_113 ti_X8_isUp ts_X8_isUp tn_X8 tc_X8_isUp)  rfl rfl rfl rfl (by decide +kernel) ⟨by decide, by decide⟩ (Nat.le_of_ble_eq_true rfl) ⟨by decide, by decide⟩ (fun r17 v16 _ => ?_)
    refine tg_if_eq 74 C0 dX8_writesRow_63 (by decide) (fun _ => ?_) (fun _ => ?_)
    · refine tg_sub [0, 1] rfl ?_
      exact w_X8_writesRow_74 C0 x1 v16
    · refine tg_aload_n 0 C0 dX8_writesRow_66 rfl rfl ?_
      refine tg_iload_n 1 C0 dX8_writesRow_67 rfl rfl ?_
      refine tg_callVv (As := [.int x1]) 0 1 C0 dX8_writesRow_68 (c_X8_makesSame l x1 v16) rfl rfl (by decide) rfl rfl (tm_gV tl_X8_156 ti_X8_makesSame ts_X8_makesSame tn_X8 tc_X8_makesSame)  rfl rfl rfl rfl (by decide +kernel) ⟨by decide, by decide⟩ (Nat.le_of_ble_eq_true rfl) ⟨by decide, by decide⟩ (fun v18 _ => ?_)
      refine tg_goto 86 C0 dX8_writesRow_71 (by decide) ?_
      exact tg_vret C0 dX8_writesRow_86
def f_X8_writesRow (x1 x2 : Int32) (v : tmM) : Option (Unit × tmM) := tm_g (tm_ix (431 + x1) 491) (tm_g (tm_ix (431 + x1) 491) (tm_lt (tm_up v 1 (431 + x1).toNatClampNeg ((v 1 (431 + x1).toNatClampNeg) + 1)) fun v1 => tm_g (tm_ix 0 491) ((if (v1 1 (0 : Int32).toNatClampNeg) = 2 then tm_cl (f_X8_keepsWrite x1 x2 v1) fun _ v20 => f_X8_writesRow_30 x1 x2 v20 else f_X8_writesRow_30 x1 x2 v1))))
set_option maxRecDepth 100000 in
set_option maxHeartbeats 4000000 in
theorem w_X8_writesRow {p : Program} {l : Launch} {e : Env} {s : State} {m : MethodId} {args : Array Value} {below : List Frame} {meth : Method} {c : Code} {D : va_G} {cy : Nat → ClassId} {ad : Nat → Nat} {A : Nat → Prop} {z : (Unit × tmM)} (C0 : tmC p s m args meth c cX8_writesRow 3 none RX8 TMW tm_NWR D cy tm_shR ad 13 [] A) (x1 x2 : Int32) (v : tmM) : tmG p l e ({ frames := 4, cells := 0, slots := 0, locals := 90 } : Room) s m args below meth c 0 0 (MQ below (va_Qv (fun u => z = ((), u)) (tmAt tm_shR 13 D cy ad A) A) args s 0 0 A) 3 D cy tm_shR ad 13 [] A z 0 [(0, .ref (ad 0)), (1, .int x1), (2, .int x2)] [] v (f_X8_writesRow x1 x2 v) := by
  unfold f_X8_writesRow
  refine tg_aload_n 0 C0 dX8_writesRow_0 rfl rfl ?_
  refine tg_get 0 1 C0 dX8_writesRow_1 (by decide) rfl rfl tu_X8 (by decide) tf_X8_7 rfl rfl rfl ?_
  refine tg_sipush (x := 431) C0 dX8_writesRow_4 (by decide) ?_
  refine tg_iload_n 1 C0 dX8_writesRow_7 rfl rfl ?_
  refine tg_iadd C0 dX8_writesRow_8 ?_
  refine tg_dup2 C0 dX8_writesRow_9 ⟨rfl, rfl⟩ ?_
  refine tg_iald 1 C0 dX8_writesRow_10 (by decide) rfl (fun _ => ?_)
  refine tg_iconst (x := 1) C0 dX8_writesRow_11 (by decide) ?_
  refine tg_iadd C0 dX8_writesRow_12 ?_
  refine tg_iast 1 C0 dX8_writesRow_13 (by decide) rfl (fun _ => ?_)
  refine tg_letm (fun v1 _ => ?_)
  refine tg_aload_n 0 C0 dX8_writesRow_14 rfl rfl ?_
  refine tg_get 0 1 C0 dX8_writesRow_15 (by decide) rfl rfl tu_X8 (by decide) tf_X8_7 rfl rfl rfl ?_
  refine tg_iconst (x := 0) C0 dX8_writesRow_18 (by decide) ?_
  refine tg_iald 1 C0 dX8_writesRow_19 (by decide) rfl (fun _ => ?_)
  refine tg_iconst (x := 2) C0 dX8_writesRow_20 (by decide) ?_
  refine tg_icmp_ne 30 C0 dX8_writesRow_21 (by decide) (fun _ => ?_) (fun _ => ?_)
  · exact w_X8_writesRow_30 C0 x1 x2 v1
  · refine tg_aload_n 0 C0 dX8_writesRow_24 rfl rfl ?_
    refine tg_iload_n 1 C0 dX8_writesRow_25 rfl rfl ?_
    refine tg_iload_n 2 C0 dX8_writesRow_26 rfl rfl ?_
    refine tg_callVv (As := [.int x1, .int x2]) 0 2 C0 dX8_writesRow_27 (c_X8_keepsWrite l x1 x2 v1) rfl rfl (by decide) rfl rfl (tm_gV tl_X8_153 ti_X8_keepsWrite ts_X8_keepsWrite tn_X8 tc_X8_keepsWrite)  rfl rfl rfl rfl (by decide +kernel) ⟨by decide, by decide⟩ (Nat.le_of_ble_eq_true rfl) ⟨by decide, by decide⟩ (fun v20 _ => ?_)
    exact w_X8_writesRow_30 C0 x1 x2 v20
theorem c_X8_writesRow (l : Launch) (x1 x2 : Int32) (v : tmM) : tmMv tm_NWR tm_shR 13 l yX8_writesRow (Cond.code yX8_writesRow cX8_writesRow 3 none :: TMW) ({ frames := 4, cells := 0, slots := 0, locals := 90 } : Room) (fun ad => [.ref (ad 0), .int x1, .int x2]) v (f_X8_writesRow x1 x2 v) :=
  tmMv.of (cc := cX8_writesRow) (nL := 3) (by decide +kernel) rfl tm_NWR_ok (fun _ => Nat.le_of_ble_eq_true rfl) (fun p e s m args below meth c A D cy ad z C0 => w_X8_writesRow C0 x1 x2 v)
-- ----- X8_writes
theorem dX8_writes_0 : decode cX8_writes 0 = .ok (.aload_n 0, 1) := by decide +kernel
theorem dX8_writes_1 : decode cX8_writes 1 = .ok (.invokevirtual 147, 3) := by decide +kernel
theorem dX8_writes_4 : decode cX8_writes 4 = .ok (.istore_n 3, 1) := by decide +kernel
theorem dX8_writes_5 : decode cX8_writes 5 = .ok (.aload_n 0, 1) := by decide +kernel
theorem dX8_writes_6 : decode cX8_writes 6 = .ok (.iload_n 1, 1) := by decide +kernel
theorem dX8_writes_7 : decode cX8_writes 7 = .ok (.iload_n 2, 1) := by decide +kernel
theorem dX8_writes_8 : decode cX8_writes 8 = .ok (.invokevirtual 150, 3) := by decide +kernel
theorem dX8_writes_11 : decode cX8_writes 11 = .ok (.iload_n 3, 1) := by decide +kernel
theorem dX8_writes_12 : decode cX8_writes 12 = .ok (.ireturn, 1) := by decide +kernel
theorem tl_X8_147 : Cond.methodLink RX8 147 yX8_does ∈ TMW := tm_in 1784 (by decide +kernel) (by decide +kernel)
theorem ti_X8_does : Cond.instanceMethod yX8_does ∈ TMW := tm_in 1786 (by decide +kernel) (by decide +kernel)
theorem ts_X8_does : Cond.selects RX8 yX8_does yX8_does ∈ TMW := tm_in 55 (by decide +kernel) (by decide +kernel)
theorem tc_X8_does : Cond.code yX8_does cX8_does 1 (some .int) ∈ TMW := tm_in 1787 (by decide +kernel) (by decide +kernel)
theorem tl_X8_150 : Cond.methodLink RX8 150 yX8_writesRow ∈ TMW := tm_in 1788 (by decide +kernel) (by decide +kernel)
theorem ti_X8_writesRow : Cond.instanceMethod yX8_writesRow ∈ TMW := tm_in 1790 (by decide +kernel) (by decide +kernel)
theorem ts_X8_writesRow : Cond.selects RX8 yX8_writesRow yX8_writesRow ∈ TMW := tm_in 56 (by decide +kernel) (by decide +kernel)
theorem tc_X8_writesRow : Cond.code yX8_writesRow cX8_writesRow 3 none ∈ TMW := tm_in 1791 (by decide +kernel) (by decide +kernel)
def f_X8_writes (x1 x2 : Int32) (v : tmM) : Option (Int32 × tmM) := tm_cl (f_X8_does v) fun r2 v1 => tm_cl (f_X8_writesRow x1 x2 v1) fun _ v3 => some (r2, v3)
set_option maxRecDepth 100000 in
set_option maxHeartbeats 4000000 in
theorem w_X8_writes {p : Program} {l : Launch} {e : Env} {s : State} {m : MethodId} {args : Array Value} {below : List Frame} {meth : Method} {c : Code} {D : va_G} {cy : Nat → ClassId} {ad : Nat → Nat} {A : Nat → Prop} {z : (Int32 × tmM)} (C0 : tmC p s m args meth c cX8_writes 4 (some .int) RX8 TMW tm_NWR D cy tm_shR ad 13 [] A) (x1 x2 : Int32) (v : tmM) : tmG p l e ({ frames := 5, cells := 0, slots := 0, locals := 112 } : Room) s m args below meth c 0 0 (MQ below (va_Qi (fun r u => z = (r, u)) (tmAt tm_shR 13 D cy ad A) A) args s 0 0 A) 4 D cy tm_shR ad 13 [] A z 0 [(0, .ref (ad 0)), (1, .int x1), (2, .int x2)] [] v (f_X8_writes x1 x2 v) := by
  unfold f_X8_writes
  refine tg_aload_n 0 C0 dX8_writes_0 rfl rfl ?_
  refine tg_callVi (As := []) 0 0 C0 dX8_writes_1 (c_X8_does l v) rfl rfl (by decide) rfl rfl (tm_gV tl_X8_147 ti_X8_does ts_X8_does tn_X8 tc_X8_does)  rfl rfl rfl rfl (by decide +kernel) ⟨by decide, by decide⟩ (Nat.le_of_ble_eq_true rfl) ⟨by decide, by decide⟩ (fun r2 v1 _ => ?_)
  refine tg_istore_n [(3, .int r2), (0, .ref (ad 0)), (1, .int x1), (2, .int x2)] C0 dX8_writes_4 rfl (by decide) rfl ?_
  refine tg_aload_n 1 C0 dX8_writes_5 rfl rfl ?_
  refine tg_iload_n 2 C0 dX8_writes_6 rfl rfl ?_
  refine tg_iload_n 3 C0 dX8_writes_7 rfl rfl ?_
  refine tg_callVv (As := [.int x1, .int x2]) 0 2 C0 dX8_writes_8 (c_X8_writesRow l x1 x2 v1) rfl rfl (by decide) rfl rfl (tm_gV tl_X8_150 ti_X8_writesRow ts_X8_writesRow tn_X8 tc_X8_writesRow)  rfl rfl rfl rfl (by decide +kernel) ⟨by decide, by decide⟩ (Nat.le_of_ble_eq_true rfl) ⟨by decide, by decide⟩ (fun v3 _ => ?_)
  refine tg_iload_n 0 C0 dX8_writes_11 rfl rfl ?_
  exact tg_iret C0 dX8_writes_12
theorem c_X8_writes (l : Launch) (x1 x2 : Int32) (v : tmM) : tmMi tm_NWR tm_shR 13 l yX8_writes (Cond.code yX8_writes cX8_writes 4 (some .int) :: TMW) ({ frames := 5, cells := 0, slots := 0, locals := 112 } : Room) (fun ad => [.ref (ad 0), .int x1, .int x2]) v (f_X8_writes x1 x2 v) :=
  tmMi.of (cc := cX8_writes) (nL := 4) (by decide +kernel) rfl tm_NWR_ok (fun _ => Nat.le_of_ble_eq_true rfl) (fun p e s m args below meth c A D cy ad z C0 => w_X8_writes C0 x1 x2 v)
-- ----- X8_isRange
theorem dX8_isRange_0 : decode cX8_isRange 0 = .ok (.iload_n 0, 1) := by decide +kernel
theorem dX8_isRange_1 : decode cX8_isRange 1 = .ok (.invokestatic 116, 3) := by decide +kernel
theorem dX8_isRange_4 : decode cX8_isRange 4 = .ok (.ifCond .eq 19, 3) := by decide +kernel
theorem dX8_isRange_7 : decode cX8_isRange 7 = .ok (.iload_n 1, 1) := by decide +kernel
theorem dX8_isRange_8 : decode cX8_isRange 8 = .ok (.invokestatic 116, 3) := by decide +kernel
theorem dX8_isRange_11 : decode cX8_isRange 11 = .ok (.ifCond .eq 12, 3) := by decide +kernel
theorem dX8_isRange_14 : decode cX8_isRange 14 = .ok (.iload_n 0, 1) := by decide +kernel
theorem dX8_isRange_15 : decode cX8_isRange 15 = .ok (.iload_n 1, 1) := by decide +kernel
theorem dX8_isRange_16 : decode cX8_isRange 16 = .ok (.if_icmp .gt 7, 3) := by decide +kernel
theorem dX8_isRange_19 : decode cX8_isRange 19 = .ok (.iconst 1, 1) := by decide +kernel
theorem dX8_isRange_20 : decode cX8_isRange 20 = .ok (.goto 4, 3) := by decide +kernel
theorem dX8_isRange_23 : decode cX8_isRange 23 = .ok (.iconst 0, 1) := by decide +kernel
theorem dX8_isRange_24 : decode cX8_isRange 24 = .ok (.ireturn, 1) := by decide +kernel
def f_X8_isRange (x0 x1 : Int32) (v : tmM) : Option (Int32 × tmM) := tm_cl (f_X8_isKey x0 v) fun r2 v1 => (if r2 = 0 then some (0, v1) else tm_cl (f_X8_isKey x1 v1) fun r4 v3 => (if r4 = 0 then some (0, v3) else (if x1 < x0 then some (0, v3) else some (1, v3))))
set_option maxRecDepth 100000 in
set_option maxHeartbeats 4000000 in
theorem w_X8_isRange {p : Program} {l : Launch} {e : Env} {s : State} {m : MethodId} {args : Array Value} {below : List Frame} {meth : Method} {c : Code} {D : va_G} {cy : Nat → ClassId} {ad : Nat → Nat} {A : Nat → Prop} {z : (Int32 × tmM)} (C0 : tmC p s m args meth c cX8_isRange 2 (some .boolean) RX8 TMW tm_NWR D cy tm_shR ad 13 [] A) (x0 x1 : Int32) (v : tmM) : tmG p l e ({ frames := 2, cells := 0, slots := 0, locals := 42 } : Room) s m args below meth c 0 0 (MQ below (va_Qi (fun r u => z = (r, u)) (tmAt tm_shR 13 D cy ad A) A) args s 0 0 A) 2 D cy tm_shR ad 13 [] A z 0 [(0, .int x0), (1, .int x1)] [] v (f_X8_isRange x0 x1 v) := by
  unfold f_X8_isRange
  refine tg_iload_n 0 C0 dX8_isRange_0 rfl rfl ?_
  refine tg_callSi (As := [.int x0]) 1 C0 dX8_isRange_1 (c_X8_isKey l x0 v) rfl rfl (tm_gc tc_X8_isKey) tl_X8_116 tn_X8 tst_X8_isKey  rfl rfl rfl rfl (by decide +kernel) ⟨by decide, by decide⟩ (Nat.le_of_ble_eq_true rfl) ⟨by decide, by decide⟩ (fun r2 v1 _ => ?_)
  refine tg_if_eq 23 C0 dX8_isRange_4 (by decide) (fun _ => ?_) (fun _ => ?_)
  · refine tg_iconst (x := 0) C0 dX8_isRange_23 (by decide) ?_
    exact tg_zret C0 dX8_isRange_24 rfl
  · refine tg_iload_n 1 C0 dX8_isRange_7 rfl rfl ?_
    refine tg_callSi (As := [.int x1]) 1 C0 dX8_isRange_8 (c_X8_isKey l x1 v1) rfl rfl (tm_gc tc_X8_isKey) tl_X8_116 tn_X8 tst_X8_isKey  rfl rfl rfl rfl (by decide +kernel) ⟨by decide, by decide⟩ (Nat.le_of_ble_eq_true rfl) ⟨by decide, by decide⟩ (fun r4 v3 _ => ?_)
    refine tg_if_eq 23 C0 dX8_isRange_11 (by decide) (fun _ => ?_) (fun _ => ?_)
    · refine tg_iconst (x := 0) C0 dX8_isRange_23 (by decide) ?_
      exact tg_zret C0 dX8_isRange_24 rfl
    · refine tg_iload_n 0 C0 dX8_isRange_14 rfl rfl ?_
      refine tg_iload_n 1 C0 dX8_isRange_15 rfl rfl ?_
      refine tg_icmp_gt 23 C0 dX8_isRange_16 (by decide) (fun _ => ?_) (fun _ => ?_)
      · refine tg_iconst (x := 0) C0 dX8_isRange_23 (by decide) ?_
        exact tg_zret C0 dX8_isRange_24 rfl
      · refine tg_iconst (x := 1) C0 dX8_isRange_19 (by decide) ?_
        refine tg_goto 24 C0 dX8_isRange_20 (by decide) ?_
        exact tg_zret C0 dX8_isRange_24 rfl
theorem c_X8_isRange (l : Launch) (x0 x1 : Int32) (v : tmM) : tmMi tm_NWR tm_shR 13 l yX8_isRange (Cond.code yX8_isRange cX8_isRange 2 (some .boolean) :: TMW) ({ frames := 2, cells := 0, slots := 0, locals := 42 } : Room) (fun ad => [.int x0, .int x1]) v (f_X8_isRange x0 x1 v) :=
  tmMi.of (cc := cX8_isRange) (nL := 2) (by decide +kernel) rfl tm_NWR_ok (fun _ => Nat.le_of_ble_eq_true rfl) (fun p e s m args below meth c A D cy ad z C0 => w_X8_isRange C0 x0 x1 v)
-- ----- X8_fill
theorem dX8_fill_0 : decode cX8_fill 0 = .ok (.aload_n 0, 1) := by decide +kernel
theorem dX8_fill_1 : decode cX8_fill 1 = .ok (.iload_n 1, 1) := by decide +kernel
theorem dX8_fill_2 : decode cX8_fill 2 = .ok (.iload_n 2, 1) := by decide +kernel
theorem dX8_fill_3 : decode cX8_fill 3 = .ok (.invokestatic 162, 3) := by decide +kernel
theorem dX8_fill_6 : decode cX8_fill 6 = .ok (.ifCond .ne 7, 3) := by decide +kernel
theorem dX8_fill_9 : decode cX8_fill 9 = .ok (.iconst 1, 1) := by decide +kernel
theorem dX8_fill_10 : decode cX8_fill 10 = .ok (.goto 31, 3) := by decide +kernel
theorem dX8_fill_13 : decode cX8_fill 13 = .ok (.iload_n 3, 1) := by decide +kernel
theorem dX8_fill_14 : decode cX8_fill 14 = .ok (.iconst 0, 1) := by decide +kernel
theorem dX8_fill_15 : decode cX8_fill 15 = .ok (.sipush 999, 3) := by decide +kernel
theorem dX8_fill_18 : decode cX8_fill 18 = .ok (.invokestatic 63, 3) := by decide +kernel
theorem dX8_fill_21 : decode cX8_fill 21 = .ok (.ifCond .eq 19, 3) := by decide +kernel
theorem dX8_fill_24 : decode cX8_fill 24 = .ok (.iload 4, 2) := by decide +kernel
theorem dX8_fill_26 : decode cX8_fill 26 = .ok (.iconst 0, 1) := by decide +kernel
theorem dX8_fill_27 : decode cX8_fill 27 = .ok (.sipush 999, 3) := by decide +kernel
theorem dX8_fill_30 : decode cX8_fill 30 = .ok (.invokestatic 63, 3) := by decide +kernel
theorem dX8_fill_33 : decode cX8_fill 33 = .ok (.ifCond .eq 7, 3) := by decide +kernel
theorem dX8_fill_36 : decode cX8_fill 36 = .ok (.iconst 0, 1) := by decide +kernel
theorem dX8_fill_37 : decode cX8_fill 37 = .ok (.goto 4, 3) := by decide +kernel
theorem dX8_fill_40 : decode cX8_fill 40 = .ok (.iconst 2, 1) := by decide +kernel
theorem dX8_fill_41 : decode cX8_fill 41 = .ok (.putfield 56, 3) := by decide +kernel
theorem dX8_fill_44 : decode cX8_fill 44 = .ok (.aload_n 0, 1) := by decide +kernel
theorem dX8_fill_45 : decode cX8_fill 45 = .ok (.getfield 56, 3) := by decide +kernel
theorem dX8_fill_48 : decode cX8_fill 48 = .ok (.ifCond .le 5, 3) := by decide +kernel
theorem dX8_fill_51 : decode cX8_fill 51 = .ok (.iconst 0, 1) := by decide +kernel
theorem dX8_fill_52 : decode cX8_fill 52 = .ok (.ireturn, 1) := by decide +kernel
theorem dX8_fill_53 : decode cX8_fill 53 = .ok (.aload_n 0, 1) := by decide +kernel
theorem dX8_fill_54 : decode cX8_fill 54 = .ok (.aload_n 0, 1) := by decide +kernel
theorem dX8_fill_55 : decode cX8_fill 55 = .ok (.invokevirtual 89, 3) := by decide +kernel
theorem dX8_fill_58 : decode cX8_fill 58 = .ok (.invokevirtual 113, 3) := by decide +kernel
theorem dX8_fill_61 : decode cX8_fill 61 = .ok (.ifCond .ne 9, 3) := by decide +kernel
theorem dX8_fill_64 : decode cX8_fill 64 = .ok (.aload_n 0, 1) := by decide +kernel
theorem dX8_fill_65 : decode cX8_fill 65 = .ok (.iconst 1, 1) := by decide +kernel
theorem dX8_fill_66 : decode cX8_fill 66 = .ok (.invokevirtual 165, 3) := by decide +kernel
theorem dX8_fill_69 : decode cX8_fill 69 = .ok (.ireturn, 1) := by decide +kernel
theorem dX8_fill_70 : decode cX8_fill 70 = .ok (.aload_n 0, 1) := by decide +kernel
theorem dX8_fill_71 : decode cX8_fill 71 = .ok (.invokevirtual 147, 3) := by decide +kernel
theorem dX8_fill_74 : decode cX8_fill 74 = .ok (.istore 5, 2) := by decide +kernel
theorem dX8_fill_76 : decode cX8_fill 76 = .ok (.iload_n 1, 1) := by decide +kernel
theorem dX8_fill_77 : decode cX8_fill 77 = .ok (.istore 6, 2) := by decide +kernel
theorem dX8_fill_79 : decode cX8_fill 79 = .ok (.iload 6, 2) := by decide +kernel
theorem dX8_fill_81 : decode cX8_fill 81 = .ok (.iload_n 2, 1) := by decide +kernel
theorem dX8_fill_82 : decode cX8_fill 82 = .ok (.if_icmp .gt 28, 3) := by decide +kernel
theorem dX8_fill_85 : decode cX8_fill 85 = .ok (.aload_n 0, 1) := by decide +kernel
theorem dX8_fill_86 : decode cX8_fill 86 = .ok (.iload 6, 2) := by decide +kernel
theorem dX8_fill_88 : decode cX8_fill 88 = .ok (.iload_n 3, 1) := by decide +kernel
theorem dX8_fill_89 : decode cX8_fill 89 = .ok (.iload 6, 2) := by decide +kernel
theorem dX8_fill_91 : decode cX8_fill 91 = .ok (.iload_n 1, 1) := by decide +kernel
theorem dX8_fill_92 : decode cX8_fill 92 = .ok (.isub, 1) := by decide +kernel
theorem dX8_fill_93 : decode cX8_fill 93 = .ok (.iload 4, 2) := by decide +kernel
theorem dX8_fill_95 : decode cX8_fill 95 = .ok (.imul, 1) := by decide +kernel
theorem dX8_fill_96 : decode cX8_fill 96 = .ok (.iadd, 1) := by decide +kernel
theorem dX8_fill_97 : decode cX8_fill 97 = .ok (.sipush 1000, 3) := by decide +kernel
theorem dX8_fill_100 : decode cX8_fill 100 = .ok (.irem, 1) := by decide +kernel
theorem dX8_fill_101 : decode cX8_fill 101 = .ok (.invokevirtual 150, 3) := by decide +kernel
theorem dX8_fill_104 : decode cX8_fill 104 = .ok (.iinc 6 1, 3) := by decide +kernel
theorem dX8_fill_107 : decode cX8_fill 107 = .ok (.goto (-28), 3) := by decide +kernel
theorem dX8_fill_110 : decode cX8_fill 110 = .ok (.iload 5, 2) := by decide +kernel
theorem dX8_fill_112 : decode cX8_fill 112 = .ok (.ireturn, 1) := by decide +kernel
theorem tc_X8_isRange : Cond.code yX8_isRange cX8_isRange 2 (some .boolean) ∈ TMW := tm_in 1779 (by decide +kernel) (by decide +kernel)
theorem tl_X8_162 : Cond.methodLink RX8 162 yX8_isRange ∈ TMW := tm_in 1777 (by decide +kernel) (by decide +kernel)
theorem tst_X8_isRange : Cond.static yX8_isRange ∈ TMW := tm_in 1778 (by decide +kernel) (by decide +kernel)
theorem tl_X8_165 : Cond.methodLink RX8 165 yX8_refuses ∈ TMW := tm_in 1780 (by decide +kernel) (by decide +kernel)
theorem ti_X8_refuses : Cond.instanceMethod yX8_refuses ∈ TMW := tm_in 1782 (by decide +kernel) (by decide +kernel)
theorem ts_X8_refuses : Cond.selects RX8 yX8_refuses yX8_refuses ∈ TMW := tm_in 54 (by decide +kernel) (by decide +kernel)
theorem tc_X8_refuses : Cond.code yX8_refuses cX8_refuses 2 (some .int) ∈ TMW := tm_in 1783 (by decide +kernel) (by decide +kernel)
def f_X8_fill_79b (K0 : Int32 → tmM → Option (Int32 × tmM)) (L : Int32 → Int32 → Int32 → Int32 → Int32 → Int32 → tmM → Option (Int32 × tmM)) (x1 x2 x3 x4 x5 x6 : Int32) (v : tmM) : Option (Int32 × tmM) := (if x2 < x6 then K0 x5 v else tm_g (decide (¬ 1000 = 0)) (tm_cl (f_X8_writesRow x6 ((x3 + ((x6 - x1) * x4)) - (x3 + ((x6 - x1) * x4)) / 1000 * 1000) v) fun _ v12 => L x1 x2 x3 x4 x5 (x6 + 1) v12))
set_option maxRecDepth 100000 in
set_option maxHeartbeats 4000000 in
theorem w_X8_fill_79b {p : Program} {l : Launch} {e : Env} {s : State} {m : MethodId} {args : Array Value} {below : List Frame} {meth : Method} {c : Code} {D : va_G} {cy : Nat → ClassId} {ad : Nat → Nat} {A : Nat → Prop} {z : (Int32 × tmM)} {K0 : Int32 → tmM → Option (Int32 × tmM)} {L : Int32 → Int32 → Int32 → Int32 → Int32 → Int32 → tmM → Option (Int32 × tmM)} (C0 : tmC p s m args meth c cX8_fill 7 (some .int) RX8 TMW tm_NWR D cy tm_shR ad 13 [] A) (hK0 : ∀ (a5 : Int32) (w : tmM), tmG p l e ({ frames := 5, cells := 0, slots := 0, locals := 112 } : Room) s m args below meth c 0 0 (MQ below (va_Qi (fun r u => z = (r, u)) (tmAt tm_shR 13 D cy ad A) A) args s 0 0 A) 7 D cy tm_shR ad 13 [] A z 110 [(5, .int a5)] [] w (K0 a5 w)) (hL : ∀ (a1 a2 a3 a4 a5 a6 : Int32) (w : tmM), tmG p l e ({ frames := 5, cells := 0, slots := 0, locals := 112 } : Room) s m args below meth c 0 0 (MQ below (va_Qi (fun r u => z = (r, u)) (tmAt tm_shR 13 D cy ad A) A) args s 0 0 A) 7 D cy tm_shR ad 13 [] A z 79 [(0, .ref (ad 0)), (1, .int a1), (2, .int a2), (3, .int a3), (4, .int a4), (5, .int a5), (6, .int a6)] [] w (L a1 a2 a3 a4 a5 a6 w)) (x1 x2 x3 x4 x5 x6 : Int32) (v : tmM) : tmG p l e ({ frames := 5, cells := 0, slots := 0, locals := 112 } : Room) s m args below meth c 0 0 (MQ below (va_Qi (fun r u => z = (r, u)) (tmAt tm_shR 13 D cy ad A) A) args s 0 0 A) 7 D cy tm_shR ad 13 [] A z 79 [(0, .ref (ad 0)), (1, .int x1), (2, .int x2), (3, .int x3), (4, .int x4), (5, .int x5), (6, .int x6)] [] v (f_X8_fill_79b K0 L x1 x2 x3 x4 x5 x6 v) := by
  unfold f_X8_fill_79b
  refine tg_iload 6 C0 dX8_fill_79 rfl ?_
  refine tg_iload_n 2 C0 dX8_fill_81 rfl rfl ?_
  refine tg_icmp_gt 110 C0 dX8_fill_82 (by decide) (fun _ => ?_) (fun _ => ?_)
  · refine tg_sub [5] rfl ?_
    exact hK0 x5 v
  · refine tg_aload_n 0 C0 dX8_fill_85 rfl rfl ?_
    refine tg_iload 6 C0 dX8_fill_86 rfl ?_
    refine tg_iload_n 3 C0 dX8_fill_88 rfl rfl ?_
    refine tg_iload 6 C0 dX8_fill_89 rfl ?_
    refine tg_iload_n 1 C0 dX8_fill_91 rfl rfl ?_
    refine tg_isub C0 dX8_fill_92 ?_
    refine tg_iload 4 C0 dX8_fill_93 rfl ?_
    refine tg_imul C0 dX8_fill_95 ?_
    refine tg_iadd C0 dX8_fill_96 ?_
    refine tg_sipush (x := 1000) C0 dX8_fill_97 (by decide) ?_
    refine tg_irem C0 dX8_fill_100 (fun _ => ?_)
    refine tg_callVv (As := [.int x6, .int ((x3 + ((x6 - x1) * x4)) - (x3 + ((x6 - x1) * x4)) / 1000 * 1000)]) 0 2 C0 dX8_fill_101 (c_X8_writesRow l x6 ((x3 + ((x6 - x1) * x4)) - (x3 + ((x6 - x1) * x4)) / 1000 * 1000) v) rfl rfl (by decide) rfl rfl (tm_gV tl_X8_150 ti_X8_writesRow ts_X8_writesRow tn_X8 tc_X8_writesRow)  rfl rfl rfl rfl (by decide +kernel) ⟨by decide, by decide⟩ (Nat.le_of_ble_eq_true rfl) ⟨by decide, by decide⟩ (fun v12 _ => ?_)
    refine tg_iinc [(6, .int (x6 + 1)), (0, .ref (ad 0)), (1, .int x1), (2, .int x2), (3, .int x3), (4, .int x4), (5, .int x5)] 6 C0 dX8_fill_104 rfl rfl (by decide) rfl ?_
    refine tg_goto 79 C0 dX8_fill_107 (by decide) ?_
    refine tg_sub [1, 2, 3, 4, 5, 6, 0] rfl ?_
    exact hL x1 x2 x3 x4 x5 (x6 + 1) v12
def f_X8_fill_79 (K0 : Int32 → tmM → Option (Int32 × tmM)) : Nat → Int32 → Int32 → Int32 → Int32 → Int32 → Int32 → tmM → Option (Int32 × tmM)
  | 0 => fun _ _ _ _ _ _ _ => none
  | n + 1 => f_X8_fill_79b K0 (f_X8_fill_79 K0 n)
theorem w_X8_fill_79 {p : Program} {l : Launch} {e : Env} {s : State} {m : MethodId} {args : Array Value} {below : List Frame} {meth : Method} {c : Code} {D : va_G} {cy : Nat → ClassId} {ad : Nat → Nat} {A : Nat → Prop} {z : (Int32 × tmM)} {K0 : Int32 → tmM → Option (Int32 × tmM)} (C0 : tmC p s m args meth c cX8_fill 7 (some .int) RX8 TMW tm_NWR D cy tm_shR ad 13 [] A) (hK0 : ∀ (a5 : Int32) (w : tmM), tmG p l e ({ frames := 5, cells := 0, slots := 0, locals := 112 } : Room) s m args below meth c 0 0 (MQ below (va_Qi (fun r u => z = (r, u)) (tmAt tm_shR 13 D cy ad A) A) args s 0 0 A) 7 D cy tm_shR ad 13 [] A z 110 [(5, .int a5)] [] w (K0 a5 w)) (nn : Nat) : ∀ (x1 x2 x3 x4 x5 x6 : Int32) (v : tmM), tmG p l e ({ frames := 5, cells := 0, slots := 0, locals := 112 } : Room) s m args below meth c 0 0 (MQ below (va_Qi (fun r u => z = (r, u)) (tmAt tm_shR 13 D cy ad A) A) args s 0 0 A) 7 D cy tm_shR ad 13 [] A z 79 [(0, .ref (ad 0)), (1, .int x1), (2, .int x2), (3, .int x3), (4, .int x4), (5, .int x5), (6, .int x6)] [] v (f_X8_fill_79 K0 nn x1 x2 x3 x4 x5 x6 v) := by
  induction nn with
  | zero => intro _ _ _ _ _ _ _; exact tg_none
  | succ n ih => intro x1 x2 x3 x4 x5 x6 v; exact w_X8_fill_79b C0 hK0 ih x1 x2 x3 x4 x5 x6 v
def f_X8_fill_41 (x1 x2 x3 x4 s0 : Int32) (v : tmM) : Option (Int32 × tmM) := tm_lt (tm_up v 0 0 s0) fun v5 => (if (v5 0 0) ≤ 0 then tm_cl (f_X8_leads v5) fun r7 v6 => tm_cl (f_X8_isUp r7 v6) fun r9 v8 => (if r9 = 0 then tm_cl (f_X8_refuses 1 v8) fun r17 v16 => some (r17, v16) else tm_cl (f_X8_does v8) fun r11 v10 => f_X8_fill_79 (fun x14 v15 => some (x14, v15)) 10000 x1 x2 x3 x4 r11 x1 v10) else some (0, v5))
set_option maxRecDepth 100000 in
set_option maxHeartbeats 4000000 in
theorem w_X8_fill_41 {p : Program} {l : Launch} {e : Env} {s : State} {m : MethodId} {args : Array Value} {below : List Frame} {meth : Method} {c : Code} {D : va_G} {cy : Nat → ClassId} {ad : Nat → Nat} {A : Nat → Prop} {z : (Int32 × tmM)} (C0 : tmC p s m args meth c cX8_fill 7 (some .int) RX8 TMW tm_NWR D cy tm_shR ad 13 [] A) (x1 x2 x3 x4 s0 : Int32) (v : tmM) : tmG p l e ({ frames := 5, cells := 0, slots := 0, locals := 112 } : Room) s m args below meth c 0 0 (MQ below (va_Qi (fun r u => z = (r, u)) (tmAt tm_shR 13 D cy ad A) A) args s 0 0 A) 7 D cy tm_shR ad 13 [] A z 41 [(0, .ref (ad 0)), (1, .int x1), (2, .int x2), (3, .int x3), (4, .int x4)] [.int s0, .ref (ad 0)] v (f_X8_fill_41 x1 x2 x3 x4 s0 v) := by
  unfold f_X8_fill_41
  refine tg_put 0 0 C0 dX8_fill_41 (by decide) rfl rfl tu_X8 tyX8_ok nmX8 (by decide) tf_X8_56 rfl rfl rfl rfl rfl rfl ?_
  refine tg_letm (fun v5 _ => ?_)
  refine tg_aload_n 0 C0 dX8_fill_44 rfl rfl ?_
  refine tg_get 0 0 C0 dX8_fill_45 (by decide) rfl rfl tu_X8 (by decide) tf_X8_56 rfl rfl rfl ?_
  refine tg_if_le 53 C0 dX8_fill_48 (by decide) (fun _ => ?_) (fun _ => ?_)
  · refine tg_aload_n 0 C0 dX8_fill_53 rfl rfl ?_
    refine tg_aload_n 0 C0 dX8_fill_54 rfl rfl ?_
    refine tg_callVi (As := []) 0 0 C0 dX8_fill_55 (c_X8_leads l v5) rfl rfl (by decide) rfl rfl (tm_gV tl_X8_89 ti_X8_leads ts_X8_leads tn_X8 tc_X8_leads)  rfl rfl rfl rfl (by decide +kernel) ⟨by decide, by decide⟩ (Nat.le_of_ble_eq_true rfl) ⟨by decide, by decide⟩ (fun r7 v6 _ => ?_)
    refine tg_callVi (As := [.int r7]) 0 1 C0 dX8_fill_58 (c_X8_isUp l r7 v6) rfl rfl (by decide) rfl rfl (tm_gV tl_X8_113 ti_X8_isUp ts_X8_isUp tn_X8 tc_X8_isUp)  rfl rfl rfl rfl (by decide +kernel) ⟨by decide, by decide⟩ (Nat.le_of_ble_eq_true rfl) ⟨by decide, by decide⟩ (fun r9 v8 _ => ?_)
    refine tg_if_ne 70 C0 dX8_fill_61 (by decide) (fun _ => ?_) (fun _ => ?_)
    · refine tg_aload_n 0 C0 dX8_fill_70 rfl rfl ?_
      refine tg_callVi (As := []) 0 0 C0 dX8_fill_71 (c_X8_does l v8) rfl rfl (by decide) rfl rfl (tm_gV tl_X8_147 ti_X8_does ts_X8_does tn_X8 tc_X8_does)  rfl rfl rfl rfl (by decide +kernel) ⟨by decide, by decide⟩ (Nat.le_of_ble_eq_true rfl) ⟨by decide, by decide⟩ (fun r11 v10 _ => ?_)
      refine tg_istore [(5, .int r11), (0, .ref (ad 0)), (1, .int x1), (2, .int x2), (3, .int x3), (4, .int x4)] C0 dX8_fill_74 (by decide) rfl ?_
      refine tg_iload_n 2 C0 dX8_fill_76 rfl rfl ?_
      refine tg_istore [(6, .int x1), (5, .int r11), (0, .ref (ad 0)), (1, .int x1), (2, .int x2), (3, .int x3), (4, .int x4)] C0 dX8_fill_77 (by decide) rfl ?_
      refine tg_sub [2, 3, 4, 5, 6, 1, 0] rfl ?_
      refine w_X8_fill_79 C0 (fun x14 v15 => ?_) 10000 x1 x2 x3 x4 r11 x1 v10
      refine tg_iload 0 C0 dX8_fill_110 rfl ?_
      exact tg_iret C0 dX8_fill_112
    · refine tg_aload_n 0 C0 dX8_fill_64 rfl rfl ?_
      refine tg_iconst (x := 1) C0 dX8_fill_65 (by decide) ?_
      refine tg_callVi (As := [.int 1]) 0 1 C0 dX8_fill_66 (c_X8_refuses l 1 v8) rfl rfl (by decide) rfl rfl (tm_gV tl_X8_165 ti_X8_refuses ts_X8_refuses tn_X8 tc_X8_refuses)  rfl rfl rfl rfl (by decide +kernel) ⟨by decide, by decide⟩ (Nat.le_of_ble_eq_true rfl) ⟨by decide, by decide⟩ (fun r17 v16 _ => ?_)
      exact tg_iret C0 dX8_fill_69
  · refine tg_iconst (x := 0) C0 dX8_fill_51 (by decide) ?_
    exact tg_iret C0 dX8_fill_52
def f_X8_fill_40 (x1 x2 x3 x4 : Int32) (v : tmM) : Option (Int32 × tmM) := f_X8_fill_41 x1 x2 x3 x4 2 v
set_option maxRecDepth 100000 in
set_option maxHeartbeats 4000000 in
theorem w_X8_fill_40 {p : Program} {l : Launch} {e : Env} {s : State} {m : MethodId} {args : Array Value} {below : List Frame} {meth : Method} {c : Code} {D : va_G} {cy : Nat → ClassId} {ad : Nat → Nat} {A : Nat → Prop} {z : (Int32 × tmM)} (C0 : tmC p s m args meth c cX8_fill 7 (some .int) RX8 TMW tm_NWR D cy tm_shR ad 13 [] A) (x1 x2 x3 x4 : Int32) (v : tmM) : tmG p l e ({ frames := 5, cells := 0, slots := 0, locals := 112 } : Room) s m args below meth c 0 0 (MQ below (va_Qi (fun r u => z = (r, u)) (tmAt tm_shR 13 D cy ad A) A) args s 0 0 A) 7 D cy tm_shR ad 13 [] A z 40 [(0, .ref (ad 0)), (1, .int x1), (2, .int x2), (3, .int x3), (4, .int x4)] [.ref (ad 0)] v (f_X8_fill_40 x1 x2 x3 x4 v) := by
  unfold f_X8_fill_40
  refine tg_iconst (x := 2) C0 dX8_fill_40 (by decide) ?_
  exact w_X8_fill_41 C0 x1 x2 x3 x4 2 v
def f_X8_fill (x1 x2 x3 x4 : Int32) (v : tmM) : Option (Int32 × tmM) := tm_cl (f_X8_isRange x1 x2 v) fun r2 v1 => (if r2 = 0 then f_X8_fill_41 x1 x2 x3 x4 1 v1 else tm_cl (f_X8_in x3 0 999 v1) fun r4 v3 => (if r4 = 0 then f_X8_fill_40 x1 x2 x3 x4 v3 else tm_cl (f_X8_in x4 0 999 v3) fun r19 v18 => (if r19 = 0 then f_X8_fill_40 x1 x2 x3 x4 v18 else f_X8_fill_41 x1 x2 x3 x4 0 v18)))
set_option maxRecDepth 100000 in
set_option maxHeartbeats 4000000 in
theorem w_X8_fill {p : Program} {l : Launch} {e : Env} {s : State} {m : MethodId} {args : Array Value} {below : List Frame} {meth : Method} {c : Code} {D : va_G} {cy : Nat → ClassId} {ad : Nat → Nat} {A : Nat → Prop} {z : (Int32 × tmM)} (C0 : tmC p s m args meth c cX8_fill 7 (some .int) RX8 TMW tm_NWR D cy tm_shR ad 13 [] A) (x1 x2 x3 x4 : Int32) (v : tmM) : tmG p l e ({ frames := 5, cells := 0, slots := 0, locals := 112 } : Room) s m args below meth c 0 0 (MQ below (va_Qi (fun r u => z = (r, u)) (tmAt tm_shR 13 D cy ad A) A) args s 0 0 A) 7 D cy tm_shR ad 13 [] A z 0 [(0, .ref (ad 0)), (1, .int x1), (2, .int x2), (3, .int x3), (4, .int x4)] [] v (f_X8_fill x1 x2 x3 x4 v) := by
  unfold f_X8_fill
  refine tg_aload_n 0 C0 dX8_fill_0 rfl rfl ?_
  refine tg_iload_n 1 C0 dX8_fill_1 rfl rfl ?_
  refine tg_iload_n 2 C0 dX8_fill_2 rfl rfl ?_
  refine tg_callSi (As := [.int x1, .int x2]) 2 C0 dX8_fill_3 (c_X8_isRange l x1 x2 v) rfl rfl (tm_gc tc_X8_isRange) tl_X8_162 tn_X8 tst_X8_isRange  rfl rfl rfl rfl (by decide +kernel) ⟨by decide, by decide⟩ (Nat.le_of_ble_eq_true rfl) ⟨by decide, by decide⟩ (fun r2 v1 _ => ?_)
  refine tg_if_ne 13 C0 dX8_fill_6 (by decide) (fun _ => ?_) (fun _ => ?_)
  · refine tg_iload_n 3 C0 dX8_fill_13 rfl rfl ?_
    refine tg_iconst (x := 0) C0 dX8_fill_14 (by decide) ?_
    refine tg_sipush (x := 999) C0 dX8_fill_15 (by decide) ?_
    refine tg_callSi (As := [.int x3, .int 0, .int 999]) 3 C0 dX8_fill_18 (c_X8_in l x3 0 999 v1) rfl rfl (tm_gc tc_X8_in) tl_X8_63 tn_X8 tst_X8_in  rfl rfl rfl rfl (by decide +kernel) ⟨by decide, by decide⟩ (Nat.le_of_ble_eq_true rfl) ⟨by decide, by decide⟩ (fun r4 v3 _ => ?_)
    refine tg_if_eq 40 C0 dX8_fill_21 (by decide) (fun _ => ?_) (fun _ => ?_)
    · exact w_X8_fill_40 C0 x1 x2 x3 x4 v3
    · refine tg_iload 4 C0 dX8_fill_24 rfl ?_
      refine tg_iconst (x := 0) C0 dX8_fill_26 (by decide) ?_
      refine tg_sipush (x := 999) C0 dX8_fill_27 (by decide) ?_
      refine tg_callSi (As := [.int x4, .int 0, .int 999]) 3 C0 dX8_fill_30 (c_X8_in l x4 0 999 v3) rfl rfl (tm_gc tc_X8_in) tl_X8_63 tn_X8 tst_X8_in  rfl rfl rfl rfl (by decide +kernel) ⟨by decide, by decide⟩ (Nat.le_of_ble_eq_true rfl) ⟨by decide, by decide⟩ (fun r19 v18 _ => ?_)
      refine tg_if_eq 40 C0 dX8_fill_33 (by decide) (fun _ => ?_) (fun _ => ?_)
      · exact w_X8_fill_40 C0 x1 x2 x3 x4 v18
      · refine tg_iconst (x := 0) C0 dX8_fill_36 (by decide) ?_
        refine tg_goto 41 C0 dX8_fill_37 (by decide) ?_
        exact w_X8_fill_41 C0 x1 x2 x3 x4 0 v18
  · refine tg_iconst (x := 1) C0 dX8_fill_9 (by decide) ?_
    refine tg_goto 41 C0 dX8_fill_10 (by decide) ?_
    exact w_X8_fill_41 C0 x1 x2 x3 x4 1 v1
theorem c_X8_fill (l : Launch) (x1 x2 x3 x4 : Int32) (v : tmM) : tmMi tm_NWR tm_shR 13 l yX8_fill (Cond.code yX8_fill cX8_fill 7 (some .int) :: TMW) ({ frames := 5, cells := 0, slots := 0, locals := 112 } : Room) (fun ad => [.ref (ad 0), .int x1, .int x2, .int x3, .int x4]) v (f_X8_fill x1 x2 x3 x4 v) :=
  tmMi.of (cc := cX8_fill) (nL := 7) (by decide +kernel) rfl tm_NWR_ok (fun _ => Nat.le_of_ble_eq_true rfl) (fun p e s m args below meth c A D cy ad z C0 => w_X8_fill C0 x1 x2 x3 x4 v)
-- ----- X8_hasRow
theorem dX8_hasRow_0 : decode cX8_hasRow 0 = .ok (.iload_n 1, 1) := by decide +kernel
theorem dX8_hasRow_1 : decode cX8_hasRow 1 = .ok (.istore_n 3, 1) := by decide +kernel
theorem dX8_hasRow_2 : decode cX8_hasRow 2 = .ok (.iload_n 3, 1) := by decide +kernel
theorem dX8_hasRow_3 : decode cX8_hasRow 3 = .ok (.iload_n 2, 1) := by decide +kernel
theorem dX8_hasRow_4 : decode cX8_hasRow 4 = .ok (.if_icmp .gt 24, 3) := by decide +kernel
theorem dX8_hasRow_7 : decode cX8_hasRow 7 = .ok (.aload_n 0, 1) := by decide +kernel
theorem dX8_hasRow_8 : decode cX8_hasRow 8 = .ok (.aload_n 0, 1) := by decide +kernel
theorem dX8_hasRow_9 : decode cX8_hasRow 9 = .ok (.invokevirtual 89, 3) := by decide +kernel
theorem dX8_hasRow_12 : decode cX8_hasRow 12 = .ok (.iload_n 3, 1) := by decide +kernel
theorem dX8_hasRow_13 : decode cX8_hasRow 13 = .ok (.invokevirtual 74, 3) := by decide +kernel
theorem dX8_hasRow_16 : decode cX8_hasRow 16 = .ok (.iconst (-1), 1) := by decide +kernel
theorem dX8_hasRow_17 : decode cX8_hasRow 17 = .ok (.if_icmp .eq 5, 3) := by decide +kernel
theorem dX8_hasRow_20 : decode cX8_hasRow 20 = .ok (.iconst 1, 1) := by decide +kernel
theorem dX8_hasRow_21 : decode cX8_hasRow 21 = .ok (.ireturn, 1) := by decide +kernel
theorem dX8_hasRow_22 : decode cX8_hasRow 22 = .ok (.iinc 3 1, 3) := by decide +kernel
theorem dX8_hasRow_25 : decode cX8_hasRow 25 = .ok (.goto (-23), 3) := by decide +kernel
theorem dX8_hasRow_28 : decode cX8_hasRow 28 = .ok (.iconst 0, 1) := by decide +kernel
theorem dX8_hasRow_29 : decode cX8_hasRow 29 = .ok (.ireturn, 1) := by decide +kernel
def f_X8_hasRow_2b (K0 : tmM → Option (Int32 × tmM)) (L : Int32 → Int32 → tmM → Option (Int32 × tmM)) (x2 x3 : Int32) (v : tmM) : Option (Int32 × tmM) := (if x2 < x3 then K0 v else tm_cl (f_X8_leads v) fun r2 v1 => tm_cl (f_X8_valueIn r2 x3 v1) fun r4 v3 => (if r4 = (-1) then L x2 (x3 + 1) v3 else some (1, v3)))
set_option maxRecDepth 100000 in
set_option maxHeartbeats 4000000 in
theorem w_X8_hasRow_2b {p : Program} {l : Launch} {e : Env} {s : State} {m : MethodId} {args : Array Value} {below : List Frame} {meth : Method} {c : Code} {D : va_G} {cy : Nat → ClassId} {ad : Nat → Nat} {A : Nat → Prop} {z : (Int32 × tmM)} {K0 : tmM → Option (Int32 × tmM)} {L : Int32 → Int32 → tmM → Option (Int32 × tmM)} (C0 : tmC p s m args meth c cX8_hasRow 4 (some .boolean) RX8 TMW tm_NWR D cy tm_shR ad 13 [] A) (hK0 : ∀ (w : tmM), tmG p l e ({ frames := 3, cells := 0, slots := 0, locals := 67 } : Room) s m args below meth c 0 0 (MQ below (va_Qi (fun r u => z = (r, u)) (tmAt tm_shR 13 D cy ad A) A) args s 0 0 A) 4 D cy tm_shR ad 13 [] A z 28 [] [] w (K0 w)) (hL : ∀ (a2 a3 : Int32) (w : tmM), tmG p l e ({ frames := 3, cells := 0, slots := 0, locals := 67 } : Room) s m args below meth c 0 0 (MQ below (va_Qi (fun r u => z = (r, u)) (tmAt tm_shR 13 D cy ad A) A) args s 0 0 A) 4 D cy tm_shR ad 13 [] A z 2 [(0, .ref (ad 0)), (2, .int a2), (3, .int a3)] [] w (L a2 a3 w)) (x2 x3 : Int32) (v : tmM) : tmG p l e ({ frames := 3, cells := 0, slots := 0, locals := 67 } : Room) s m args below meth c 0 0 (MQ below (va_Qi (fun r u => z = (r, u)) (tmAt tm_shR 13 D cy ad A) A) args s 0 0 A) 4 D cy tm_shR ad 13 [] A z 2 [(0, .ref (ad 0)), (2, .int x2), (3, .int x3)] [] v (f_X8_hasRow_2b K0 L x2 x3 v) := by
  unfold f_X8_hasRow_2b
  refine tg_iload_n 2 C0 dX8_hasRow_2 rfl rfl ?_
  refine tg_iload_n 1 C0 dX8_hasRow_3 rfl rfl ?_
  refine tg_icmp_gt 28 C0 dX8_hasRow_4 (by decide) (fun _ => ?_) (fun _ => ?_)
  · refine tg_sub [] rfl ?_
    exact hK0 v
  · refine tg_aload_n 0 C0 dX8_hasRow_7 rfl rfl ?_
    refine tg_aload_n 0 C0 dX8_hasRow_8 rfl rfl ?_
    refine tg_callVi (As := []) 0 0 C0 dX8_hasRow_9 (c_X8_leads l v) rfl rfl (by decide) rfl rfl (tm_gV tl_X8_89 ti_X8_leads ts_X8_leads tn_X8 tc_X8_leads)  rfl rfl rfl rfl (by decide +kernel) ⟨by decide, by decide⟩ (Nat.le_of_ble_eq_true rfl) ⟨by decide, by decide⟩ (fun r2 v1 _ => ?_)
    refine tg_iload_n 2 C0 dX8_hasRow_12 rfl rfl ?_
    refine tg_callVi (As := [.int r2, .int x3]) 0 2 C0 dX8_hasRow_13 (c_X8_valueIn l r2 x3 v1) rfl rfl (by decide) rfl rfl (tm_gV tl_X8_74 ti_X8_valueIn ts_X8_valueIn tn_X8 tc_X8_valueIn)  rfl rfl rfl rfl (by decide +kernel) ⟨by decide, by decide⟩ (Nat.le_of_ble_eq_true rfl) ⟨by decide, by decide⟩ (fun r4 v3 _ => ?_)
    refine tg_iconst (x := (-1)) C0 dX8_hasRow_16 (by decide) ?_
    refine tg_icmp_eq 22 C0 dX8_hasRow_17 (by decide) (fun _ => ?_) (fun _ => ?_)
    · refine tg_iinc [(3, .int (x3 + 1)), (0, .ref (ad 0)), (2, .int x2)] 2 C0 dX8_hasRow_22 rfl rfl (by decide) rfl ?_
      refine tg_goto 2 C0 dX8_hasRow_25 (by decide) ?_
      refine tg_sub [1, 2, 0] rfl ?_
      exact hL x2 (x3 + 1) v3
    · refine tg_iconst (x := 1) C0 dX8_hasRow_20 (by decide) ?_
      exact tg_zret C0 dX8_hasRow_21 rfl
def f_X8_hasRow_2 (K0 : tmM → Option (Int32 × tmM)) : Nat → Int32 → Int32 → tmM → Option (Int32 × tmM)
  | 0 => fun _ _ _ => none
  | n + 1 => f_X8_hasRow_2b K0 (f_X8_hasRow_2 K0 n)
theorem w_X8_hasRow_2 {p : Program} {l : Launch} {e : Env} {s : State} {m : MethodId} {args : Array Value} {below : List Frame} {meth : Method} {c : Code} {D : va_G} {cy : Nat → ClassId} {ad : Nat → Nat} {A : Nat → Prop} {z : (Int32 × tmM)} {K0 : tmM → Option (Int32 × tmM)} (C0 : tmC p s m args meth c cX8_hasRow 4 (some .boolean) RX8 TMW tm_NWR D cy tm_shR ad 13 [] A) (hK0 : ∀ (w : tmM), tmG p l e ({ frames := 3, cells := 0, slots := 0, locals := 67 } : Room) s m args below meth c 0 0 (MQ below (va_Qi (fun r u => z = (r, u)) (tmAt tm_shR 13 D cy ad A) A) args s 0 0 A) 4 D cy tm_shR ad 13 [] A z 28 [] [] w (K0 w)) (nn : Nat) : ∀ (x2 x3 : Int32) (v : tmM), tmG p l e ({ frames := 3, cells := 0, slots := 0, locals := 67 } : Room) s m args below meth c 0 0 (MQ below (va_Qi (fun r u => z = (r, u)) (tmAt tm_shR 13 D cy ad A) A) args s 0 0 A) 4 D cy tm_shR ad 13 [] A z 2 [(0, .ref (ad 0)), (2, .int x2), (3, .int x3)] [] v (f_X8_hasRow_2 K0 nn x2 x3 v) := by
  induction nn with
  | zero => intro _ _ _; exact tg_none
  | succ n ih => intro x2 x3 v; exact w_X8_hasRow_2b C0 hK0 ih x2 x3 v
def f_X8_hasRow (x1 x2 : Int32) (v : tmM) : Option (Int32 × tmM) := f_X8_hasRow_2 (fun v5 => some (0, v5)) 10000 x2 x1 v
set_option maxRecDepth 100000 in
set_option maxHeartbeats 4000000 in
theorem w_X8_hasRow {p : Program} {l : Launch} {e : Env} {s : State} {m : MethodId} {args : Array Value} {below : List Frame} {meth : Method} {c : Code} {D : va_G} {cy : Nat → ClassId} {ad : Nat → Nat} {A : Nat → Prop} {z : (Int32 × tmM)} (C0 : tmC p s m args meth c cX8_hasRow 4 (some .boolean) RX8 TMW tm_NWR D cy tm_shR ad 13 [] A) (x1 x2 : Int32) (v : tmM) : tmG p l e ({ frames := 3, cells := 0, slots := 0, locals := 67 } : Room) s m args below meth c 0 0 (MQ below (va_Qi (fun r u => z = (r, u)) (tmAt tm_shR 13 D cy ad A) A) args s 0 0 A) 4 D cy tm_shR ad 13 [] A z 0 [(0, .ref (ad 0)), (1, .int x1), (2, .int x2)] [] v (f_X8_hasRow x1 x2 v) := by
  unfold f_X8_hasRow
  refine tg_iload_n 1 C0 dX8_hasRow_0 rfl rfl ?_
  refine tg_istore_n [(3, .int x1), (0, .ref (ad 0)), (1, .int x1), (2, .int x2)] C0 dX8_hasRow_1 rfl (by decide) rfl ?_
  refine tg_sub [1, 3, 0] rfl ?_
  refine w_X8_hasRow_2 C0 (fun v5 => ?_) 10000 x2 x1 v
  refine tg_iconst (x := 0) C0 dX8_hasRow_28 (by decide) ?_
  exact tg_zret C0 dX8_hasRow_29 rfl
theorem c_X8_hasRow (l : Launch) (x1 x2 : Int32) (v : tmM) : tmMi tm_NWR tm_shR 13 l yX8_hasRow (Cond.code yX8_hasRow cX8_hasRow 4 (some .boolean) :: TMW) ({ frames := 3, cells := 0, slots := 0, locals := 67 } : Room) (fun ad => [.ref (ad 0), .int x1, .int x2]) v (f_X8_hasRow x1 x2 v) :=
  tmMi.of (cc := cX8_hasRow) (nL := 4) (by decide +kernel) rfl tm_NWR_ok (fun _ => Nat.le_of_ble_eq_true rfl) (fun p e s m args below meth c A D cy ad z C0 => w_X8_hasRow C0 x1 x2 v)
-- ----- X8_clearRange
theorem dX8_clearRange_0 : decode cX8_clearRange 0 = .ok (.aload_n 0, 1) := by decide +kernel
theorem dX8_clearRange_1 : decode cX8_clearRange 1 = .ok (.iload_n 1, 1) := by decide +kernel
theorem dX8_clearRange_2 : decode cX8_clearRange 2 = .ok (.iload_n 2, 1) := by decide +kernel
theorem dX8_clearRange_3 : decode cX8_clearRange 3 = .ok (.invokestatic 162, 3) := by decide +kernel
theorem dX8_clearRange_6 : decode cX8_clearRange 6 = .ok (.ifCond .eq 7, 3) := by decide +kernel
theorem dX8_clearRange_9 : decode cX8_clearRange 9 = .ok (.iconst 0, 1) := by decide +kernel
theorem dX8_clearRange_10 : decode cX8_clearRange 10 = .ok (.goto 4, 3) := by decide +kernel
theorem dX8_clearRange_13 : decode cX8_clearRange 13 = .ok (.iconst 1, 1) := by decide +kernel
theorem dX8_clearRange_14 : decode cX8_clearRange 14 = .ok (.putfield 56, 3) := by decide +kernel
theorem dX8_clearRange_17 : decode cX8_clearRange 17 = .ok (.aload_n 0, 1) := by decide +kernel
theorem dX8_clearRange_18 : decode cX8_clearRange 18 = .ok (.getfield 56, 3) := by decide +kernel
theorem dX8_clearRange_21 : decode cX8_clearRange 21 = .ok (.ifCond .le 5, 3) := by decide +kernel
theorem dX8_clearRange_24 : decode cX8_clearRange 24 = .ok (.iconst 0, 1) := by decide +kernel
theorem dX8_clearRange_25 : decode cX8_clearRange 25 = .ok (.ireturn, 1) := by decide +kernel
theorem dX8_clearRange_26 : decode cX8_clearRange 26 = .ok (.aload_n 0, 1) := by decide +kernel
theorem dX8_clearRange_27 : decode cX8_clearRange 27 = .ok (.aload_n 0, 1) := by decide +kernel
theorem dX8_clearRange_28 : decode cX8_clearRange 28 = .ok (.invokevirtual 89, 3) := by decide +kernel
theorem dX8_clearRange_31 : decode cX8_clearRange 31 = .ok (.invokevirtual 113, 3) := by decide +kernel
theorem dX8_clearRange_34 : decode cX8_clearRange 34 = .ok (.ifCond .eq 12, 3) := by decide +kernel
theorem dX8_clearRange_37 : decode cX8_clearRange 37 = .ok (.aload_n 0, 1) := by decide +kernel
theorem dX8_clearRange_38 : decode cX8_clearRange 38 = .ok (.iload_n 1, 1) := by decide +kernel
theorem dX8_clearRange_39 : decode cX8_clearRange 39 = .ok (.iload_n 2, 1) := by decide +kernel
theorem dX8_clearRange_40 : decode cX8_clearRange 40 = .ok (.invokevirtual 168, 3) := by decide +kernel
theorem dX8_clearRange_43 : decode cX8_clearRange 43 = .ok (.ifCond .ne 25, 3) := by decide +kernel
theorem dX8_clearRange_46 : decode cX8_clearRange 46 = .ok (.aload_n 0, 1) := by decide +kernel
theorem dX8_clearRange_47 : decode cX8_clearRange 47 = .ok (.aload_n 0, 1) := by decide +kernel
theorem dX8_clearRange_48 : decode cX8_clearRange 48 = .ok (.aload_n 0, 1) := by decide +kernel
theorem dX8_clearRange_49 : decode cX8_clearRange 49 = .ok (.invokevirtual 89, 3) := by decide +kernel
theorem dX8_clearRange_52 : decode cX8_clearRange 52 = .ok (.invokevirtual 113, 3) := by decide +kernel
theorem dX8_clearRange_55 : decode cX8_clearRange 55 = .ok (.ifCond .eq 8, 3) := by decide +kernel
theorem dX8_clearRange_58 : decode cX8_clearRange 58 = .ok (.bipush 8, 2) := by decide +kernel
theorem dX8_clearRange_60 : decode cX8_clearRange 60 = .ok (.goto 4, 3) := by decide +kernel
theorem dX8_clearRange_63 : decode cX8_clearRange 63 = .ok (.iconst 1, 1) := by decide +kernel
theorem dX8_clearRange_64 : decode cX8_clearRange 64 = .ok (.invokevirtual 165, 3) := by decide +kernel
theorem dX8_clearRange_67 : decode cX8_clearRange 67 = .ok (.ireturn, 1) := by decide +kernel
theorem dX8_clearRange_68 : decode cX8_clearRange 68 = .ok (.aload_n 0, 1) := by decide +kernel
theorem dX8_clearRange_69 : decode cX8_clearRange 69 = .ok (.invokevirtual 147, 3) := by decide +kernel
theorem dX8_clearRange_72 : decode cX8_clearRange 72 = .ok (.istore_n 3, 1) := by decide +kernel
theorem dX8_clearRange_73 : decode cX8_clearRange 73 = .ok (.iload_n 1, 1) := by decide +kernel
theorem dX8_clearRange_74 : decode cX8_clearRange 74 = .ok (.istore 4, 2) := by decide +kernel
theorem dX8_clearRange_76 : decode cX8_clearRange 76 = .ok (.iload 4, 2) := by decide +kernel
theorem dX8_clearRange_78 : decode cX8_clearRange 78 = .ok (.iload_n 2, 1) := by decide +kernel
theorem dX8_clearRange_79 : decode cX8_clearRange 79 = .ok (.if_icmp .gt 30, 3) := by decide +kernel
theorem dX8_clearRange_82 : decode cX8_clearRange 82 = .ok (.aload_n 0, 1) := by decide +kernel
theorem dX8_clearRange_83 : decode cX8_clearRange 83 = .ok (.aload_n 0, 1) := by decide +kernel
theorem dX8_clearRange_84 : decode cX8_clearRange 84 = .ok (.invokevirtual 89, 3) := by decide +kernel
theorem dX8_clearRange_87 : decode cX8_clearRange 87 = .ok (.iload 4, 2) := by decide +kernel
theorem dX8_clearRange_89 : decode cX8_clearRange 89 = .ok (.invokevirtual 74, 3) := by decide +kernel
theorem dX8_clearRange_92 : decode cX8_clearRange 92 = .ok (.iconst (-1), 1) := by decide +kernel
theorem dX8_clearRange_93 : decode cX8_clearRange 93 = .ok (.if_icmp .eq 10, 3) := by decide +kernel
theorem dX8_clearRange_96 : decode cX8_clearRange 96 = .ok (.aload_n 0, 1) := by decide +kernel
theorem dX8_clearRange_97 : decode cX8_clearRange 97 = .ok (.iload 4, 2) := by decide +kernel
theorem dX8_clearRange_99 : decode cX8_clearRange 99 = .ok (.iconst (-1), 1) := by decide +kernel
theorem dX8_clearRange_100 : decode cX8_clearRange 100 = .ok (.invokevirtual 150, 3) := by decide +kernel
theorem dX8_clearRange_103 : decode cX8_clearRange 103 = .ok (.iinc 4 1, 3) := by decide +kernel
theorem dX8_clearRange_106 : decode cX8_clearRange 106 = .ok (.goto (-30), 3) := by decide +kernel
theorem dX8_clearRange_109 : decode cX8_clearRange 109 = .ok (.iload_n 3, 1) := by decide +kernel
theorem dX8_clearRange_110 : decode cX8_clearRange 110 = .ok (.ireturn, 1) := by decide +kernel
theorem tl_X8_168 : Cond.methodLink RX8 168 yX8_hasRow ∈ TMW := tm_in 1824 (by decide +kernel) (by decide +kernel)
theorem ti_X8_hasRow : Cond.instanceMethod yX8_hasRow ∈ TMW := tm_in 1826 (by decide +kernel) (by decide +kernel)
theorem ts_X8_hasRow : Cond.selects RX8 yX8_hasRow yX8_hasRow ∈ TMW := tm_in 64 (by decide +kernel) (by decide +kernel)
theorem tc_X8_hasRow : Cond.code yX8_hasRow cX8_hasRow 4 (some .boolean) ∈ TMW := tm_in 1827 (by decide +kernel) (by decide +kernel)
def f_X8_clearRange_64 (s0 : Int32) (v : tmM) : Option (Int32 × tmM) := tm_cl (f_X8_refuses s0 v) fun r13 v12 => some (r13, v12)
set_option maxRecDepth 100000 in
set_option maxHeartbeats 4000000 in
theorem w_X8_clearRange_64 {p : Program} {l : Launch} {e : Env} {s : State} {m : MethodId} {args : Array Value} {below : List Frame} {meth : Method} {c : Code} {D : va_G} {cy : Nat → ClassId} {ad : Nat → Nat} {A : Nat → Prop} {z : (Int32 × tmM)} (C0 : tmC p s m args meth c cX8_clearRange 5 (some .int) RX8 TMW tm_NWR D cy tm_shR ad 13 [] A) (s0 : Int32) (v : tmM) : tmG p l e ({ frames := 5, cells := 0, slots := 0, locals := 112 } : Room) s m args below meth c 0 0 (MQ below (va_Qi (fun r u => z = (r, u)) (tmAt tm_shR 13 D cy ad A) A) args s 0 0 A) 5 D cy tm_shR ad 13 [] A z 64 [] [.int s0, .ref (ad 0)] v (f_X8_clearRange_64 s0 v) := by
  unfold f_X8_clearRange_64
  refine tg_callVi (As := [.int s0]) 0 1 C0 dX8_clearRange_64 (c_X8_refuses l s0 v) rfl rfl (by decide) rfl rfl (tm_gV tl_X8_165 ti_X8_refuses ts_X8_refuses tn_X8 tc_X8_refuses)  rfl rfl rfl rfl (by decide +kernel) ⟨by decide, by decide⟩ (Nat.le_of_ble_eq_true rfl) ⟨by decide, by decide⟩ (fun r13 v12 _ => ?_)
  exact tg_iret C0 dX8_clearRange_67
def f_X8_clearRange_46 (v : tmM) : Option (Int32 × tmM) := tm_cl (f_X8_leads v) fun r9 v8 => tm_cl (f_X8_isUp r9 v8) fun r11 v10 => (if r11 = 0 then f_X8_clearRange_64 1 v10 else f_X8_clearRange_64 8 v10)
set_option maxRecDepth 100000 in
set_option maxHeartbeats 4000000 in
theorem w_X8_clearRange_46 {p : Program} {l : Launch} {e : Env} {s : State} {m : MethodId} {args : Array Value} {below : List Frame} {meth : Method} {c : Code} {D : va_G} {cy : Nat → ClassId} {ad : Nat → Nat} {A : Nat → Prop} {z : (Int32 × tmM)} (C0 : tmC p s m args meth c cX8_clearRange 5 (some .int) RX8 TMW tm_NWR D cy tm_shR ad 13 [] A) (v : tmM) : tmG p l e ({ frames := 5, cells := 0, slots := 0, locals := 112 } : Room) s m args below meth c 0 0 (MQ below (va_Qi (fun r u => z = (r, u)) (tmAt tm_shR 13 D cy ad A) A) args s 0 0 A) 5 D cy tm_shR ad 13 [] A z 46 [(0, .ref (ad 0))] [] v (f_X8_clearRange_46 v) := by
  unfold f_X8_clearRange_46
  refine tg_aload_n 0 C0 dX8_clearRange_46 rfl rfl ?_
  refine tg_aload_n 0 C0 dX8_clearRange_47 rfl rfl ?_
  refine tg_aload_n 0 C0 dX8_clearRange_48 rfl rfl ?_
  refine tg_callVi (As := []) 0 0 C0 dX8_clearRange_49 (c_X8_leads l v) rfl rfl (by decide) rfl rfl (tm_gV tl_X8_89 ti_X8_leads ts_X8_leads tn_X8 tc_X8_leads)  rfl rfl rfl rfl (by decide +kernel) ⟨by decide, by decide⟩ (Nat.le_of_ble_eq_true rfl) ⟨by decide, by decide⟩ (fun r9 v8 _ => ?_)
  refine tg_callVi (As := [.int r9]) 0 1 C0 dX8_clearRange_52 (c_X8_isUp l r9 v8) rfl rfl (by decide) rfl rfl (tm_gV tl_X8_113 ti_X8_isUp ts_X8_isUp tn_X8 tc_X8_isUp)  rfl rfl rfl rfl (by decide +kernel) ⟨by decide, by decide⟩ (Nat.le_of_ble_eq_true rfl) ⟨by decide, by decide⟩ (fun r11 v10 _ => ?_)
  refine tg_if_eq 63 C0 dX8_clearRange_55 (by decide) (fun _ => ?_) (fun _ => ?_)
  · refine tg_iconst (x := 1) C0 dX8_clearRange_63 (by decide) ?_
    refine tg_sub [] rfl ?_
    exact w_X8_clearRange_64 C0 1 v10
  · refine tg_bipush (x := 8) C0 dX8_clearRange_58 (by decide) ?_
    refine tg_goto 64 C0 dX8_clearRange_60 (by decide) ?_
    refine tg_sub [] rfl ?_
    exact w_X8_clearRange_64 C0 8 v10
def f_X8_clearRange_103 (K0 : Int32 → tmM → Option (Int32 × tmM)) (L : Int32 → Int32 → Int32 → tmM → Option (Int32 × tmM)) (x2 x3 x4 : Int32) (v : tmM) : Option (Int32 × tmM) := L x2 x3 (x4 + 1) v
set_option maxRecDepth 100000 in
set_option maxHeartbeats 4000000 in
theorem w_X8_clearRange_103 {p : Program} {l : Launch} {e : Env} {s : State} {m : MethodId} {args : Array Value} {below : List Frame} {meth : Method} {c : Code} {D : va_G} {cy : Nat → ClassId} {ad : Nat → Nat} {A : Nat → Prop} {z : (Int32 × tmM)} {K0 : Int32 → tmM → Option (Int32 × tmM)} {L : Int32 → Int32 → Int32 → tmM → Option (Int32 × tmM)} (C0 : tmC p s m args meth c cX8_clearRange 5 (some .int) RX8 TMW tm_NWR D cy tm_shR ad 13 [] A) (hK0 : ∀ (a3 : Int32) (w : tmM), tmG p l e ({ frames := 5, cells := 0, slots := 0, locals := 112 } : Room) s m args below meth c 0 0 (MQ below (va_Qi (fun r u => z = (r, u)) (tmAt tm_shR 13 D cy ad A) A) args s 0 0 A) 5 D cy tm_shR ad 13 [] A z 109 [(3, .int a3)] [] w (K0 a3 w)) (hL : ∀ (a2 a3 a4 : Int32) (w : tmM), tmG p l e ({ frames := 5, cells := 0, slots := 0, locals := 112 } : Room) s m args below meth c 0 0 (MQ below (va_Qi (fun r u => z = (r, u)) (tmAt tm_shR 13 D cy ad A) A) args s 0 0 A) 5 D cy tm_shR ad 13 [] A z 76 [(0, .ref (ad 0)), (2, .int a2), (3, .int a3), (4, .int a4)] [] w (L a2 a3 a4 w)) (x2 x3 x4 : Int32) (v : tmM) : tmG p l e ({ frames := 5, cells := 0, slots := 0, locals := 112 } : Room) s m args below meth c 0 0 (MQ below (va_Qi (fun r u => z = (r, u)) (tmAt tm_shR 13 D cy ad A) A) args s 0 0 A) 5 D cy tm_shR ad 13 [] A z 103 [(0, .ref (ad 0)), (2, .int x2), (3, .int x3), (4, .int x4)] [] v (f_X8_clearRange_103 K0 L x2 x3 x4 v) := by
  unfold f_X8_clearRange_103
  refine tg_iinc [(4, .int (x4 + 1)), (0, .ref (ad 0)), (2, .int x2), (3, .int x3)] 3 C0 dX8_clearRange_103 rfl rfl (by decide) rfl ?_
  refine tg_goto 76 C0 dX8_clearRange_106 (by decide) ?_
  refine tg_sub [1, 2, 3, 0] rfl ?_
  exact hL x2 x3 (x4 + 1) v
def f_X8_clearRange_76b (K0 : Int32 → tmM → Option (Int32 × tmM)) (L : Int32 → Int32 → Int32 → tmM → Option (Int32 × tmM)) (x2 x3 x4 : Int32) (v : tmM) : Option (Int32 × tmM) := (if x2 < x4 then K0 x3 v else tm_cl (f_X8_leads v) fun r19 v18 => tm_cl (f_X8_valueIn r19 x4 v18) fun r21 v20 => (if r21 = (-1) then f_X8_clearRange_103 K0 L x2 x3 x4 v20 else tm_cl (f_X8_writesRow x4 (-1) v20) fun _ v22 => f_X8_clearRange_103 K0 L x2 x3 x4 v22))
set_option maxRecDepth 100000 in
set_option maxHeartbeats 4000000 in
theorem w_X8_clearRange_76b {p : Program} {l : Launch} {e : Env} {s : State} {m : MethodId} {args : Array Value} {below : List Frame} {meth : Method} {c : Code} {D : va_G} {cy : Nat → ClassId} {ad : Nat → Nat} {A : Nat → Prop} {z : (Int32 × tmM)} {K0 : Int32 → tmM → Option (Int32 × tmM)} {L : Int32 → Int32 → Int32 → tmM → Option (Int32 × tmM)} (C0 : tmC p s m args meth c cX8_clearRange 5 (some .int) RX8 TMW tm_NWR D cy tm_shR ad 13 [] A) (hK0 : ∀ (a3 : Int32) (w : tmM), tmG p l e ({ frames := 5, cells := 0, slots := 0, locals := 112 } : Room) s m args below meth c 0 0 (MQ below (va_Qi (fun r u => z = (r, u)) (tmAt tm_shR 13 D cy ad A) A) args s 0 0 A) 5 D cy tm_shR ad 13 [] A z 109 [(3, .int a3)] [] w (K0 a3 w)) (hL : ∀ (a2 a3 a4 : Int32) (w : tmM), tmG p l e ({ frames := 5, cells := 0, slots := 0, locals := 112 } : Room) s m args below meth c 0 0 (MQ below (va_Qi (fun r u => z = (r, u)) (tmAt tm_shR 13 D cy ad A) A) args s 0 0 A) 5 D cy tm_shR ad 13 [] A z 76 [(0, .ref (ad 0)), (2, .int a2), (3, .int a3), (4, .int a4)] [] w (L a2 a3 a4 w)) (x2 x3 x4 : Int32) (v : tmM) : tmG p l e ({ frames := 5, cells := 0, slots := 0, locals := 112 } : Room) s m args below meth c 0 0 (MQ below (va_Qi (fun r u => z = (r, u)) (tmAt tm_shR 13 D cy ad A) A) args s 0 0 A) 5 D cy tm_shR ad 13 [] A z 76 [(0, .ref (ad 0)), (2, .int x2), (3, .int x3), (4, .int x4)] [] v (f_X8_clearRange_76b K0 L x2 x3 x4 v) := by
  unfold f_X8_clearRange_76b
  refine tg_iload 3 C0 dX8_clearRange_76 rfl ?_
  refine tg_iload_n 1 C0 dX8_clearRange_78 rfl rfl ?_
  refine tg_icmp_gt 109 C0 dX8_clearRange_79 (by decide) (fun _ => ?_) (fun _ => ?_)
  · refine tg_sub [2] rfl ?_
    exact hK0 x3 v
  · refine tg_aload_n 0 C0 dX8_clearRange_82 rfl rfl ?_
    refine tg_aload_n 0 C0 dX8_clearRange_83 rfl rfl ?_
    refine tg_callVi (As := []) 0 0 C0 dX8_clearRange_84 (c_X8_leads l v) rfl rfl (by decide) rfl rfl (tm_gV tl_X8_89 ti_X8_leads ts_X8_leads tn_X8 tc_X8_leads)  rfl rfl rfl rfl (by decide +kernel) ⟨by decide, by decide⟩ (Nat.le_of_ble_eq_true rfl) ⟨by decide, by decide⟩ (fun r19 v18 _ => ?_)
    refine tg_iload 3 C0 dX8_clearRange_87 rfl ?_
    refine tg_callVi (As := [.int r19, .int x4]) 0 2 C0 dX8_clearRange_89 (c_X8_valueIn l r19 x4 v18) rfl rfl (by decide) rfl rfl (tm_gV tl_X8_74 ti_X8_valueIn ts_X8_valueIn tn_X8 tc_X8_valueIn)  rfl rfl rfl rfl (by decide +kernel) ⟨by decide, by decide⟩ (Nat.le_of_ble_eq_true rfl) ⟨by decide, by decide⟩ (fun r21 v20 _ => ?_)
    refine tg_iconst (x := (-1)) C0 dX8_clearRange_92 (by decide) ?_
    refine tg_icmp_eq 103 C0 dX8_clearRange_93 (by decide) (fun _ => ?_) (fun _ => ?_)
    · exact w_X8_clearRange_103 C0 hK0 hL x2 x3 x4 v20
    · refine tg_aload_n 0 C0 dX8_clearRange_96 rfl rfl ?_
      refine tg_iload 3 C0 dX8_clearRange_97 rfl ?_
      refine tg_iconst (x := (-1)) C0 dX8_clearRange_99 (by decide) ?_
      refine tg_callVv (As := [.int x4, .int (-1)]) 0 2 C0 dX8_clearRange_100 (c_X8_writesRow l x4 (-1) v20) rfl rfl (by decide) rfl rfl (tm_gV tl_X8_150 ti_X8_writesRow ts_X8_writesRow tn_X8 tc_X8_writesRow)  rfl rfl rfl rfl (by decide +kernel) ⟨by decide, by decide⟩ (Nat.le_of_ble_eq_true rfl) ⟨by decide, by decide⟩ (fun v22 _ => ?_)
      exact w_X8_clearRange_103 C0 hK0 hL x2 x3 x4 v22
def f_X8_clearRange_76 (K0 : Int32 → tmM → Option (Int32 × tmM)) : Nat → Int32 → Int32 → Int32 → tmM → Option (Int32 × tmM)
  | 0 => fun _ _ _ _ => none
  | n + 1 => f_X8_clearRange_76b K0 (f_X8_clearRange_76 K0 n)
theorem w_X8_clearRange_76 {p : Program} {l : Launch} {e : Env} {s : State} {m : MethodId} {args : Array Value} {below : List Frame} {meth : Method} {c : Code} {D : va_G} {cy : Nat → ClassId} {ad : Nat → Nat} {A : Nat → Prop} {z : (Int32 × tmM)} {K0 : Int32 → tmM → Option (Int32 × tmM)} (C0 : tmC p s m args meth c cX8_clearRange 5 (some .int) RX8 TMW tm_NWR D cy tm_shR ad 13 [] A) (hK0 : ∀ (a3 : Int32) (w : tmM), tmG p l e ({ frames := 5, cells := 0, slots := 0, locals := 112 } : Room) s m args below meth c 0 0 (MQ below (va_Qi (fun r u => z = (r, u)) (tmAt tm_shR 13 D cy ad A) A) args s 0 0 A) 5 D cy tm_shR ad 13 [] A z 109 [(3, .int a3)] [] w (K0 a3 w)) (nn : Nat) : ∀ (x2 x3 x4 : Int32) (v : tmM), tmG p l e ({ frames := 5, cells := 0, slots := 0, locals := 112 } : Room) s m args below meth c 0 0 (MQ below (va_Qi (fun r u => z = (r, u)) (tmAt tm_shR 13 D cy ad A) A) args s 0 0 A) 5 D cy tm_shR ad 13 [] A z 76 [(0, .ref (ad 0)), (2, .int x2), (3, .int x3), (4, .int x4)] [] v (f_X8_clearRange_76 K0 nn x2 x3 x4 v) := by
  induction nn with
  | zero => intro _ _ _ _; exact tg_none
  | succ n ih => intro x2 x3 x4 v; exact w_X8_clearRange_76b C0 hK0 ih x2 x3 x4 v
def f_X8_clearRange_14 (x1 x2 s0 : Int32) (v : tmM) : Option (Int32 × tmM) := tm_lt (tm_up v 0 0 s0) fun v3 => (if (v3 0 0) ≤ 0 then tm_cl (f_X8_leads v3) fun r5 v4 => tm_cl (f_X8_isUp r5 v4) fun r7 v6 => (if r7 = 0 then f_X8_clearRange_46 v6 else tm_cl (f_X8_hasRow x1 x2 v6) fun r15 v14 => (if r15 = 0 then f_X8_clearRange_46 v14 else tm_cl (f_X8_does v14) fun r17 v16 => f_X8_clearRange_76 (fun x24 v25 => some (x24, v25)) 10000 x2 r17 x1 v16)) else some (0, v3))
set_option maxRecDepth 100000 in
set_option maxHeartbeats 4000000 in
theorem w_X8_clearRange_14 {p : Program} {l : Launch} {e : Env} {s : State} {m : MethodId} {args : Array Value} {below : List Frame} {meth : Method} {c : Code} {D : va_G} {cy : Nat → ClassId} {ad : Nat → Nat} {A : Nat → Prop} {z : (Int32 × tmM)} (C0 : tmC p s m args meth c cX8_clearRange 5 (some .int) RX8 TMW tm_NWR D cy tm_shR ad 13 [] A) (x1 x2 s0 : Int32) (v : tmM) : tmG p l e ({ frames := 5, cells := 0, slots := 0, locals := 112 } : Room) s m args below meth c 0 0 (MQ below (va_Qi (fun r u => z = (r, u)) (tmAt tm_shR 13 D cy ad A) A) args s 0 0 A) 5 D cy tm_shR ad 13 [] A z 14 [(0, .ref (ad 0)), (1, .int x1), (2, .int x2)] [.int s0, .ref (ad 0)] v (f_X8_clearRange_14 x1 x2 s0 v) := by
  unfold f_X8_clearRange_14
  refine tg_put 0 0 C0 dX8_clearRange_14 (by decide) rfl rfl tu_X8 tyX8_ok nmX8 (by decide) tf_X8_56 rfl rfl rfl rfl rfl rfl ?_
  refine tg_letm (fun v3 _ => ?_)
  refine tg_aload_n 0 C0 dX8_clearRange_17 rfl rfl ?_
  refine tg_get 0 0 C0 dX8_clearRange_18 (by decide) rfl rfl tu_X8 (by decide) tf_X8_56 rfl rfl rfl ?_
  refine tg_if_le 26 C0 dX8_clearRange_21 (by decide) (fun _ => ?_) (fun _ => ?_)
  · refine tg_aload_n 0 C0 dX8_clearRange_26 rfl rfl ?_
    refine tg_aload_n 0 C0 dX8_clearRange_27 rfl rfl ?_
    refine tg_callVi (As := []) 0 0 C0 dX8_clearRange_28 (c_X8_leads l v3) rfl rfl (by decide) rfl rfl (tm_gV tl_X8_89 ti_X8_leads ts_X8_leads tn_X8 tc_X8_leads)  rfl rfl rfl rfl (by decide +kernel) ⟨by decide, by decide⟩ (Nat.le_of_ble_eq_true rfl) ⟨by decide, by decide⟩ (fun r5 v4 _ => ?_)
    refine tg_callVi (As := [.int r5]) 0 1 C0 dX8_clearRange_31 (c_X8_isUp l r5 v4) rfl rfl (by decide) rfl rfl (tm_gV tl_X8_113 ti_X8_isUp ts_X8_isUp tn_X8 tc_X8_isUp)  rfl rfl rfl rfl (by decide +kernel) ⟨by decide, by decide⟩ (Nat.le_of_ble_eq_true rfl) ⟨by decide, by decide⟩ (fun r7 v6 _ => ?_)
    refine tg_if_eq 46 C0 dX8_clearRange_34 (by decide) (fun _ => ?_) (fun _ => ?_)
    · refine tg_sub [0] rfl ?_
      exact w_X8_clearRange_46 C0 v6
    · refine tg_aload_n 0 C0 dX8_clearRange_37 rfl rfl ?_
      refine tg_iload_n 1 C0 dX8_clearRange_38 rfl rfl ?_
      refine tg_iload_n 2 C0 dX8_clearRange_39 rfl rfl ?_
      refine tg_callVi (As := [.int x1, .int x2]) 0 2 C0 dX8_clearRange_40 (c_X8_hasRow l x1 x2 v6) rfl rfl (by decide) rfl rfl (tm_gV tl_X8_168 ti_X8_hasRow ts_X8_hasRow tn_X8 tc_X8_hasRow)  rfl rfl rfl rfl (by decide +kernel) ⟨by decide, by decide⟩ (Nat.le_of_ble_eq_true rfl) ⟨by decide, by decide⟩ (fun r15 v14 _ => ?_)
      refine tg_if_ne 68 C0 dX8_clearRange_43 (by decide) (fun _ => ?_) (fun _ => ?_)
      · refine tg_aload_n 0 C0 dX8_clearRange_68 rfl rfl ?_
        refine tg_callVi (As := []) 0 0 C0 dX8_clearRange_69 (c_X8_does l v14) rfl rfl (by decide) rfl rfl (tm_gV tl_X8_147 ti_X8_does ts_X8_does tn_X8 tc_X8_does)  rfl rfl rfl rfl (by decide +kernel) ⟨by decide, by decide⟩ (Nat.le_of_ble_eq_true rfl) ⟨by decide, by decide⟩ (fun r17 v16 _ => ?_)
        refine tg_istore_n [(3, .int r17), (0, .ref (ad 0)), (1, .int x1), (2, .int x2)] C0 dX8_clearRange_72 rfl (by decide) rfl ?_
        refine tg_iload_n 2 C0 dX8_clearRange_73 rfl rfl ?_
        refine tg_istore [(4, .int x1), (3, .int r17), (0, .ref (ad 0)), (1, .int x1), (2, .int x2)] C0 dX8_clearRange_74 (by decide) rfl ?_
        refine tg_sub [2, 4, 1, 0] rfl ?_
        refine w_X8_clearRange_76 C0 (fun x24 v25 => ?_) 10000 x2 r17 x1 v16
        refine tg_iload_n 0 C0 dX8_clearRange_109 rfl rfl ?_
        exact tg_iret C0 dX8_clearRange_110
      · refine tg_sub [0] rfl ?_
        exact w_X8_clearRange_46 C0 v14
  · refine tg_iconst (x := 0) C0 dX8_clearRange_24 (by decide) ?_
    exact tg_iret C0 dX8_clearRange_25
def f_X8_clearRange (x1 x2 : Int32) (v : tmM) : Option (Int32 × tmM) := tm_cl (f_X8_isRange x1 x2 v) fun r2 v1 => (if r2 = 0 then f_X8_clearRange_14 x1 x2 1 v1 else f_X8_clearRange_14 x1 x2 0 v1)
set_option maxRecDepth 100000 in
set_option maxHeartbeats 4000000 in
theorem w_X8_clearRange {p : Program} {l : Launch} {e : Env} {s : State} {m : MethodId} {args : Array Value} {below : List Frame} {meth : Method} {c : Code} {D : va_G} {cy : Nat → ClassId} {ad : Nat → Nat} {A : Nat → Prop} {z : (Int32 × tmM)} (C0 : tmC p s m args meth c cX8_clearRange 5 (some .int) RX8 TMW tm_NWR D cy tm_shR ad 13 [] A) (x1 x2 : Int32) (v : tmM) : tmG p l e ({ frames := 5, cells := 0, slots := 0, locals := 112 } : Room) s m args below meth c 0 0 (MQ below (va_Qi (fun r u => z = (r, u)) (tmAt tm_shR 13 D cy ad A) A) args s 0 0 A) 5 D cy tm_shR ad 13 [] A z 0 [(0, .ref (ad 0)), (1, .int x1), (2, .int x2)] [] v (f_X8_clearRange x1 x2 v) := by
  unfold f_X8_clearRange
  refine tg_aload_n 0 C0 dX8_clearRange_0 rfl rfl ?_
  refine tg_iload_n 1 C0 dX8_clearRange_1 rfl rfl ?_
  refine tg_iload_n 2 C0 dX8_clearRange_2 rfl rfl ?_
  refine tg_callSi (As := [.int x1, .int x2]) 2 C0 dX8_clearRange_3 (c_X8_isRange l x1 x2 v) rfl rfl (tm_gc tc_X8_isRange) tl_X8_162 tn_X8 tst_X8_isRange  rfl rfl rfl rfl (by decide +kernel) ⟨by decide, by decide⟩ (Nat.le_of_ble_eq_true rfl) ⟨by decide, by decide⟩ (fun r2 v1 _ => ?_)
  refine tg_if_eq 13 C0 dX8_clearRange_6 (by decide) (fun _ => ?_) (fun _ => ?_)
  · refine tg_iconst (x := 1) C0 dX8_clearRange_13 (by decide) ?_
    exact w_X8_clearRange_14 C0 x1 x2 1 v1
  · refine tg_iconst (x := 0) C0 dX8_clearRange_9 (by decide) ?_
    refine tg_goto 14 C0 dX8_clearRange_10 (by decide) ?_
    exact w_X8_clearRange_14 C0 x1 x2 0 v1
theorem c_X8_clearRange (l : Launch) (x1 x2 : Int32) (v : tmM) : tmMi tm_NWR tm_shR 13 l yX8_clearRange (Cond.code yX8_clearRange cX8_clearRange 5 (some .int) :: TMW) ({ frames := 5, cells := 0, slots := 0, locals := 112 } : Room) (fun ad => [.ref (ad 0), .int x1, .int x2]) v (f_X8_clearRange x1 x2 v) :=
  tmMi.of (cc := cX8_clearRange) (nL := 5) (by decide +kernel) rfl tm_NWR_ok (fun _ => Nat.le_of_ble_eq_true rfl) (fun p e s m args below meth c A D cy ad z C0 => w_X8_clearRange C0 x1 x2 v)
-- ----- X8_puts
theorem dX8_puts_0 : decode cX8_puts 0 = .ok (.aload_n 0, 1) := by decide +kernel
theorem dX8_puts_1 : decode cX8_puts 1 = .ok (.aload_n 0, 1) := by decide +kernel
theorem dX8_puts_2 : decode cX8_puts 2 = .ok (.invokevirtual 89, 3) := by decide +kernel
theorem dX8_puts_5 : decode cX8_puts 5 = .ok (.invokevirtual 113, 3) := by decide +kernel
theorem dX8_puts_8 : decode cX8_puts 8 = .ok (.ifCond .eq 12, 3) := by decide +kernel
theorem dX8_puts_11 : decode cX8_puts 11 = .ok (.aload_n 0, 1) := by decide +kernel
theorem dX8_puts_12 : decode cX8_puts 12 = .ok (.iload_n 1, 1) := by decide +kernel
theorem dX8_puts_13 : decode cX8_puts 13 = .ok (.iload_n 2, 1) := by decide +kernel
theorem dX8_puts_14 : decode cX8_puts 14 = .ok (.invokevirtual 171, 3) := by decide +kernel
theorem dX8_puts_17 : decode cX8_puts 17 = .ok (.goto 8, 3) := by decide +kernel
theorem dX8_puts_20 : decode cX8_puts 20 = .ok (.aload_n 0, 1) := by decide +kernel
theorem dX8_puts_21 : decode cX8_puts 21 = .ok (.iconst 1, 1) := by decide +kernel
theorem dX8_puts_22 : decode cX8_puts 22 = .ok (.invokevirtual 165, 3) := by decide +kernel
theorem dX8_puts_25 : decode cX8_puts 25 = .ok (.ireturn, 1) := by decide +kernel
theorem tl_X8_171 : Cond.methodLink RX8 171 yX8_writes ∈ TMW := tm_in 1836 (by decide +kernel) (by decide +kernel)
theorem ti_X8_writes : Cond.instanceMethod yX8_writes ∈ TMW := tm_in 1838 (by decide +kernel) (by decide +kernel)
theorem ts_X8_writes : Cond.selects RX8 yX8_writes yX8_writes ∈ TMW := tm_in 66 (by decide +kernel) (by decide +kernel)
theorem tc_X8_writes : Cond.code yX8_writes cX8_writes 4 (some .int) ∈ TMW := tm_in 1839 (by decide +kernel) (by decide +kernel)
def f_X8_puts (x1 x2 : Int32) (v : tmM) : Option (Int32 × tmM) := tm_cl (f_X8_leads v) fun r2 v1 => tm_cl (f_X8_isUp r2 v1) fun r4 v3 => (if r4 = 0 then tm_cl (f_X8_refuses 1 v3) fun r6 v5 => some (r6, v5) else tm_cl (f_X8_writes x1 x2 v3) fun r8 v7 => some (r8, v7))
set_option maxRecDepth 100000 in
set_option maxHeartbeats 4000000 in
theorem w_X8_puts {p : Program} {l : Launch} {e : Env} {s : State} {m : MethodId} {args : Array Value} {below : List Frame} {meth : Method} {c : Code} {D : va_G} {cy : Nat → ClassId} {ad : Nat → Nat} {A : Nat → Prop} {z : (Int32 × tmM)} (C0 : tmC p s m args meth c cX8_puts 3 (some .int) RX8 TMW tm_NWR D cy tm_shR ad 13 [] A) (x1 x2 : Int32) (v : tmM) : tmG p l e ({ frames := 6, cells := 0, slots := 0, locals := 135 } : Room) s m args below meth c 0 0 (MQ below (va_Qi (fun r u => z = (r, u)) (tmAt tm_shR 13 D cy ad A) A) args s 0 0 A) 3 D cy tm_shR ad 13 [] A z 0 [(0, .ref (ad 0)), (1, .int x1), (2, .int x2)] [] v (f_X8_puts x1 x2 v) := by
  unfold f_X8_puts
  refine tg_aload_n 0 C0 dX8_puts_0 rfl rfl ?_
  refine tg_aload_n 0 C0 dX8_puts_1 rfl rfl ?_
  refine tg_callVi (As := []) 0 0 C0 dX8_puts_2 (c_X8_leads l v) rfl rfl (by decide) rfl rfl (tm_gV tl_X8_89 ti_X8_leads ts_X8_leads tn_X8 tc_X8_leads)  rfl rfl rfl rfl (by decide +kernel) ⟨by decide, by decide⟩ (Nat.le_of_ble_eq_true rfl) ⟨by decide, by decide⟩ (fun r2 v1 _ => ?_)
  refine tg_callVi (As := [.int r2]) 0 1 C0 dX8_puts_5 (c_X8_isUp l r2 v1) rfl rfl (by decide) rfl rfl (tm_gV tl_X8_113 ti_X8_isUp ts_X8_isUp tn_X8 tc_X8_isUp)  rfl rfl rfl rfl (by decide +kernel) ⟨by decide, by decide⟩ (Nat.le_of_ble_eq_true rfl) ⟨by decide, by decide⟩ (fun r4 v3 _ => ?_)
  refine tg_if_eq 20 C0 dX8_puts_8 (by decide) (fun _ => ?_) (fun _ => ?_)
  · refine tg_aload_n 0 C0 dX8_puts_20 rfl rfl ?_
    refine tg_iconst (x := 1) C0 dX8_puts_21 (by decide) ?_
    refine tg_callVi (As := [.int 1]) 0 1 C0 dX8_puts_22 (c_X8_refuses l 1 v3) rfl rfl (by decide) rfl rfl (tm_gV tl_X8_165 ti_X8_refuses ts_X8_refuses tn_X8 tc_X8_refuses)  rfl rfl rfl rfl (by decide +kernel) ⟨by decide, by decide⟩ (Nat.le_of_ble_eq_true rfl) ⟨by decide, by decide⟩ (fun r6 v5 _ => ?_)
    exact tg_iret C0 dX8_puts_25
  · refine tg_aload_n 0 C0 dX8_puts_11 rfl rfl ?_
    refine tg_iload_n 1 C0 dX8_puts_12 rfl rfl ?_
    refine tg_iload_n 2 C0 dX8_puts_13 rfl rfl ?_
    refine tg_callVi (As := [.int x1, .int x2]) 0 2 C0 dX8_puts_14 (c_X8_writes l x1 x2 v3) rfl rfl (by decide) rfl rfl (tm_gV tl_X8_171 ti_X8_writes ts_X8_writes tn_X8 tc_X8_writes)  rfl rfl rfl rfl (by decide +kernel) ⟨by decide, by decide⟩ (Nat.le_of_ble_eq_true rfl) ⟨by decide, by decide⟩ (fun r8 v7 _ => ?_)
    refine tg_goto 25 C0 dX8_puts_17 (by decide) ?_
    exact tg_iret C0 dX8_puts_25
theorem c_X8_puts (l : Launch) (x1 x2 : Int32) (v : tmM) : tmMi tm_NWR tm_shR 13 l yX8_puts (Cond.code yX8_puts cX8_puts 3 (some .int) :: TMW) ({ frames := 6, cells := 0, slots := 0, locals := 135 } : Room) (fun ad => [.ref (ad 0), .int x1, .int x2]) v (f_X8_puts x1 x2 v) :=
  tmMi.of (cc := cX8_puts) (nL := 3) (by decide +kernel) rfl tm_NWR_ok (fun _ => Nat.le_of_ble_eq_true rfl) (fun p e s m args below meth c A D cy ad z C0 => w_X8_puts C0 x1 x2 v)
-- ----- X8_put
theorem dX8_put_0 : decode cX8_put 0 = .ok (.aload_n 0, 1) := by decide +kernel
theorem dX8_put_1 : decode cX8_put 1 = .ok (.iload_n 1, 1) := by decide +kernel
theorem dX8_put_2 : decode cX8_put 2 = .ok (.invokestatic 116, 3) := by decide +kernel
theorem dX8_put_5 : decode cX8_put 5 = .ok (.ifCond .ne 7, 3) := by decide +kernel
theorem dX8_put_8 : decode cX8_put 8 = .ok (.iconst 1, 1) := by decide +kernel
theorem dX8_put_9 : decode cX8_put 9 = .ok (.goto 19, 3) := by decide +kernel
theorem dX8_put_12 : decode cX8_put 12 = .ok (.iload_n 2, 1) := by decide +kernel
theorem dX8_put_13 : decode cX8_put 13 = .ok (.iconst 0, 1) := by decide +kernel
theorem dX8_put_14 : decode cX8_put 14 = .ok (.sipush 999, 3) := by decide +kernel
theorem dX8_put_17 : decode cX8_put 17 = .ok (.invokestatic 63, 3) := by decide +kernel
theorem dX8_put_20 : decode cX8_put 20 = .ok (.ifCond .eq 7, 3) := by decide +kernel
theorem dX8_put_23 : decode cX8_put 23 = .ok (.iconst 0, 1) := by decide +kernel
theorem dX8_put_24 : decode cX8_put 24 = .ok (.goto 4, 3) := by decide +kernel
theorem dX8_put_27 : decode cX8_put 27 = .ok (.iconst 2, 1) := by decide +kernel
theorem dX8_put_28 : decode cX8_put 28 = .ok (.putfield 56, 3) := by decide +kernel
theorem dX8_put_31 : decode cX8_put 31 = .ok (.aload_n 0, 1) := by decide +kernel
theorem dX8_put_32 : decode cX8_put 32 = .ok (.getfield 56, 3) := by decide +kernel
theorem dX8_put_35 : decode cX8_put 35 = .ok (.ifCond .le 7, 3) := by decide +kernel
theorem dX8_put_38 : decode cX8_put 38 = .ok (.iconst 0, 1) := by decide +kernel
theorem dX8_put_39 : decode cX8_put 39 = .ok (.goto 9, 3) := by decide +kernel
theorem dX8_put_42 : decode cX8_put 42 = .ok (.aload_n 0, 1) := by decide +kernel
theorem dX8_put_43 : decode cX8_put 43 = .ok (.iload_n 1, 1) := by decide +kernel
theorem dX8_put_44 : decode cX8_put 44 = .ok (.iload_n 2, 1) := by decide +kernel
theorem dX8_put_45 : decode cX8_put 45 = .ok (.invokevirtual 174, 3) := by decide +kernel
theorem dX8_put_48 : decode cX8_put 48 = .ok (.ireturn, 1) := by decide +kernel
theorem tl_X8_174 : Cond.methodLink RX8 174 yX8_puts ∈ TMW := tm_in 1832 (by decide +kernel) (by decide +kernel)
theorem ti_X8_puts : Cond.instanceMethod yX8_puts ∈ TMW := tm_in 1834 (by decide +kernel) (by decide +kernel)
theorem ts_X8_puts : Cond.selects RX8 yX8_puts yX8_puts ∈ TMW := tm_in 65 (by decide +kernel) (by decide +kernel)
theorem tc_X8_puts : Cond.code yX8_puts cX8_puts 3 (some .int) ∈ TMW := tm_in 1835 (by decide +kernel) (by decide +kernel)
def f_X8_put_28 (x1 x2 s0 : Int32) (v : tmM) : Option (Int32 × tmM) := tm_lt (tm_up v 0 0 s0) fun v5 => (if (v5 0 0) ≤ 0 then tm_cl (f_X8_puts x1 x2 v5) fun r7 v6 => some (r7, v6) else some (0, v5))
set_option maxRecDepth 100000 in
set_option maxHeartbeats 4000000 in
theorem w_X8_put_28 {p : Program} {l : Launch} {e : Env} {s : State} {m : MethodId} {args : Array Value} {below : List Frame} {meth : Method} {c : Code} {D : va_G} {cy : Nat → ClassId} {ad : Nat → Nat} {A : Nat → Prop} {z : (Int32 × tmM)} (C0 : tmC p s m args meth c cX8_put 3 (some .int) RX8 TMW tm_NWR D cy tm_shR ad 13 [] A) (x1 x2 s0 : Int32) (v : tmM) : tmG p l e ({ frames := 7, cells := 0, slots := 0, locals := 157 } : Room) s m args below meth c 0 0 (MQ below (va_Qi (fun r u => z = (r, u)) (tmAt tm_shR 13 D cy ad A) A) args s 0 0 A) 3 D cy tm_shR ad 13 [] A z 28 [(0, .ref (ad 0)), (1, .int x1), (2, .int x2)] [.int s0, .ref (ad 0)] v (f_X8_put_28 x1 x2 s0 v) := by
  unfold f_X8_put_28
  refine tg_put 0 0 C0 dX8_put_28 (by decide) rfl rfl tu_X8 tyX8_ok nmX8 (by decide) tf_X8_56 rfl rfl rfl rfl rfl rfl ?_
  refine tg_letm (fun v5 _ => ?_)
  refine tg_aload_n 0 C0 dX8_put_31 rfl rfl ?_
  refine tg_get 0 0 C0 dX8_put_32 (by decide) rfl rfl tu_X8 (by decide) tf_X8_56 rfl rfl rfl ?_
  refine tg_if_le 42 C0 dX8_put_35 (by decide) (fun _ => ?_) (fun _ => ?_)
  · refine tg_aload_n 0 C0 dX8_put_42 rfl rfl ?_
    refine tg_iload_n 1 C0 dX8_put_43 rfl rfl ?_
    refine tg_iload_n 2 C0 dX8_put_44 rfl rfl ?_
    refine tg_callVi (As := [.int x1, .int x2]) 0 2 C0 dX8_put_45 (c_X8_puts l x1 x2 v5) rfl rfl (by decide) rfl rfl (tm_gV tl_X8_174 ti_X8_puts ts_X8_puts tn_X8 tc_X8_puts)  rfl rfl rfl rfl (by decide +kernel) ⟨by decide, by decide⟩ (Nat.le_of_ble_eq_true rfl) ⟨by decide, by decide⟩ (fun r7 v6 _ => ?_)
    exact tg_iret C0 dX8_put_48
  · refine tg_iconst (x := 0) C0 dX8_put_38 (by decide) ?_
    refine tg_goto 48 C0 dX8_put_39 (by decide) ?_
    exact tg_iret C0 dX8_put_48
def f_X8_put (x1 x2 : Int32) (v : tmM) : Option (Int32 × tmM) := tm_cl (f_X8_isKey x1 v) fun r2 v1 => (if r2 = 0 then f_X8_put_28 x1 x2 1 v1 else tm_cl (f_X8_in x2 0 999 v1) fun r4 v3 => (if r4 = 0 then f_X8_put_28 x1 x2 2 v3 else f_X8_put_28 x1 x2 0 v3))
set_option maxRecDepth 100000 in
set_option maxHeartbeats 4000000 in
theorem w_X8_put {p : Program} {l : Launch} {e : Env} {s : State} {m : MethodId} {args : Array Value} {below : List Frame} {meth : Method} {c : Code} {D : va_G} {cy : Nat → ClassId} {ad : Nat → Nat} {A : Nat → Prop} {z : (Int32 × tmM)} (C0 : tmC p s m args meth c cX8_put 3 (some .int) RX8 TMW tm_NWR D cy tm_shR ad 13 [] A) (x1 x2 : Int32) (v : tmM) : tmG p l e ({ frames := 7, cells := 0, slots := 0, locals := 157 } : Room) s m args below meth c 0 0 (MQ below (va_Qi (fun r u => z = (r, u)) (tmAt tm_shR 13 D cy ad A) A) args s 0 0 A) 3 D cy tm_shR ad 13 [] A z 0 [(0, .ref (ad 0)), (1, .int x1), (2, .int x2)] [] v (f_X8_put x1 x2 v) := by
  unfold f_X8_put
  refine tg_aload_n 0 C0 dX8_put_0 rfl rfl ?_
  refine tg_iload_n 1 C0 dX8_put_1 rfl rfl ?_
  refine tg_callSi (As := [.int x1]) 1 C0 dX8_put_2 (c_X8_isKey l x1 v) rfl rfl (tm_gc tc_X8_isKey) tl_X8_116 tn_X8 tst_X8_isKey  rfl rfl rfl rfl (by decide +kernel) ⟨by decide, by decide⟩ (Nat.le_of_ble_eq_true rfl) ⟨by decide, by decide⟩ (fun r2 v1 _ => ?_)
  refine tg_if_ne 12 C0 dX8_put_5 (by decide) (fun _ => ?_) (fun _ => ?_)
  · refine tg_iload_n 2 C0 dX8_put_12 rfl rfl ?_
    refine tg_iconst (x := 0) C0 dX8_put_13 (by decide) ?_
    refine tg_sipush (x := 999) C0 dX8_put_14 (by decide) ?_
    refine tg_callSi (As := [.int x2, .int 0, .int 999]) 3 C0 dX8_put_17 (c_X8_in l x2 0 999 v1) rfl rfl (tm_gc tc_X8_in) tl_X8_63 tn_X8 tst_X8_in  rfl rfl rfl rfl (by decide +kernel) ⟨by decide, by decide⟩ (Nat.le_of_ble_eq_true rfl) ⟨by decide, by decide⟩ (fun r4 v3 _ => ?_)
    refine tg_if_eq 27 C0 dX8_put_20 (by decide) (fun _ => ?_) (fun _ => ?_)
    · refine tg_iconst (x := 2) C0 dX8_put_27 (by decide) ?_
      exact w_X8_put_28 C0 x1 x2 2 v3
    · refine tg_iconst (x := 0) C0 dX8_put_23 (by decide) ?_
      refine tg_goto 28 C0 dX8_put_24 (by decide) ?_
      exact w_X8_put_28 C0 x1 x2 0 v3
  · refine tg_iconst (x := 1) C0 dX8_put_8 (by decide) ?_
    refine tg_goto 28 C0 dX8_put_9 (by decide) ?_
    exact w_X8_put_28 C0 x1 x2 1 v1
theorem c_X8_put (l : Launch) (x1 x2 : Int32) (v : tmM) : tmMi tm_NWR tm_shR 13 l yX8_put (Cond.code yX8_put cX8_put 3 (some .int) :: TMW) ({ frames := 7, cells := 0, slots := 0, locals := 157 } : Room) (fun ad => [.ref (ad 0), .int x1, .int x2]) v (f_X8_put x1 x2 v) :=
  tmMi.of (cc := cX8_put) (nL := 3) (by decide +kernel) rfl tm_NWR_ok (fun _ => Nat.le_of_ble_eq_true rfl) (fun p e s m args below meth c A D cy ad z C0 => w_X8_put C0 x1 x2 v)
-- ----- X8_removes
theorem dX8_removes_0 : decode cX8_removes 0 = .ok (.aload_n 0, 1) := by decide +kernel
theorem dX8_removes_1 : decode cX8_removes 1 = .ok (.aload_n 0, 1) := by decide +kernel
theorem dX8_removes_2 : decode cX8_removes 2 = .ok (.invokevirtual 89, 3) := by decide +kernel
theorem dX8_removes_5 : decode cX8_removes 5 = .ok (.invokevirtual 113, 3) := by decide +kernel
theorem dX8_removes_8 : decode cX8_removes 8 = .ok (.ifCond .ne 11, 3) := by decide +kernel
theorem dX8_removes_11 : decode cX8_removes 11 = .ok (.aload_n 0, 1) := by decide +kernel
theorem dX8_removes_12 : decode cX8_removes 12 = .ok (.iconst 1, 1) := by decide +kernel
theorem dX8_removes_13 : decode cX8_removes 13 = .ok (.invokevirtual 165, 3) := by decide +kernel
theorem dX8_removes_16 : decode cX8_removes 16 = .ok (.goto 31, 3) := by decide +kernel
theorem dX8_removes_19 : decode cX8_removes 19 = .ok (.aload_n 0, 1) := by decide +kernel
theorem dX8_removes_20 : decode cX8_removes 20 = .ok (.aload_n 0, 1) := by decide +kernel
theorem dX8_removes_21 : decode cX8_removes 21 = .ok (.invokevirtual 89, 3) := by decide +kernel
theorem dX8_removes_24 : decode cX8_removes 24 = .ok (.iload_n 1, 1) := by decide +kernel
theorem dX8_removes_25 : decode cX8_removes 25 = .ok (.invokevirtual 74, 3) := by decide +kernel
theorem dX8_removes_28 : decode cX8_removes 28 = .ok (.iconst (-1), 1) := by decide +kernel
theorem dX8_removes_29 : decode cX8_removes 29 = .ok (.if_icmp .ne 12, 3) := by decide +kernel
theorem dX8_removes_32 : decode cX8_removes 32 = .ok (.aload_n 0, 1) := by decide +kernel
theorem dX8_removes_33 : decode cX8_removes 33 = .ok (.bipush 8, 2) := by decide +kernel
theorem dX8_removes_35 : decode cX8_removes 35 = .ok (.invokevirtual 165, 3) := by decide +kernel
theorem dX8_removes_38 : decode cX8_removes 38 = .ok (.goto 9, 3) := by decide +kernel
theorem dX8_removes_41 : decode cX8_removes 41 = .ok (.aload_n 0, 1) := by decide +kernel
theorem dX8_removes_42 : decode cX8_removes 42 = .ok (.iload_n 1, 1) := by decide +kernel
theorem dX8_removes_43 : decode cX8_removes 43 = .ok (.iconst (-1), 1) := by decide +kernel
theorem dX8_removes_44 : decode cX8_removes 44 = .ok (.invokevirtual 171, 3) := by decide +kernel
theorem dX8_removes_47 : decode cX8_removes 47 = .ok (.ireturn, 1) := by decide +kernel
def f_X8_removes (x1 : Int32) (v : tmM) : Option (Int32 × tmM) := tm_cl (f_X8_leads v) fun r2 v1 => tm_cl (f_X8_isUp r2 v1) fun r4 v3 => (if r4 = 0 then tm_cl (f_X8_refuses 1 v3) fun r14 v13 => some (r14, v13) else tm_cl (f_X8_leads v3) fun r6 v5 => tm_cl (f_X8_valueIn r6 x1 v5) fun r8 v7 => (if r8 = (-1) then tm_cl (f_X8_refuses 8 v7) fun r12 v11 => some (r12, v11) else tm_cl (f_X8_writes x1 (-1) v7) fun r10 v9 => some (r10, v9)))
set_option maxRecDepth 100000 in
set_option maxHeartbeats 4000000 in
theorem w_X8_removes {p : Program} {l : Launch} {e : Env} {s : State} {m : MethodId} {args : Array Value} {below : List Frame} {meth : Method} {c : Code} {D : va_G} {cy : Nat → ClassId} {ad : Nat → Nat} {A : Nat → Prop} {z : (Int32 × tmM)} (C0 : tmC p s m args meth c cX8_removes 2 (some .int) RX8 TMW tm_NWR D cy tm_shR ad 13 [] A) (x1 : Int32) (v : tmM) : tmG p l e ({ frames := 6, cells := 0, slots := 0, locals := 135 } : Room) s m args below meth c 0 0 (MQ below (va_Qi (fun r u => z = (r, u)) (tmAt tm_shR 13 D cy ad A) A) args s 0 0 A) 2 D cy tm_shR ad 13 [] A z 0 [(0, .ref (ad 0)), (1, .int x1)] [] v (f_X8_removes x1 v) := by
  unfold f_X8_removes
  refine tg_aload_n 0 C0 dX8_removes_0 rfl rfl ?_
  refine tg_aload_n 0 C0 dX8_removes_1 rfl rfl ?_
  refine tg_callVi (As := []) 0 0 C0 dX8_removes_2 (c_X8_leads l v) rfl rfl (by decide) rfl rfl (tm_gV tl_X8_89 ti_X8_leads ts_X8_leads tn_X8 tc_X8_leads)  rfl rfl rfl rfl (by decide +kernel) ⟨by decide, by decide⟩ (Nat.le_of_ble_eq_true rfl) ⟨by decide, by decide⟩ (fun r2 v1 _ => ?_)
  refine tg_callVi (As := [.int r2]) 0 1 C0 dX8_removes_5 (c_X8_isUp l r2 v1) rfl rfl (by decide) rfl rfl (tm_gV tl_X8_113 ti_X8_isUp ts_X8_isUp tn_X8 tc_X8_isUp)  rfl rfl rfl rfl (by decide +kernel) ⟨by decide, by decide⟩ (Nat.le_of_ble_eq_true rfl) ⟨by decide, by decide⟩ (fun r4 v3 _ => ?_)
  refine tg_if_ne 19 C0 dX8_removes_8 (by decide) (fun _ => ?_) (fun _ => ?_)
  · refine tg_aload_n 0 C0 dX8_removes_19 rfl rfl ?_
    refine tg_aload_n 0 C0 dX8_removes_20 rfl rfl ?_
    refine tg_callVi (As := []) 0 0 C0 dX8_removes_21 (c_X8_leads l v3) rfl rfl (by decide) rfl rfl (tm_gV tl_X8_89 ti_X8_leads ts_X8_leads tn_X8 tc_X8_leads)  rfl rfl rfl rfl (by decide +kernel) ⟨by decide, by decide⟩ (Nat.le_of_ble_eq_true rfl) ⟨by decide, by decide⟩ (fun r6 v5 _ => ?_)
    refine tg_iload_n 1 C0 dX8_removes_24 rfl rfl ?_
    refine tg_callVi (As := [.int r6, .int x1]) 0 2 C0 dX8_removes_25 (c_X8_valueIn l r6 x1 v5) rfl rfl (by decide) rfl rfl (tm_gV tl_X8_74 ti_X8_valueIn ts_X8_valueIn tn_X8 tc_X8_valueIn)  rfl rfl rfl rfl (by decide +kernel) ⟨by decide, by decide⟩ (Nat.le_of_ble_eq_true rfl) ⟨by decide, by decide⟩ (fun r8 v7 _ => ?_)
    refine tg_iconst (x := (-1)) C0 dX8_removes_28 (by decide) ?_
    refine tg_icmp_ne 41 C0 dX8_removes_29 (by decide) (fun _ => ?_) (fun _ => ?_)
    · refine tg_aload_n 0 C0 dX8_removes_41 rfl rfl ?_
      refine tg_iload_n 1 C0 dX8_removes_42 rfl rfl ?_
      refine tg_iconst (x := (-1)) C0 dX8_removes_43 (by decide) ?_
      refine tg_callVi (As := [.int x1, .int (-1)]) 0 2 C0 dX8_removes_44 (c_X8_writes l x1 (-1) v7) rfl rfl (by decide) rfl rfl (tm_gV tl_X8_171 ti_X8_writes ts_X8_writes tn_X8 tc_X8_writes)  rfl rfl rfl rfl (by decide +kernel) ⟨by decide, by decide⟩ (Nat.le_of_ble_eq_true rfl) ⟨by decide, by decide⟩ (fun r10 v9 _ => ?_)
      exact tg_iret C0 dX8_removes_47
    · refine tg_aload_n 0 C0 dX8_removes_32 rfl rfl ?_
      refine tg_bipush (x := 8) C0 dX8_removes_33 (by decide) ?_
      refine tg_callVi (As := [.int 8]) 0 1 C0 dX8_removes_35 (c_X8_refuses l 8 v7) rfl rfl (by decide) rfl rfl (tm_gV tl_X8_165 ti_X8_refuses ts_X8_refuses tn_X8 tc_X8_refuses)  rfl rfl rfl rfl (by decide +kernel) ⟨by decide, by decide⟩ (Nat.le_of_ble_eq_true rfl) ⟨by decide, by decide⟩ (fun r12 v11 _ => ?_)
      refine tg_goto 47 C0 dX8_removes_38 (by decide) ?_
      exact tg_iret C0 dX8_removes_47
  · refine tg_aload_n 0 C0 dX8_removes_11 rfl rfl ?_
    refine tg_iconst (x := 1) C0 dX8_removes_12 (by decide) ?_
    refine tg_callVi (As := [.int 1]) 0 1 C0 dX8_removes_13 (c_X8_refuses l 1 v3) rfl rfl (by decide) rfl rfl (tm_gV tl_X8_165 ti_X8_refuses ts_X8_refuses tn_X8 tc_X8_refuses)  rfl rfl rfl rfl (by decide +kernel) ⟨by decide, by decide⟩ (Nat.le_of_ble_eq_true rfl) ⟨by decide, by decide⟩ (fun r14 v13 _ => ?_)
    refine tg_goto 47 C0 dX8_removes_16 (by decide) ?_
    exact tg_iret C0 dX8_removes_47
theorem c_X8_removes (l : Launch) (x1 : Int32) (v : tmM) : tmMi tm_NWR tm_shR 13 l yX8_removes (Cond.code yX8_removes cX8_removes 2 (some .int) :: TMW) ({ frames := 6, cells := 0, slots := 0, locals := 135 } : Room) (fun ad => [.ref (ad 0), .int x1]) v (f_X8_removes x1 v) :=
  tmMi.of (cc := cX8_removes) (nL := 2) (by decide +kernel) rfl tm_NWR_ok (fun _ => Nat.le_of_ble_eq_true rfl) (fun p e s m args below meth c A D cy ad z C0 => w_X8_removes C0 x1 v)
-- ----- X8_remove
theorem dX8_remove_0 : decode cX8_remove 0 = .ok (.aload_n 0, 1) := by decide +kernel
theorem dX8_remove_1 : decode cX8_remove 1 = .ok (.iload_n 1, 1) := by decide +kernel
theorem dX8_remove_2 : decode cX8_remove 2 = .ok (.invokestatic 116, 3) := by decide +kernel
theorem dX8_remove_5 : decode cX8_remove 5 = .ok (.ifCond .eq 7, 3) := by decide +kernel
theorem dX8_remove_8 : decode cX8_remove 8 = .ok (.iconst 0, 1) := by decide +kernel
theorem dX8_remove_9 : decode cX8_remove 9 = .ok (.goto 4, 3) := by decide +kernel
theorem dX8_remove_12 : decode cX8_remove 12 = .ok (.iconst 1, 1) := by decide +kernel
theorem dX8_remove_13 : decode cX8_remove 13 = .ok (.putfield 56, 3) := by decide +kernel
theorem dX8_remove_16 : decode cX8_remove 16 = .ok (.aload_n 0, 1) := by decide +kernel
theorem dX8_remove_17 : decode cX8_remove 17 = .ok (.getfield 56, 3) := by decide +kernel
theorem dX8_remove_20 : decode cX8_remove 20 = .ok (.ifCond .le 7, 3) := by decide +kernel
theorem dX8_remove_23 : decode cX8_remove 23 = .ok (.iconst 0, 1) := by decide +kernel
theorem dX8_remove_24 : decode cX8_remove 24 = .ok (.goto 8, 3) := by decide +kernel
theorem dX8_remove_27 : decode cX8_remove 27 = .ok (.aload_n 0, 1) := by decide +kernel
theorem dX8_remove_28 : decode cX8_remove 28 = .ok (.iload_n 1, 1) := by decide +kernel
theorem dX8_remove_29 : decode cX8_remove 29 = .ok (.invokevirtual 177, 3) := by decide +kernel
theorem dX8_remove_32 : decode cX8_remove 32 = .ok (.ireturn, 1) := by decide +kernel
theorem tl_X8_177 : Cond.methodLink RX8 177 yX8_removes ∈ TMW := tm_in 1844 (by decide +kernel) (by decide +kernel)
theorem ti_X8_removes : Cond.instanceMethod yX8_removes ∈ TMW := tm_in 1846 (by decide +kernel) (by decide +kernel)
theorem ts_X8_removes : Cond.selects RX8 yX8_removes yX8_removes ∈ TMW := tm_in 67 (by decide +kernel) (by decide +kernel)
theorem tc_X8_removes : Cond.code yX8_removes cX8_removes 2 (some .int) ∈ TMW := tm_in 1847 (by decide +kernel) (by decide +kernel)
def f_X8_remove_13 (x1 s0 : Int32) (v : tmM) : Option (Int32 × tmM) := tm_lt (tm_up v 0 0 s0) fun v3 => (if (v3 0 0) ≤ 0 then tm_cl (f_X8_removes x1 v3) fun r5 v4 => some (r5, v4) else some (0, v3))
set_option maxRecDepth 100000 in
set_option maxHeartbeats 4000000 in
theorem w_X8_remove_13 {p : Program} {l : Launch} {e : Env} {s : State} {m : MethodId} {args : Array Value} {below : List Frame} {meth : Method} {c : Code} {D : va_G} {cy : Nat → ClassId} {ad : Nat → Nat} {A : Nat → Prop} {z : (Int32 × tmM)} (C0 : tmC p s m args meth c cX8_remove 2 (some .int) RX8 TMW tm_NWR D cy tm_shR ad 13 [] A) (x1 s0 : Int32) (v : tmM) : tmG p l e ({ frames := 7, cells := 0, slots := 0, locals := 156 } : Room) s m args below meth c 0 0 (MQ below (va_Qi (fun r u => z = (r, u)) (tmAt tm_shR 13 D cy ad A) A) args s 0 0 A) 2 D cy tm_shR ad 13 [] A z 13 [(0, .ref (ad 0)), (1, .int x1)] [.int s0, .ref (ad 0)] v (f_X8_remove_13 x1 s0 v) := by
  unfold f_X8_remove_13
  refine tg_put 0 0 C0 dX8_remove_13 (by decide) rfl rfl tu_X8 tyX8_ok nmX8 (by decide) tf_X8_56 rfl rfl rfl rfl rfl rfl ?_
  refine tg_letm (fun v3 _ => ?_)
  refine tg_aload_n 0 C0 dX8_remove_16 rfl rfl ?_
  refine tg_get 0 0 C0 dX8_remove_17 (by decide) rfl rfl tu_X8 (by decide) tf_X8_56 rfl rfl rfl ?_
  refine tg_if_le 27 C0 dX8_remove_20 (by decide) (fun _ => ?_) (fun _ => ?_)
  · refine tg_aload_n 0 C0 dX8_remove_27 rfl rfl ?_
    refine tg_iload_n 1 C0 dX8_remove_28 rfl rfl ?_
    refine tg_callVi (As := [.int x1]) 0 1 C0 dX8_remove_29 (c_X8_removes l x1 v3) rfl rfl (by decide) rfl rfl (tm_gV tl_X8_177 ti_X8_removes ts_X8_removes tn_X8 tc_X8_removes)  rfl rfl rfl rfl (by decide +kernel) ⟨by decide, by decide⟩ (Nat.le_of_ble_eq_true rfl) ⟨by decide, by decide⟩ (fun r5 v4 _ => ?_)
    exact tg_iret C0 dX8_remove_32
  · refine tg_iconst (x := 0) C0 dX8_remove_23 (by decide) ?_
    refine tg_goto 32 C0 dX8_remove_24 (by decide) ?_
    exact tg_iret C0 dX8_remove_32
def f_X8_remove (x1 : Int32) (v : tmM) : Option (Int32 × tmM) := tm_cl (f_X8_isKey x1 v) fun r2 v1 => (if r2 = 0 then f_X8_remove_13 x1 1 v1 else f_X8_remove_13 x1 0 v1)
set_option maxRecDepth 100000 in
set_option maxHeartbeats 4000000 in
theorem w_X8_remove {p : Program} {l : Launch} {e : Env} {s : State} {m : MethodId} {args : Array Value} {below : List Frame} {meth : Method} {c : Code} {D : va_G} {cy : Nat → ClassId} {ad : Nat → Nat} {A : Nat → Prop} {z : (Int32 × tmM)} (C0 : tmC p s m args meth c cX8_remove 2 (some .int) RX8 TMW tm_NWR D cy tm_shR ad 13 [] A) (x1 : Int32) (v : tmM) : tmG p l e ({ frames := 7, cells := 0, slots := 0, locals := 156 } : Room) s m args below meth c 0 0 (MQ below (va_Qi (fun r u => z = (r, u)) (tmAt tm_shR 13 D cy ad A) A) args s 0 0 A) 2 D cy tm_shR ad 13 [] A z 0 [(0, .ref (ad 0)), (1, .int x1)] [] v (f_X8_remove x1 v) := by
  unfold f_X8_remove
  refine tg_aload_n 0 C0 dX8_remove_0 rfl rfl ?_
  refine tg_iload_n 1 C0 dX8_remove_1 rfl rfl ?_
  refine tg_callSi (As := [.int x1]) 1 C0 dX8_remove_2 (c_X8_isKey l x1 v) rfl rfl (tm_gc tc_X8_isKey) tl_X8_116 tn_X8 tst_X8_isKey  rfl rfl rfl rfl (by decide +kernel) ⟨by decide, by decide⟩ (Nat.le_of_ble_eq_true rfl) ⟨by decide, by decide⟩ (fun r2 v1 _ => ?_)
  refine tg_if_eq 12 C0 dX8_remove_5 (by decide) (fun _ => ?_) (fun _ => ?_)
  · refine tg_iconst (x := 1) C0 dX8_remove_12 (by decide) ?_
    exact w_X8_remove_13 C0 x1 1 v1
  · refine tg_iconst (x := 0) C0 dX8_remove_8 (by decide) ?_
    refine tg_goto 13 C0 dX8_remove_9 (by decide) ?_
    exact w_X8_remove_13 C0 x1 0 v1
theorem c_X8_remove (l : Launch) (x1 : Int32) (v : tmM) : tmMi tm_NWR tm_shR 13 l yX8_remove (Cond.code yX8_remove cX8_remove 2 (some .int) :: TMW) ({ frames := 7, cells := 0, slots := 0, locals := 156 } : Room) (fun ad => [.ref (ad 0), .int x1]) v (f_X8_remove x1 v) :=
  tmMi.of (cc := cX8_remove) (nL := 2) (by decide +kernel) rfl tm_NWR_ok (fun _ => Nat.le_of_ble_eq_true rfl) (fun p e s m args below meth c A D cy ad z C0 => w_X8_remove C0 x1 v)
-- ----- X8_whyBegin
theorem dX8_whyBegin_0 : decode cX8_whyBegin 0 = .ok (.aload_n 0, 1) := by decide +kernel
theorem dX8_whyBegin_1 : decode cX8_whyBegin 1 = .ok (.getfield 7, 3) := by decide +kernel
theorem dX8_whyBegin_4 : decode cX8_whyBegin 4 = .ok (.iconst 0, 1) := by decide +kernel
theorem dX8_whyBegin_5 : decode cX8_whyBegin 5 = .ok (.iaload, 1) := by decide +kernel
theorem dX8_whyBegin_6 : decode cX8_whyBegin 6 = .ok (.ifCond .eq 7, 3) := by decide +kernel
theorem dX8_whyBegin_9 : decode cX8_whyBegin 9 = .ok (.iconst 2, 1) := by decide +kernel
theorem dX8_whyBegin_10 : decode cX8_whyBegin 10 = .ok (.goto 15, 3) := by decide +kernel
theorem dX8_whyBegin_13 : decode cX8_whyBegin 13 = .ok (.aload_n 0, 1) := by decide +kernel
theorem dX8_whyBegin_14 : decode cX8_whyBegin 14 = .ok (.invokevirtual 180, 3) := by decide +kernel
theorem dX8_whyBegin_17 : decode cX8_whyBegin 17 = .ok (.ifCond .ne 7, 3) := by decide +kernel
theorem dX8_whyBegin_20 : decode cX8_whyBegin 20 = .ok (.iconst 1, 1) := by decide +kernel
theorem dX8_whyBegin_21 : decode cX8_whyBegin 21 = .ok (.goto 4, 3) := by decide +kernel
theorem dX8_whyBegin_24 : decode cX8_whyBegin 24 = .ok (.iconst 0, 1) := by decide +kernel
theorem dX8_whyBegin_25 : decode cX8_whyBegin 25 = .ok (.ireturn, 1) := by decide +kernel
theorem tl_X8_180 : Cond.methodLink RX8 180 yX8_areUp ∈ TMW := tm_in 1856 (by decide +kernel) (by decide +kernel)
theorem ti_X8_areUp : Cond.instanceMethod yX8_areUp ∈ TMW := tm_in 1858 (by decide +kernel) (by decide +kernel)
theorem ts_X8_areUp : Cond.selects RX8 yX8_areUp yX8_areUp ∈ TMW := tm_in 69 (by decide +kernel) (by decide +kernel)
theorem tc_X8_areUp : Cond.code yX8_areUp cX8_areUp 1 (some .boolean) ∈ TMW := tm_in 1859 (by decide +kernel) (by decide +kernel)
def f_X8_whyBegin (v : tmM) : Option (Int32 × tmM) := tm_g (tm_ix 0 491) ((if (v 1 (0 : Int32).toNatClampNeg) = 0 then tm_cl (f_X8_areUp v) fun r2 v1 => (if r2 = 0 then some (1, v1) else some (0, v1)) else some (2, v)))
set_option maxRecDepth 100000 in
set_option maxHeartbeats 4000000 in
theorem w_X8_whyBegin {p : Program} {l : Launch} {e : Env} {s : State} {m : MethodId} {args : Array Value} {below : List Frame} {meth : Method} {c : Code} {D : va_G} {cy : Nat → ClassId} {ad : Nat → Nat} {A : Nat → Prop} {z : (Int32 × tmM)} (C0 : tmC p s m args meth c cX8_whyBegin 1 (some .int) RX8 TMW tm_NWR D cy tm_shR ad 13 [] A) (v : tmM) : tmG p l e ({ frames := 1, cells := 0, slots := 0, locals := 20 } : Room) s m args below meth c 0 0 (MQ below (va_Qi (fun r u => z = (r, u)) (tmAt tm_shR 13 D cy ad A) A) args s 0 0 A) 1 D cy tm_shR ad 13 [] A z 0 [(0, .ref (ad 0))] [] v (f_X8_whyBegin v) := by
  unfold f_X8_whyBegin
  refine tg_aload_n 0 C0 dX8_whyBegin_0 rfl rfl ?_
  refine tg_get 0 1 C0 dX8_whyBegin_1 (by decide) rfl rfl tu_X8 (by decide) tf_X8_7 rfl rfl rfl ?_
  refine tg_iconst (x := 0) C0 dX8_whyBegin_4 (by decide) ?_
  refine tg_iald 1 C0 dX8_whyBegin_5 (by decide) rfl (fun _ => ?_)
  refine tg_if_eq 13 C0 dX8_whyBegin_6 (by decide) (fun _ => ?_) (fun _ => ?_)
  · refine tg_aload_n 0 C0 dX8_whyBegin_13 rfl rfl ?_
    refine tg_callVi (As := []) 0 0 C0 dX8_whyBegin_14 (c_X8_areUp l v) rfl rfl (by decide) rfl rfl (tm_gV tl_X8_180 ti_X8_areUp ts_X8_areUp tn_X8 tc_X8_areUp)  rfl rfl rfl rfl (by decide +kernel) ⟨by decide, by decide⟩ (Nat.le_of_ble_eq_true rfl) ⟨by decide, by decide⟩ (fun r2 v1 _ => ?_)
    refine tg_if_ne 24 C0 dX8_whyBegin_17 (by decide) (fun _ => ?_) (fun _ => ?_)
    · refine tg_iconst (x := 0) C0 dX8_whyBegin_24 (by decide) ?_
      exact tg_iret C0 dX8_whyBegin_25
    · refine tg_iconst (x := 1) C0 dX8_whyBegin_20 (by decide) ?_
      refine tg_goto 25 C0 dX8_whyBegin_21 (by decide) ?_
      exact tg_iret C0 dX8_whyBegin_25
  · refine tg_iconst (x := 2) C0 dX8_whyBegin_9 (by decide) ?_
    refine tg_goto 25 C0 dX8_whyBegin_10 (by decide) ?_
    exact tg_iret C0 dX8_whyBegin_25
theorem c_X8_whyBegin (l : Launch) (v : tmM) : tmMi tm_NWR tm_shR 13 l yX8_whyBegin (Cond.code yX8_whyBegin cX8_whyBegin 1 (some .int) :: TMW) ({ frames := 1, cells := 0, slots := 0, locals := 20 } : Room) (fun ad => [.ref (ad 0)]) v (f_X8_whyBegin v) :=
  tmMi.of (cc := cX8_whyBegin) (nL := 1) (by decide +kernel) rfl tm_NWR_ok (fun _ => Nat.le_of_ble_eq_true rfl) (fun p e s m args below meth c A D cy ad z C0 => w_X8_whyBegin C0 v)
-- ----- X8_begin
theorem dX8_begin_0 : decode cX8_begin 0 = .ok (.aload_n 0, 1) := by decide +kernel
theorem dX8_begin_1 : decode cX8_begin 1 = .ok (.iconst 0, 1) := by decide +kernel
theorem dX8_begin_2 : decode cX8_begin 2 = .ok (.putfield 56, 3) := by decide +kernel
theorem dX8_begin_5 : decode cX8_begin 5 = .ok (.aload_n 0, 1) := by decide +kernel
theorem dX8_begin_6 : decode cX8_begin 6 = .ok (.invokevirtual 183, 3) := by decide +kernel
theorem dX8_begin_9 : decode cX8_begin 9 = .ok (.ifCond .le 12, 3) := by decide +kernel
theorem dX8_begin_12 : decode cX8_begin 12 = .ok (.aload_n 0, 1) := by decide +kernel
theorem dX8_begin_13 : decode cX8_begin 13 = .ok (.aload_n 0, 1) := by decide +kernel
theorem dX8_begin_14 : decode cX8_begin 14 = .ok (.invokevirtual 183, 3) := by decide +kernel
theorem dX8_begin_17 : decode cX8_begin 17 = .ok (.invokevirtual 165, 3) := by decide +kernel
theorem dX8_begin_20 : decode cX8_begin 20 = .ok (.ireturn, 1) := by decide +kernel
theorem dX8_begin_21 : decode cX8_begin 21 = .ok (.aload_n 0, 1) := by decide +kernel
theorem dX8_begin_22 : decode cX8_begin 22 = .ok (.invokevirtual 147, 3) := by decide +kernel
theorem dX8_begin_25 : decode cX8_begin 25 = .ok (.istore_n 1, 1) := by decide +kernel
theorem dX8_begin_26 : decode cX8_begin 26 = .ok (.aload_n 0, 1) := by decide +kernel
theorem dX8_begin_27 : decode cX8_begin 27 = .ok (.invokevirtual 186, 3) := by decide +kernel
theorem dX8_begin_30 : decode cX8_begin 30 = .ok (.aload_n 0, 1) := by decide +kernel
theorem dX8_begin_31 : decode cX8_begin 31 = .ok (.iconst 1, 1) := by decide +kernel
theorem dX8_begin_32 : decode cX8_begin 32 = .ok (.invokevirtual 189, 3) := by decide +kernel
theorem dX8_begin_35 : decode cX8_begin 35 = .ok (.iload_n 1, 1) := by decide +kernel
theorem dX8_begin_36 : decode cX8_begin 36 = .ok (.ireturn, 1) := by decide +kernel
theorem tl_X8_183 : Cond.methodLink RX8 183 yX8_whyBegin ∈ TMW := tm_in 1852 (by decide +kernel) (by decide +kernel)
theorem ti_X8_whyBegin : Cond.instanceMethod yX8_whyBegin ∈ TMW := tm_in 1854 (by decide +kernel) (by decide +kernel)
theorem ts_X8_whyBegin : Cond.selects RX8 yX8_whyBegin yX8_whyBegin ∈ TMW := tm_in 68 (by decide +kernel) (by decide +kernel)
theorem tc_X8_whyBegin : Cond.code yX8_whyBegin cX8_whyBegin 1 (some .int) ∈ TMW := tm_in 1855 (by decide +kernel) (by decide +kernel)
theorem tl_X8_186 : Cond.methodLink RX8 186 yX8_endsBoth ∈ TMW := tm_in 1860 (by decide +kernel) (by decide +kernel)
theorem ti_X8_endsBoth : Cond.instanceMethod yX8_endsBoth ∈ TMW := tm_in 1862 (by decide +kernel) (by decide +kernel)
theorem ts_X8_endsBoth : Cond.selects RX8 yX8_endsBoth yX8_endsBoth ∈ TMW := tm_in 70 (by decide +kernel) (by decide +kernel)
theorem tc_X8_endsBoth : Cond.code yX8_endsBoth cX8_endsBoth 1 none ∈ TMW := tm_in 1863 (by decide +kernel) (by decide +kernel)
theorem tl_X8_189 : Cond.methodLink RX8 189 yX8_becomesPhase ∈ TMW := tm_in 1864 (by decide +kernel) (by decide +kernel)
theorem ti_X8_becomesPhase : Cond.instanceMethod yX8_becomesPhase ∈ TMW := tm_in 1866 (by decide +kernel) (by decide +kernel)
theorem ts_X8_becomesPhase : Cond.selects RX8 yX8_becomesPhase yX8_becomesPhase ∈ TMW := tm_in 71 (by decide +kernel) (by decide +kernel)
theorem tc_X8_becomesPhase : Cond.code yX8_becomesPhase cX8_becomesPhase 2 none ∈ TMW := tm_in 1867 (by decide +kernel) (by decide +kernel)
def f_X8_begin (v : tmM) : Option (Int32 × tmM) := tm_lt (tm_up v 0 0 0) fun v1 => tm_cl (f_X8_whyBegin v1) fun r3 v2 => (if r3 ≤ 0 then tm_cl (f_X8_does v2) fun r5 v4 => tm_cl (f_X8_endsBoth v4) fun _ v6 => tm_cl (f_X8_becomesPhase 1 v6) fun _ v8 => some (r5, v8) else tm_cl (f_X8_whyBegin v2) fun r11 v10 => tm_cl (f_X8_refuses r11 v10) fun r13 v12 => some (r13, v12))
set_option maxRecDepth 100000 in
set_option maxHeartbeats 4000000 in
theorem w_X8_begin {p : Program} {l : Launch} {e : Env} {s : State} {m : MethodId} {args : Array Value} {below : List Frame} {meth : Method} {c : Code} {D : va_G} {cy : Nat → ClassId} {ad : Nat → Nat} {A : Nat → Prop} {z : (Int32 × tmM)} (C0 : tmC p s m args meth c cX8_begin 2 (some .int) RX8 TMW tm_NWR D cy tm_shR ad 13 [] A) (v : tmM) : tmG p l e ({ frames := 3, cells := 0, slots := 0, locals := 66 } : Room) s m args below meth c 0 0 (MQ below (va_Qi (fun r u => z = (r, u)) (tmAt tm_shR 13 D cy ad A) A) args s 0 0 A) 2 D cy tm_shR ad 13 [] A z 0 [(0, .ref (ad 0))] [] v (f_X8_begin v) := by
  unfold f_X8_begin
  refine tg_aload_n 0 C0 dX8_begin_0 rfl rfl ?_
  refine tg_iconst (x := 0) C0 dX8_begin_1 (by decide) ?_
  refine tg_put 0 0 C0 dX8_begin_2 (by decide) rfl rfl tu_X8 tyX8_ok nmX8 (by decide) tf_X8_56 rfl rfl rfl rfl rfl rfl ?_
  refine tg_letm (fun v1 _ => ?_)
  refine tg_aload_n 0 C0 dX8_begin_5 rfl rfl ?_
  refine tg_callVi (As := []) 0 0 C0 dX8_begin_6 (c_X8_whyBegin l v1) rfl rfl (by decide) rfl rfl (tm_gV tl_X8_183 ti_X8_whyBegin ts_X8_whyBegin tn_X8 tc_X8_whyBegin)  rfl rfl rfl rfl (by decide +kernel) ⟨by decide, by decide⟩ (Nat.le_of_ble_eq_true rfl) ⟨by decide, by decide⟩ (fun r3 v2 _ => ?_)
  refine tg_if_le 21 C0 dX8_begin_9 (by decide) (fun _ => ?_) (fun _ => ?_)
  · refine tg_aload_n 0 C0 dX8_begin_21 rfl rfl ?_
    refine tg_callVi (As := []) 0 0 C0 dX8_begin_22 (c_X8_does l v2) rfl rfl (by decide) rfl rfl (tm_gV tl_X8_147 ti_X8_does ts_X8_does tn_X8 tc_X8_does)  rfl rfl rfl rfl (by decide +kernel) ⟨by decide, by decide⟩ (Nat.le_of_ble_eq_true rfl) ⟨by decide, by decide⟩ (fun r5 v4 _ => ?_)
    refine tg_istore_n [(1, .int r5), (0, .ref (ad 0))] C0 dX8_begin_25 rfl (by decide) rfl ?_
    refine tg_aload_n 1 C0 dX8_begin_26 rfl rfl ?_
    refine tg_callVv (As := []) 0 0 C0 dX8_begin_27 (c_X8_endsBoth l v4) rfl rfl (by decide) rfl rfl (tm_gV tl_X8_186 ti_X8_endsBoth ts_X8_endsBoth tn_X8 tc_X8_endsBoth)  rfl rfl rfl rfl (by decide +kernel) ⟨by decide, by decide⟩ (Nat.le_of_ble_eq_true rfl) ⟨by decide, by decide⟩ (fun v6 _ => ?_)
    refine tg_aload_n 1 C0 dX8_begin_30 rfl rfl ?_
    refine tg_iconst (x := 1) C0 dX8_begin_31 (by decide) ?_
    refine tg_callVv (As := [.int 1]) 0 1 C0 dX8_begin_32 (c_X8_becomesPhase l 1 v6) rfl rfl (by decide) rfl rfl (tm_gV tl_X8_189 ti_X8_becomesPhase ts_X8_becomesPhase tn_X8 tc_X8_becomesPhase)  rfl rfl rfl rfl (by decide +kernel) ⟨by decide, by decide⟩ (Nat.le_of_ble_eq_true rfl) ⟨by decide, by decide⟩ (fun v8 _ => ?_)
    refine tg_iload_n 0 C0 dX8_begin_35 rfl rfl ?_
    exact tg_iret C0 dX8_begin_36
  · refine tg_aload_n 0 C0 dX8_begin_12 rfl rfl ?_
    refine tg_aload_n 0 C0 dX8_begin_13 rfl rfl ?_
    refine tg_callVi (As := []) 0 0 C0 dX8_begin_14 (c_X8_whyBegin l v2) rfl rfl (by decide) rfl rfl (tm_gV tl_X8_183 ti_X8_whyBegin ts_X8_whyBegin tn_X8 tc_X8_whyBegin)  rfl rfl rfl rfl (by decide +kernel) ⟨by decide, by decide⟩ (Nat.le_of_ble_eq_true rfl) ⟨by decide, by decide⟩ (fun r11 v10 _ => ?_)
    refine tg_callVi (As := [.int r11]) 0 1 C0 dX8_begin_17 (c_X8_refuses l r11 v10) rfl rfl (by decide) rfl rfl (tm_gV tl_X8_165 ti_X8_refuses ts_X8_refuses tn_X8 tc_X8_refuses)  rfl rfl rfl rfl (by decide +kernel) ⟨by decide, by decide⟩ (Nat.le_of_ble_eq_true rfl) ⟨by decide, by decide⟩ (fun r13 v12 _ => ?_)
    exact tg_iret C0 dX8_begin_20
theorem c_X8_begin (l : Launch) (v : tmM) : tmMi tm_NWR tm_shR 13 l yX8_begin (Cond.code yX8_begin cX8_begin 2 (some .int) :: TMW) ({ frames := 3, cells := 0, slots := 0, locals := 66 } : Room) (fun ad => [.ref (ad 0)]) v (f_X8_begin v) :=
  tmMi.of (cc := cX8_begin) (nL := 2) (by decide +kernel) rfl tm_NWR_ok (fun _ => Nat.le_of_ble_eq_true rfl) (fun p e s m args below meth c A D cy ad z C0 => w_X8_begin C0 v)
-- ----- X8_whyCopy
theorem dX8_whyCopy_0 : decode cX8_whyCopy 0 = .ok (.aload_n 0, 1) := by decide +kernel
theorem dX8_whyCopy_1 : decode cX8_whyCopy 1 = .ok (.getfield 7, 3) := by decide +kernel
theorem dX8_whyCopy_4 : decode cX8_whyCopy 4 = .ok (.iconst 0, 1) := by decide +kernel
theorem dX8_whyCopy_5 : decode cX8_whyCopy 5 = .ok (.iaload, 1) := by decide +kernel
theorem dX8_whyCopy_6 : decode cX8_whyCopy 6 = .ok (.iconst 1, 1) := by decide +kernel
theorem dX8_whyCopy_7 : decode cX8_whyCopy 7 = .ok (.if_icmp .eq 7, 3) := by decide +kernel
theorem dX8_whyCopy_10 : decode cX8_whyCopy 10 = .ok (.iconst 2, 1) := by decide +kernel
theorem dX8_whyCopy_11 : decode cX8_whyCopy 11 = .ok (.goto 32, 3) := by decide +kernel
theorem dX8_whyCopy_14 : decode cX8_whyCopy 14 = .ok (.aload_n 0, 1) := by decide +kernel
theorem dX8_whyCopy_15 : decode cX8_whyCopy 15 = .ok (.invokevirtual 180, 3) := by decide +kernel
theorem dX8_whyCopy_18 : decode cX8_whyCopy 18 = .ok (.ifCond .ne 7, 3) := by decide +kernel
theorem dX8_whyCopy_21 : decode cX8_whyCopy 21 = .ok (.iconst 1, 1) := by decide +kernel
theorem dX8_whyCopy_22 : decode cX8_whyCopy 22 = .ok (.goto 21, 3) := by decide +kernel
theorem dX8_whyCopy_25 : decode cX8_whyCopy 25 = .ok (.aload_n 0, 1) := by decide +kernel
theorem dX8_whyCopy_26 : decode cX8_whyCopy 26 = .ok (.getfield 7, 3) := by decide +kernel
theorem dX8_whyCopy_29 : decode cX8_whyCopy 29 = .ok (.iconst 3, 1) := by decide +kernel
theorem dX8_whyCopy_30 : decode cX8_whyCopy 30 = .ok (.iaload, 1) := by decide +kernel
theorem dX8_whyCopy_31 : decode cX8_whyCopy 31 = .ok (.sipush 32767, 3) := by decide +kernel
theorem dX8_whyCopy_34 : decode cX8_whyCopy 34 = .ok (.if_icmp .ne 8, 3) := by decide +kernel
theorem dX8_whyCopy_37 : decode cX8_whyCopy 37 = .ok (.bipush 9, 2) := by decide +kernel
theorem dX8_whyCopy_39 : decode cX8_whyCopy 39 = .ok (.goto 4, 3) := by decide +kernel
theorem dX8_whyCopy_42 : decode cX8_whyCopy 42 = .ok (.iconst 0, 1) := by decide +kernel
theorem dX8_whyCopy_43 : decode cX8_whyCopy 43 = .ok (.ireturn, 1) := by decide +kernel
def f_X8_whyCopy (v : tmM) : Option (Int32 × tmM) := tm_g (tm_ix 0 491) ((if (v 1 (0 : Int32).toNatClampNeg) = 1 then tm_cl (f_X8_areUp v) fun r2 v1 => (if r2 = 0 then some (1, v1) else tm_g (tm_ix 3 491) ((if (v1 1 (3 : Int32).toNatClampNeg) = 32767 then some (9, v1) else some (0, v1)))) else some (2, v)))
set_option maxRecDepth 100000 in
set_option maxHeartbeats 4000000 in
theorem w_X8_whyCopy {p : Program} {l : Launch} {e : Env} {s : State} {m : MethodId} {args : Array Value} {below : List Frame} {meth : Method} {c : Code} {D : va_G} {cy : Nat → ClassId} {ad : Nat → Nat} {A : Nat → Prop} {z : (Int32 × tmM)} (C0 : tmC p s m args meth c cX8_whyCopy 1 (some .int) RX8 TMW tm_NWR D cy tm_shR ad 13 [] A) (v : tmM) : tmG p l e ({ frames := 1, cells := 0, slots := 0, locals := 20 } : Room) s m args below meth c 0 0 (MQ below (va_Qi (fun r u => z = (r, u)) (tmAt tm_shR 13 D cy ad A) A) args s 0 0 A) 1 D cy tm_shR ad 13 [] A z 0 [(0, .ref (ad 0))] [] v (f_X8_whyCopy v) := by
  unfold f_X8_whyCopy
  refine tg_aload_n 0 C0 dX8_whyCopy_0 rfl rfl ?_
  refine tg_get 0 1 C0 dX8_whyCopy_1 (by decide) rfl rfl tu_X8 (by decide) tf_X8_7 rfl rfl rfl ?_
  refine tg_iconst (x := 0) C0 dX8_whyCopy_4 (by decide) ?_
  refine tg_iald 1 C0 dX8_whyCopy_5 (by decide) rfl (fun _ => ?_)
  refine tg_iconst (x := 1) C0 dX8_whyCopy_6 (by decide) ?_
  refine tg_icmp_eq 14 C0 dX8_whyCopy_7 (by decide) (fun _ => ?_) (fun _ => ?_)
  · refine tg_aload_n 0 C0 dX8_whyCopy_14 rfl rfl ?_
    refine tg_callVi (As := []) 0 0 C0 dX8_whyCopy_15 (c_X8_areUp l v) rfl rfl (by decide) rfl rfl (tm_gV tl_X8_180 ti_X8_areUp ts_X8_areUp tn_X8 tc_X8_areUp)  rfl rfl rfl rfl (by decide +kernel) ⟨by decide, by decide⟩ (Nat.le_of_ble_eq_true rfl) ⟨by decide, by decide⟩ (fun r2 v1 _ => ?_)
    refine tg_if_ne 25 C0 dX8_whyCopy_18 (by decide) (fun _ => ?_) (fun _ => ?_)
    · refine tg_aload_n 0 C0 dX8_whyCopy_25 rfl rfl ?_
      refine tg_get 0 1 C0 dX8_whyCopy_26 (by decide) rfl rfl tu_X8 (by decide) tf_X8_7 rfl rfl rfl ?_
      refine tg_iconst (x := 3) C0 dX8_whyCopy_29 (by decide) ?_
      refine tg_iald 1 C0 dX8_whyCopy_30 (by decide) rfl (fun _ => ?_)
      refine tg_sipush (x := 32767) C0 dX8_whyCopy_31 (by decide) ?_
      refine tg_icmp_ne 42 C0 dX8_whyCopy_34 (by decide) (fun _ => ?_) (fun _ => ?_)
      · refine tg_iconst (x := 0) C0 dX8_whyCopy_42 (by decide) ?_
        exact tg_iret C0 dX8_whyCopy_43
      · refine tg_bipush (x := 9) C0 dX8_whyCopy_37 (by decide) ?_
        refine tg_goto 43 C0 dX8_whyCopy_39 (by decide) ?_
        exact tg_iret C0 dX8_whyCopy_43
    · refine tg_iconst (x := 1) C0 dX8_whyCopy_21 (by decide) ?_
      refine tg_goto 43 C0 dX8_whyCopy_22 (by decide) ?_
      exact tg_iret C0 dX8_whyCopy_43
  · refine tg_iconst (x := 2) C0 dX8_whyCopy_10 (by decide) ?_
    refine tg_goto 43 C0 dX8_whyCopy_11 (by decide) ?_
    exact tg_iret C0 dX8_whyCopy_43
theorem c_X8_whyCopy (l : Launch) (v : tmM) : tmMi tm_NWR tm_shR 13 l yX8_whyCopy (Cond.code yX8_whyCopy cX8_whyCopy 1 (some .int) :: TMW) ({ frames := 1, cells := 0, slots := 0, locals := 20 } : Room) (fun ad => [.ref (ad 0)]) v (f_X8_whyCopy v) :=
  tmMi.of (cc := cX8_whyCopy) (nL := 1) (by decide +kernel) rfl tm_NWR_ok (fun _ => Nat.le_of_ble_eq_true rfl) (fun p e s m args below meth c A D cy ad z C0 => w_X8_whyCopy C0 v)
-- ----- X8_copiesChunks
theorem dX8_copiesChunks_0 : decode cX8_copiesChunks 0 = .ok (.aload_n 0, 1) := by decide +kernel
theorem dX8_copiesChunks_1 : decode cX8_copiesChunks 1 = .ok (.invokevirtual 192, 3) := by decide +kernel
theorem dX8_copiesChunks_4 : decode cX8_copiesChunks 4 = .ok (.ifCond .le 12, 3) := by decide +kernel
theorem dX8_copiesChunks_7 : decode cX8_copiesChunks 7 = .ok (.aload_n 0, 1) := by decide +kernel
theorem dX8_copiesChunks_8 : decode cX8_copiesChunks 8 = .ok (.aload_n 0, 1) := by decide +kernel
theorem dX8_copiesChunks_9 : decode cX8_copiesChunks 9 = .ok (.invokevirtual 192, 3) := by decide +kernel
theorem dX8_copiesChunks_12 : decode cX8_copiesChunks 12 = .ok (.invokevirtual 165, 3) := by decide +kernel
theorem dX8_copiesChunks_15 : decode cX8_copiesChunks 15 = .ok (.ireturn, 1) := by decide +kernel
theorem dX8_copiesChunks_16 : decode cX8_copiesChunks 16 = .ok (.aload_n 0, 1) := by decide +kernel
theorem dX8_copiesChunks_17 : decode cX8_copiesChunks 17 = .ok (.invokevirtual 147, 3) := by decide +kernel
theorem dX8_copiesChunks_20 : decode cX8_copiesChunks 20 = .ok (.istore_n 2, 1) := by decide +kernel
theorem dX8_copiesChunks_21 : decode cX8_copiesChunks 21 = .ok (.iload_n 1, 1) := by decide +kernel
theorem dX8_copiesChunks_22 : decode cX8_copiesChunks 22 = .ok (.istore_n 3, 1) := by decide +kernel
theorem dX8_copiesChunks_23 : decode cX8_copiesChunks 23 = .ok (.iconst 0, 1) := by decide +kernel
theorem dX8_copiesChunks_24 : decode cX8_copiesChunks 24 = .ok (.istore 4, 2) := by decide +kernel
theorem dX8_copiesChunks_26 : decode cX8_copiesChunks 26 = .ok (.iload 4, 2) := by decide +kernel
theorem dX8_copiesChunks_28 : decode cX8_copiesChunks 28 = .ok (.bipush 15, 2) := by decide +kernel
theorem dX8_copiesChunks_30 : decode cX8_copiesChunks 30 = .ok (.if_icmp .ge 97, 3) := by decide +kernel
theorem dX8_copiesChunks_33 : decode cX8_copiesChunks 33 = .ok (.iload_n 3, 1) := by decide +kernel
theorem dX8_copiesChunks_34 : decode cX8_copiesChunks 34 = .ok (.ifCond .le 93, 3) := by decide +kernel
theorem dX8_copiesChunks_37 : decode cX8_copiesChunks 37 = .ok (.aload_n 0, 1) := by decide +kernel
theorem dX8_copiesChunks_38 : decode cX8_copiesChunks 38 = .ok (.getfield 7, 3) := by decide +kernel
theorem dX8_copiesChunks_41 : decode cX8_copiesChunks 41 = .ok (.iconst 3, 1) := by decide +kernel
theorem dX8_copiesChunks_42 : decode cX8_copiesChunks 42 = .ok (.iaload, 1) := by decide +kernel
theorem dX8_copiesChunks_43 : decode cX8_copiesChunks 43 = .ok (.iload 4, 2) := by decide +kernel
theorem dX8_copiesChunks_45 : decode cX8_copiesChunks 45 = .ok (.invokestatic 59, 3) := by decide +kernel
theorem dX8_copiesChunks_48 : decode cX8_copiesChunks 48 = .ok (.ifCond .eq 6, 3) := by decide +kernel
theorem dX8_copiesChunks_51 : decode cX8_copiesChunks 51 = .ok (.goto 70, 3) := by decide +kernel
theorem dX8_copiesChunks_54 : decode cX8_copiesChunks 54 = .ok (.iconst 4, 1) := by decide +kernel
theorem dX8_copiesChunks_55 : decode cX8_copiesChunks 55 = .ok (.iload 4, 2) := by decide +kernel
theorem dX8_copiesChunks_57 : decode cX8_copiesChunks 57 = .ok (.imul, 1) := by decide +kernel
theorem dX8_copiesChunks_58 : decode cX8_copiesChunks 58 = .ok (.istore 5, 2) := by decide +kernel
theorem dX8_copiesChunks_60 : decode cX8_copiesChunks 60 = .ok (.iload 5, 2) := by decide +kernel
theorem dX8_copiesChunks_62 : decode cX8_copiesChunks 62 = .ok (.iconst 4, 1) := by decide +kernel
theorem dX8_copiesChunks_63 : decode cX8_copiesChunks 63 = .ok (.iload 4, 2) := by decide +kernel
theorem dX8_copiesChunks_65 : decode cX8_copiesChunks 65 = .ok (.imul, 1) := by decide +kernel
theorem dX8_copiesChunks_66 : decode cX8_copiesChunks 66 = .ok (.iconst 4, 1) := by decide +kernel
theorem dX8_copiesChunks_67 : decode cX8_copiesChunks 67 = .ok (.iadd, 1) := by decide +kernel
theorem dX8_copiesChunks_68 : decode cX8_copiesChunks 68 = .ok (.if_icmp .ge 15, 3) := by decide +kernel
theorem dX8_copiesChunks_71 : decode cX8_copiesChunks 71 = .ok (.aload_n 0, 1) := by decide +kernel
theorem dX8_copiesChunks_72 : decode cX8_copiesChunks 72 = .ok (.iload 5, 2) := by decide +kernel
theorem dX8_copiesChunks_74 : decode cX8_copiesChunks 74 = .ok (.invokevirtual 156, 3) := by decide +kernel
theorem dX8_copiesChunks_77 : decode cX8_copiesChunks 77 = .ok (.iinc 5 1, 3) := by decide +kernel
theorem dX8_copiesChunks_80 : decode cX8_copiesChunks 80 = .ok (.goto (-20), 3) := by decide +kernel
theorem dX8_copiesChunks_83 : decode cX8_copiesChunks 83 = .ok (.aload_n 0, 1) := by decide +kernel
theorem dX8_copiesChunks_84 : decode cX8_copiesChunks 84 = .ok (.getfield 7, 3) := by decide +kernel
theorem dX8_copiesChunks_87 : decode cX8_copiesChunks 87 = .ok (.iconst 3, 1) := by decide +kernel
theorem dX8_copiesChunks_88 : decode cX8_copiesChunks 88 = .ok (.dup2, 1) := by decide +kernel
theorem dX8_copiesChunks_89 : decode cX8_copiesChunks 89 = .ok (.iaload, 1) := by decide +kernel
theorem dX8_copiesChunks_90 : decode cX8_copiesChunks 90 = .ok (.iconst 1, 1) := by decide +kernel
theorem dX8_copiesChunks_91 : decode cX8_copiesChunks 91 = .ok (.iload 4, 2) := by decide +kernel
theorem dX8_copiesChunks_93 : decode cX8_copiesChunks 93 = .ok (.ishl, 1) := by decide +kernel
theorem dX8_copiesChunks_94 : decode cX8_copiesChunks 94 = .ok (.ior, 1) := by decide +kernel
theorem dX8_copiesChunks_95 : decode cX8_copiesChunks 95 = .ok (.iastore, 1) := by decide +kernel
theorem dX8_copiesChunks_96 : decode cX8_copiesChunks 96 = .ok (.aload_n 0, 1) := by decide +kernel
theorem dX8_copiesChunks_97 : decode cX8_copiesChunks 97 = .ok (.getfield 7, 3) := by decide +kernel
theorem dX8_copiesChunks_100 : decode cX8_copiesChunks 100 = .ok (.iconst 4, 1) := by decide +kernel
theorem dX8_copiesChunks_101 : decode cX8_copiesChunks 101 = .ok (.dup2, 1) := by decide +kernel
theorem dX8_copiesChunks_102 : decode cX8_copiesChunks 102 = .ok (.iaload, 1) := by decide +kernel
theorem dX8_copiesChunks_103 : decode cX8_copiesChunks 103 = .ok (.iconst 1, 1) := by decide +kernel
theorem dX8_copiesChunks_104 : decode cX8_copiesChunks 104 = .ok (.iload 4, 2) := by decide +kernel
theorem dX8_copiesChunks_106 : decode cX8_copiesChunks 106 = .ok (.ishl, 1) := by decide +kernel
theorem dX8_copiesChunks_107 : decode cX8_copiesChunks 107 = .ok (.iconst (-1), 1) := by decide +kernel
theorem dX8_copiesChunks_108 : decode cX8_copiesChunks 108 = .ok (.ixor, 1) := by decide +kernel
theorem dX8_copiesChunks_109 : decode cX8_copiesChunks 109 = .ok (.iand, 1) := by decide +kernel
theorem dX8_copiesChunks_110 : decode cX8_copiesChunks 110 = .ok (.iastore, 1) := by decide +kernel
theorem dX8_copiesChunks_111 : decode cX8_copiesChunks 111 = .ok (.aload_n 0, 1) := by decide +kernel
theorem dX8_copiesChunks_112 : decode cX8_copiesChunks 112 = .ok (.iconst 2, 1) := by decide +kernel
theorem dX8_copiesChunks_113 : decode cX8_copiesChunks 113 = .ok (.iload 4, 2) := by decide +kernel
theorem dX8_copiesChunks_115 : decode cX8_copiesChunks 115 = .ok (.invokevirtual 85, 3) := by decide +kernel
theorem dX8_copiesChunks_118 : decode cX8_copiesChunks 118 = .ok (.iinc 3 (-1), 3) := by decide +kernel
theorem dX8_copiesChunks_121 : decode cX8_copiesChunks 121 = .ok (.iinc 4 1, 3) := by decide +kernel
theorem dX8_copiesChunks_124 : decode cX8_copiesChunks 124 = .ok (.goto (-98), 3) := by decide +kernel
theorem dX8_copiesChunks_127 : decode cX8_copiesChunks 127 = .ok (.iload_n 2, 1) := by decide +kernel
theorem dX8_copiesChunks_128 : decode cX8_copiesChunks 128 = .ok (.ireturn, 1) := by decide +kernel
theorem tl_X8_192 : Cond.methodLink RX8 192 yX8_whyCopy ∈ TMW := tm_in 1879 (by decide +kernel) (by decide +kernel)
theorem ti_X8_whyCopy : Cond.instanceMethod yX8_whyCopy ∈ TMW := tm_in 1881 (by decide +kernel) (by decide +kernel)
theorem ts_X8_whyCopy : Cond.selects RX8 yX8_whyCopy yX8_whyCopy ∈ TMW := tm_in 73 (by decide +kernel) (by decide +kernel)
theorem tc_X8_whyCopy : Cond.code yX8_whyCopy cX8_whyCopy 1 (some .int) ∈ TMW := tm_in 1882 (by decide +kernel) (by decide +kernel)
def f_X8_copiesChunks_60b (K0 : Int32 → Int32 → Int32 → tmM → Option (Int32 × tmM)) (L : Int32 → Int32 → Int32 → Int32 → tmM → Option (Int32 × tmM)) (x2 x3 x4 x5 : Int32) (v : tmM) : Option (Int32 × tmM) := (if ((4 * x4) + 4) ≤ x5 then K0 x2 x3 x4 v else tm_cl (f_X8_makesSame x5 v) fun _ v8 => L x2 x3 x4 (x5 + 1) v8)
set_option maxRecDepth 100000 in
set_option maxHeartbeats 4000000 in
theorem w_X8_copiesChunks_60b {p : Program} {l : Launch} {e : Env} {s : State} {m : MethodId} {args : Array Value} {below : List Frame} {meth : Method} {c : Code} {D : va_G} {cy : Nat → ClassId} {ad : Nat → Nat} {A : Nat → Prop} {z : (Int32 × tmM)} {K0 : Int32 → Int32 → Int32 → tmM → Option (Int32 × tmM)} {L : Int32 → Int32 → Int32 → Int32 → tmM → Option (Int32 × tmM)} (C0 : tmC p s m args meth c cX8_copiesChunks 6 (some .int) RX8 TMW tm_NWR D cy tm_shR ad 13 [] A) (hK0 : ∀ (a2 a3 a4 : Int32) (w : tmM), tmG p l e ({ frames := 4, cells := 0, slots := 0, locals := 89 } : Room) s m args below meth c 0 0 (MQ below (va_Qi (fun r u => z = (r, u)) (tmAt tm_shR 13 D cy ad A) A) args s 0 0 A) 6 D cy tm_shR ad 13 [] A z 83 [(0, .ref (ad 0)), (2, .int a2), (3, .int a3), (4, .int a4)] [] w (K0 a2 a3 a4 w)) (hL : ∀ (a2 a3 a4 a5 : Int32) (w : tmM), tmG p l e ({ frames := 4, cells := 0, slots := 0, locals := 89 } : Room) s m args below meth c 0 0 (MQ below (va_Qi (fun r u => z = (r, u)) (tmAt tm_shR 13 D cy ad A) A) args s 0 0 A) 6 D cy tm_shR ad 13 [] A z 60 [(0, .ref (ad 0)), (2, .int a2), (3, .int a3), (4, .int a4), (5, .int a5)] [] w (L a2 a3 a4 a5 w)) (x2 x3 x4 x5 : Int32) (v : tmM) : tmG p l e ({ frames := 4, cells := 0, slots := 0, locals := 89 } : Room) s m args below meth c 0 0 (MQ below (va_Qi (fun r u => z = (r, u)) (tmAt tm_shR 13 D cy ad A) A) args s 0 0 A) 6 D cy tm_shR ad 13 [] A z 60 [(0, .ref (ad 0)), (2, .int x2), (3, .int x3), (4, .int x4), (5, .int x5)] [] v (f_X8_copiesChunks_60b K0 L x2 x3 x4 x5 v) := by
  unfold f_X8_copiesChunks_60b
  refine tg_iload 4 C0 dX8_copiesChunks_60 rfl ?_
  refine tg_iconst (x := 4) C0 dX8_copiesChunks_62 (by decide) ?_
  refine tg_iload 3 C0 dX8_copiesChunks_63 rfl ?_
  refine tg_imul C0 dX8_copiesChunks_65 ?_
  refine tg_iconst (x := 4) C0 dX8_copiesChunks_66 (by decide) ?_
  refine tg_iadd C0 dX8_copiesChunks_67 ?_
  refine tg_icmp_ge 83 C0 dX8_copiesChunks_68 (by decide) (fun _ => ?_) (fun _ => ?_)
  · refine tg_sub [0, 1, 2, 3] rfl ?_
    exact hK0 x2 x3 x4 v
  · refine tg_aload_n 0 C0 dX8_copiesChunks_71 rfl rfl ?_
    refine tg_iload 4 C0 dX8_copiesChunks_72 rfl ?_
    refine tg_callVv (As := [.int x5]) 0 1 C0 dX8_copiesChunks_74 (c_X8_makesSame l x5 v) rfl rfl (by decide) rfl rfl (tm_gV tl_X8_156 ti_X8_makesSame ts_X8_makesSame tn_X8 tc_X8_makesSame)  rfl rfl rfl rfl (by decide +kernel) ⟨by decide, by decide⟩ (Nat.le_of_ble_eq_true rfl) ⟨by decide, by decide⟩ (fun v8 _ => ?_)
    refine tg_iinc [(5, .int (x5 + 1)), (0, .ref (ad 0)), (2, .int x2), (3, .int x3), (4, .int x4)] 4 C0 dX8_copiesChunks_77 rfl rfl (by decide) rfl ?_
    refine tg_goto 60 C0 dX8_copiesChunks_80 (by decide) ?_
    refine tg_sub [1, 2, 3, 4, 0] rfl ?_
    exact hL x2 x3 x4 (x5 + 1) v8
def f_X8_copiesChunks_60 (K0 : Int32 → Int32 → Int32 → tmM → Option (Int32 × tmM)) : Nat → Int32 → Int32 → Int32 → Int32 → tmM → Option (Int32 × tmM)
  | 0 => fun _ _ _ _ _ => none
  | n + 1 => f_X8_copiesChunks_60b K0 (f_X8_copiesChunks_60 K0 n)
theorem w_X8_copiesChunks_60 {p : Program} {l : Launch} {e : Env} {s : State} {m : MethodId} {args : Array Value} {below : List Frame} {meth : Method} {c : Code} {D : va_G} {cy : Nat → ClassId} {ad : Nat → Nat} {A : Nat → Prop} {z : (Int32 × tmM)} {K0 : Int32 → Int32 → Int32 → tmM → Option (Int32 × tmM)} (C0 : tmC p s m args meth c cX8_copiesChunks 6 (some .int) RX8 TMW tm_NWR D cy tm_shR ad 13 [] A) (hK0 : ∀ (a2 a3 a4 : Int32) (w : tmM), tmG p l e ({ frames := 4, cells := 0, slots := 0, locals := 89 } : Room) s m args below meth c 0 0 (MQ below (va_Qi (fun r u => z = (r, u)) (tmAt tm_shR 13 D cy ad A) A) args s 0 0 A) 6 D cy tm_shR ad 13 [] A z 83 [(0, .ref (ad 0)), (2, .int a2), (3, .int a3), (4, .int a4)] [] w (K0 a2 a3 a4 w)) (nn : Nat) : ∀ (x2 x3 x4 x5 : Int32) (v : tmM), tmG p l e ({ frames := 4, cells := 0, slots := 0, locals := 89 } : Room) s m args below meth c 0 0 (MQ below (va_Qi (fun r u => z = (r, u)) (tmAt tm_shR 13 D cy ad A) A) args s 0 0 A) 6 D cy tm_shR ad 13 [] A z 60 [(0, .ref (ad 0)), (2, .int x2), (3, .int x3), (4, .int x4), (5, .int x5)] [] v (f_X8_copiesChunks_60 K0 nn x2 x3 x4 x5 v) := by
  induction nn with
  | zero => intro _ _ _ _ _; exact tg_none
  | succ n ih => intro x2 x3 x4 x5 v; exact w_X8_copiesChunks_60b C0 hK0 ih x2 x3 x4 x5 v
def f_X8_copiesChunks_121 (K0 : Int32 → tmM → Option (Int32 × tmM)) (L : Int32 → Int32 → Int32 → tmM → Option (Int32 × tmM)) (x2 x3 x4 : Int32) (v : tmM) : Option (Int32 × tmM) := L x2 x3 (x4 + 1) v
set_option maxRecDepth 100000 in
set_option maxHeartbeats 4000000 in
theorem w_X8_copiesChunks_121 {p : Program} {l : Launch} {e : Env} {s : State} {m : MethodId} {args : Array Value} {below : List Frame} {meth : Method} {c : Code} {D : va_G} {cy : Nat → ClassId} {ad : Nat → Nat} {A : Nat → Prop} {z : (Int32 × tmM)} {K0 : Int32 → tmM → Option (Int32 × tmM)} {L : Int32 → Int32 → Int32 → tmM → Option (Int32 × tmM)} (C0 : tmC p s m args meth c cX8_copiesChunks 6 (some .int) RX8 TMW tm_NWR D cy tm_shR ad 13 [] A) (hK0 : ∀ (a2 : Int32) (w : tmM), tmG p l e ({ frames := 4, cells := 0, slots := 0, locals := 89 } : Room) s m args below meth c 0 0 (MQ below (va_Qi (fun r u => z = (r, u)) (tmAt tm_shR 13 D cy ad A) A) args s 0 0 A) 6 D cy tm_shR ad 13 [] A z 127 [(2, .int a2)] [] w (K0 a2 w)) (hL : ∀ (a2 a3 a4 : Int32) (w : tmM), tmG p l e ({ frames := 4, cells := 0, slots := 0, locals := 89 } : Room) s m args below meth c 0 0 (MQ below (va_Qi (fun r u => z = (r, u)) (tmAt tm_shR 13 D cy ad A) A) args s 0 0 A) 6 D cy tm_shR ad 13 [] A z 26 [(0, .ref (ad 0)), (2, .int a2), (3, .int a3), (4, .int a4)] [] w (L a2 a3 a4 w)) (x2 x3 x4 : Int32) (v : tmM) : tmG p l e ({ frames := 4, cells := 0, slots := 0, locals := 89 } : Room) s m args below meth c 0 0 (MQ below (va_Qi (fun r u => z = (r, u)) (tmAt tm_shR 13 D cy ad A) A) args s 0 0 A) 6 D cy tm_shR ad 13 [] A z 121 [(0, .ref (ad 0)), (2, .int x2), (3, .int x3), (4, .int x4)] [] v (f_X8_copiesChunks_121 K0 L x2 x3 x4 v) := by
  unfold f_X8_copiesChunks_121
  refine tg_iinc [(4, .int (x4 + 1)), (0, .ref (ad 0)), (2, .int x2), (3, .int x3)] 3 C0 dX8_copiesChunks_121 rfl rfl (by decide) rfl ?_
  refine tg_goto 26 C0 dX8_copiesChunks_124 (by decide) ?_
  refine tg_sub [1, 2, 3, 0] rfl ?_
  exact hL x2 x3 (x4 + 1) v
def f_X8_copiesChunks_26b (K0 : Int32 → tmM → Option (Int32 × tmM)) (L : Int32 → Int32 → Int32 → tmM → Option (Int32 × tmM)) (x2 x3 x4 : Int32) (v : tmM) : Option (Int32 × tmM) := (if 15 ≤ x4 then K0 x2 v else (if x3 ≤ 0 then K0 x2 v else tm_g (tm_ix 3 491) (tm_cl (f_X8_has (v 1 (3 : Int32).toNatClampNeg) x4 v) fun r6 v5 => (if r6 = 0 then tm_lt (4 * x4) fun y7 => f_X8_copiesChunks_60 (fun x10 x11 x12 v13 => tm_g (tm_ix 3 491) (tm_g (tm_ix 3 491) (tm_lt (tm_up v13 1 (3 : Int32).toNatClampNeg ((v13 1 (3 : Int32).toNatClampNeg) ||| (1 <<< (x12 &&& 31)))) fun v14 => tm_g (tm_ix 4 491) (tm_g (tm_ix 4 491) (tm_lt (tm_up v14 1 (4 : Int32).toNatClampNeg ((v14 1 (4 : Int32).toNatClampNeg) &&& ((1 <<< (x12 &&& 31)) ^^^ (-1)))) fun v15 => tm_cl (f_X8_notes 2 x12 v15) fun _ v16 => f_X8_copiesChunks_121 K0 L x10 (x11 + (-1)) x12 v16))))) 10000 x2 x3 x4 y7 v5 else f_X8_copiesChunks_121 K0 L x2 x3 x4 v5))))
set_option maxRecDepth 100000 in
set_option maxHeartbeats 4000000 in
theorem w_X8_copiesChunks_26b {p : Program} {l : Launch} {e : Env} {s : State} {m : MethodId} {args : Array Value} {below : List Frame} {meth : Method} {c : Code} {D : va_G} {cy : Nat → ClassId} {ad : Nat → Nat} {A : Nat → Prop} {z : (Int32 × tmM)} {K0 : Int32 → tmM → Option (Int32 × tmM)} {L : Int32 → Int32 → Int32 → tmM → Option (Int32 × tmM)} (C0 : tmC p s m args meth c cX8_copiesChunks 6 (some .int) RX8 TMW tm_NWR D cy tm_shR ad 13 [] A) (hK0 : ∀ (a2 : Int32) (w : tmM), tmG p l e ({ frames := 4, cells := 0, slots := 0, locals := 89 } : Room) s m args below meth c 0 0 (MQ below (va_Qi (fun r u => z = (r, u)) (tmAt tm_shR 13 D cy ad A) A) args s 0 0 A) 6 D cy tm_shR ad 13 [] A z 127 [(2, .int a2)] [] w (K0 a2 w)) (hL : ∀ (a2 a3 a4 : Int32) (w : tmM), tmG p l e ({ frames := 4, cells := 0, slots := 0, locals := 89 } : Room) s m args below meth c 0 0 (MQ below (va_Qi (fun r u => z = (r, u)) (tmAt tm_shR 13 D cy ad A) A) args s 0 0 A) 6 D cy tm_shR ad 13 [] A z 26 [(0, .ref (ad 0)), (2, .int a2), (3, .int a3), (4, .int a4)] [] w (L a2 a3 a4 w)) (x2 x3 x4 : Int32) (v : tmM) : tmG p l e ({ frames := 4, cells := 0, slots := 0, locals := 89 } : Room) s m args below meth c 0 0 (MQ below (va_Qi (fun r u => z = (r, u)) (tmAt tm_shR 13 D cy ad A) A) args s 0 0 A) 6 D cy tm_shR ad 13 [] A z 26 [(0, .ref (ad 0)), (2, .int x2), (3, .int x3), (4, .int x4)] [] v (f_X8_copiesChunks_26b K0 L x2 x3 x4 v) := by
  unfold f_X8_copiesChunks_26b
  refine tg_iload 3 C0 dX8_copiesChunks_26 rfl ?_
  refine tg_bipush (x := 15) C0 dX8_copiesChunks_28 (by decide) ?_
  refine tg_icmp_ge 127 C0 dX8_copiesChunks_30 (by decide) (fun _ => ?_) (fun _ => ?_)
  · refine tg_sub [1] rfl ?_
    exact hK0 x2 v
  · refine tg_iload_n 2 C0 dX8_copiesChunks_33 rfl rfl ?_
    refine tg_if_le 127 C0 dX8_copiesChunks_34 (by decide) (fun _ => ?_) (fun _ => ?_)
    · refine tg_sub [1] rfl ?_
      exact hK0 x2 v
    · refine tg_aload_n 0 C0 dX8_copiesChunks_37 rfl rfl ?_
      refine tg_get 0 1 C0 dX8_copiesChunks_38 (by decide) rfl rfl tu_X8 (by decide) tf_X8_7 rfl rfl rfl ?_
      refine tg_iconst (x := 3) C0 dX8_copiesChunks_41 (by decide) ?_
      refine tg_iald 1 C0 dX8_copiesChunks_42 (by decide) rfl (fun _ => ?_)
      refine tg_iload 3 C0 dX8_copiesChunks_43 rfl ?_
      refine tg_callSi (As := [.int (v 1 (3 : Int32).toNatClampNeg), .int x4]) 2 C0 dX8_copiesChunks_45 (c_X8_has l (v 1 (3 : Int32).toNatClampNeg) x4 v) rfl rfl (tm_gc tc_X8_has) tl_X8_59 tn_X8 tst_X8_has  rfl rfl rfl rfl (by decide +kernel) ⟨by decide, by decide⟩ (Nat.le_of_ble_eq_true rfl) ⟨by decide, by decide⟩ (fun r6 v5 _ => ?_)
      refine tg_if_eq 54 C0 dX8_copiesChunks_48 (by decide) (fun _ => ?_) (fun _ => ?_)
      · refine tg_iconst (x := 4) C0 dX8_copiesChunks_54 (by decide) ?_
        refine tg_iload 3 C0 dX8_copiesChunks_55 rfl ?_
        refine tg_imul C0 dX8_copiesChunks_57 ?_
        refine tg_leti (fun y7 _ => ?_)
        refine tg_istore [(5, .int y7), (0, .ref (ad 0)), (2, .int x2), (3, .int x3), (4, .int x4)] C0 dX8_copiesChunks_58 (by decide) rfl ?_
        refine tg_sub [1, 2, 3, 4, 0] rfl ?_
        refine w_X8_copiesChunks_60 C0 (fun x10 x11 x12 v13 => ?_) 10000 x2 x3 x4 y7 v5
        refine tg_aload_n 0 C0 dX8_copiesChunks_83 rfl rfl ?_
        refine tg_get 0 1 C0 dX8_copiesChunks_84 (by decide) rfl rfl tu_X8 (by decide) tf_X8_7 rfl rfl rfl ?_
        refine tg_iconst (x := 3) C0 dX8_copiesChunks_87 (by decide) ?_
        refine tg_dup2 C0 dX8_copiesChunks_88 ⟨rfl, rfl⟩ ?_
        refine tg_iald 1 C0 dX8_copiesChunks_89 (by decide) rfl (fun _ => ?_)
        refine tg_iconst (x := 1) C0 dX8_copiesChunks_90 (by decide) ?_
        refine tg_iload 3 C0 dX8_copiesChunks_91 rfl ?_
        refine tg_ishl C0 dX8_copiesChunks_93 ?_
        refine tg_ior C0 dX8_copiesChunks_94 ?_
        refine tg_iast 1 C0 dX8_copiesChunks_95 (by decide) rfl (fun _ => ?_)
        refine tg_letm (fun v14 _ => ?_)
        refine tg_aload_n 0 C0 dX8_copiesChunks_96 rfl rfl ?_
        refine tg_get 0 1 C0 dX8_copiesChunks_97 (by decide) rfl rfl tu_X8 (by decide) tf_X8_7 rfl rfl rfl ?_
        refine tg_iconst (x := 4) C0 dX8_copiesChunks_100 (by decide) ?_
        refine tg_dup2 C0 dX8_copiesChunks_101 ⟨rfl, rfl⟩ ?_
        refine tg_iald 1 C0 dX8_copiesChunks_102 (by decide) rfl (fun _ => ?_)
        refine tg_iconst (x := 1) C0 dX8_copiesChunks_103 (by decide) ?_
        refine tg_iload 3 C0 dX8_copiesChunks_104 rfl ?_
        refine tg_ishl C0 dX8_copiesChunks_106 ?_
        refine tg_iconst (x := (-1)) C0 dX8_copiesChunks_107 (by decide) ?_
        refine tg_ixor C0 dX8_copiesChunks_108 ?_
        refine tg_iand C0 dX8_copiesChunks_109 ?_
        refine tg_iast 1 C0 dX8_copiesChunks_110 (by decide) rfl (fun _ => ?_)
        refine tg_letm (fun v15 _ => ?_)
        refine tg_aload_n 0 C0 dX8_copiesChunks_111 rfl rfl ?_
        refine tg_iconst (x := 2) C0 dX8_copiesChunks_112 (by decide) ?_
        refine tg_iload 3 C0 dX8_copiesChunks_113 rfl ?_
        refine tg_callVv (As := [.int 2, .int x12]) 0 2 C0 dX8_copiesChunks_115 (c_X8_notes l 2 x12 v15) rfl rfl (by decide) rfl rfl (tm_gV tl_X8_85 ti_X8_notes ts_X8_notes tn_X8 tc_X8_notes)  rfl rfl rfl rfl (by decide +kernel) ⟨by decide, by decide⟩ (Nat.le_of_ble_eq_true rfl) ⟨by decide, by decide⟩ (fun v16 _ => ?_)
        refine tg_iinc [(3, .int (x11 + (-1))), (0, .ref (ad 0)), (2, .int x10), (4, .int x12)] 2 C0 dX8_copiesChunks_118 rfl rfl (by decide) rfl ?_
        refine tg_sub [1, 2, 0, 3] rfl ?_
        exact w_X8_copiesChunks_121 C0 hK0 hL x10 (x11 + (-1)) x12 v16
      · refine tg_goto 121 C0 dX8_copiesChunks_51 (by decide) ?_
        exact w_X8_copiesChunks_121 C0 hK0 hL x2 x3 x4 v5
def f_X8_copiesChunks_26 (K0 : Int32 → tmM → Option (Int32 × tmM)) : Nat → Int32 → Int32 → Int32 → tmM → Option (Int32 × tmM)
  | 0 => fun _ _ _ _ => none
  | n + 1 => f_X8_copiesChunks_26b K0 (f_X8_copiesChunks_26 K0 n)
theorem w_X8_copiesChunks_26 {p : Program} {l : Launch} {e : Env} {s : State} {m : MethodId} {args : Array Value} {below : List Frame} {meth : Method} {c : Code} {D : va_G} {cy : Nat → ClassId} {ad : Nat → Nat} {A : Nat → Prop} {z : (Int32 × tmM)} {K0 : Int32 → tmM → Option (Int32 × tmM)} (C0 : tmC p s m args meth c cX8_copiesChunks 6 (some .int) RX8 TMW tm_NWR D cy tm_shR ad 13 [] A) (hK0 : ∀ (a2 : Int32) (w : tmM), tmG p l e ({ frames := 4, cells := 0, slots := 0, locals := 89 } : Room) s m args below meth c 0 0 (MQ below (va_Qi (fun r u => z = (r, u)) (tmAt tm_shR 13 D cy ad A) A) args s 0 0 A) 6 D cy tm_shR ad 13 [] A z 127 [(2, .int a2)] [] w (K0 a2 w)) (nn : Nat) : ∀ (x2 x3 x4 : Int32) (v : tmM), tmG p l e ({ frames := 4, cells := 0, slots := 0, locals := 89 } : Room) s m args below meth c 0 0 (MQ below (va_Qi (fun r u => z = (r, u)) (tmAt tm_shR 13 D cy ad A) A) args s 0 0 A) 6 D cy tm_shR ad 13 [] A z 26 [(0, .ref (ad 0)), (2, .int x2), (3, .int x3), (4, .int x4)] [] v (f_X8_copiesChunks_26 K0 nn x2 x3 x4 v) := by
  induction nn with
  | zero => intro _ _ _ _; exact tg_none
  | succ n ih => intro x2 x3 x4 v; exact w_X8_copiesChunks_26b C0 hK0 ih x2 x3 x4 v
def f_X8_copiesChunks (x1 : Int32) (v : tmM) : Option (Int32 × tmM) := tm_cl (f_X8_whyCopy v) fun r2 v1 => (if r2 ≤ 0 then tm_cl (f_X8_does v1) fun r4 v3 => f_X8_copiesChunks_26 (fun x18 v19 => some (x18, v19)) 10000 r4 x1 0 v3 else tm_cl (f_X8_whyCopy v1) fun r21 v20 => tm_cl (f_X8_refuses r21 v20) fun r23 v22 => some (r23, v22))
set_option maxRecDepth 100000 in
set_option maxHeartbeats 4000000 in
theorem w_X8_copiesChunks {p : Program} {l : Launch} {e : Env} {s : State} {m : MethodId} {args : Array Value} {below : List Frame} {meth : Method} {c : Code} {D : va_G} {cy : Nat → ClassId} {ad : Nat → Nat} {A : Nat → Prop} {z : (Int32 × tmM)} (C0 : tmC p s m args meth c cX8_copiesChunks 6 (some .int) RX8 TMW tm_NWR D cy tm_shR ad 13 [] A) (x1 : Int32) (v : tmM) : tmG p l e ({ frames := 4, cells := 0, slots := 0, locals := 89 } : Room) s m args below meth c 0 0 (MQ below (va_Qi (fun r u => z = (r, u)) (tmAt tm_shR 13 D cy ad A) A) args s 0 0 A) 6 D cy tm_shR ad 13 [] A z 0 [(0, .ref (ad 0)), (1, .int x1)] [] v (f_X8_copiesChunks x1 v) := by
  unfold f_X8_copiesChunks
  refine tg_aload_n 0 C0 dX8_copiesChunks_0 rfl rfl ?_
  refine tg_callVi (As := []) 0 0 C0 dX8_copiesChunks_1 (c_X8_whyCopy l v) rfl rfl (by decide) rfl rfl (tm_gV tl_X8_192 ti_X8_whyCopy ts_X8_whyCopy tn_X8 tc_X8_whyCopy)  rfl rfl rfl rfl (by decide +kernel) ⟨by decide, by decide⟩ (Nat.le_of_ble_eq_true rfl) ⟨by decide, by decide⟩ (fun r2 v1 _ => ?_)
  refine tg_if_le 16 C0 dX8_copiesChunks_4 (by decide) (fun _ => ?_) (fun _ => ?_)
  · refine tg_aload_n 0 C0 dX8_copiesChunks_16 rfl rfl ?_
    refine tg_callVi (As := []) 0 0 C0 dX8_copiesChunks_17 (c_X8_does l v1) rfl rfl (by decide) rfl rfl (tm_gV tl_X8_147 ti_X8_does ts_X8_does tn_X8 tc_X8_does)  rfl rfl rfl rfl (by decide +kernel) ⟨by decide, by decide⟩ (Nat.le_of_ble_eq_true rfl) ⟨by decide, by decide⟩ (fun r4 v3 _ => ?_)
    refine tg_istore_n [(2, .int r4), (0, .ref (ad 0)), (1, .int x1)] C0 dX8_copiesChunks_20 rfl (by decide) rfl ?_
    refine tg_iload_n 2 C0 dX8_copiesChunks_21 rfl rfl ?_
    refine tg_istore_n [(3, .int x1), (2, .int r4), (0, .ref (ad 0)), (1, .int x1)] C0 dX8_copiesChunks_22 rfl (by decide) rfl ?_
    refine tg_iconst (x := 0) C0 dX8_copiesChunks_23 (by decide) ?_
    refine tg_istore [(4, .int 0), (3, .int x1), (2, .int r4), (0, .ref (ad 0)), (1, .int x1)] C0 dX8_copiesChunks_24 (by decide) rfl ?_
    refine tg_sub [3, 2, 1, 0] rfl ?_
    refine w_X8_copiesChunks_26 C0 (fun x18 v19 => ?_) 10000 r4 x1 0 v3
    refine tg_iload_n 0 C0 dX8_copiesChunks_127 rfl rfl ?_
    exact tg_iret C0 dX8_copiesChunks_128
  · refine tg_aload_n 0 C0 dX8_copiesChunks_7 rfl rfl ?_
    refine tg_aload_n 0 C0 dX8_copiesChunks_8 rfl rfl ?_
    refine tg_callVi (As := []) 0 0 C0 dX8_copiesChunks_9 (c_X8_whyCopy l v1) rfl rfl (by decide) rfl rfl (tm_gV tl_X8_192 ti_X8_whyCopy ts_X8_whyCopy tn_X8 tc_X8_whyCopy)  rfl rfl rfl rfl (by decide +kernel) ⟨by decide, by decide⟩ (Nat.le_of_ble_eq_true rfl) ⟨by decide, by decide⟩ (fun r21 v20 _ => ?_)
    refine tg_callVi (As := [.int r21]) 0 1 C0 dX8_copiesChunks_12 (c_X8_refuses l r21 v20) rfl rfl (by decide) rfl rfl (tm_gV tl_X8_165 ti_X8_refuses ts_X8_refuses tn_X8 tc_X8_refuses)  rfl rfl rfl rfl (by decide +kernel) ⟨by decide, by decide⟩ (Nat.le_of_ble_eq_true rfl) ⟨by decide, by decide⟩ (fun r23 v22 _ => ?_)
    exact tg_iret C0 dX8_copiesChunks_15
theorem c_X8_copiesChunks (l : Launch) (x1 : Int32) (v : tmM) : tmMi tm_NWR tm_shR 13 l yX8_copiesChunks (Cond.code yX8_copiesChunks cX8_copiesChunks 6 (some .int) :: TMW) ({ frames := 4, cells := 0, slots := 0, locals := 89 } : Room) (fun ad => [.ref (ad 0), .int x1]) v (f_X8_copiesChunks x1 v) :=
  tmMi.of (cc := cX8_copiesChunks) (nL := 6) (by decide +kernel) rfl tm_NWR_ok (fun _ => Nat.le_of_ble_eq_true rfl) (fun p e s m args below meth c A D cy ad z C0 => w_X8_copiesChunks C0 x1 v)
-- ----- X8_isMany
theorem dX8_isMany_0 : decode cX8_isMany 0 = .ok (.iload_n 0, 1) := by decide +kernel
theorem dX8_isMany_1 : decode cX8_isMany 1 = .ok (.iconst 1, 1) := by decide +kernel
theorem dX8_isMany_2 : decode cX8_isMany 2 = .ok (.bipush 15, 2) := by decide +kernel
theorem dX8_isMany_4 : decode cX8_isMany 4 = .ok (.invokestatic 63, 3) := by decide +kernel
theorem dX8_isMany_7 : decode cX8_isMany 7 = .ok (.ireturn, 1) := by decide +kernel
def f_X8_isMany (x0 : Int32) (v : tmM) : Option (Int32 × tmM) := tm_cl (f_X8_in x0 1 15 v) fun r2 v1 => tm_g (tm_bi r2) (some (r2, v1))
set_option maxRecDepth 100000 in
set_option maxHeartbeats 4000000 in
theorem w_X8_isMany {p : Program} {l : Launch} {e : Env} {s : State} {m : MethodId} {args : Array Value} {below : List Frame} {meth : Method} {c : Code} {D : va_G} {cy : Nat → ClassId} {ad : Nat → Nat} {A : Nat → Prop} {z : (Int32 × tmM)} (C0 : tmC p s m args meth c cX8_isMany 1 (some .boolean) RX8 TMW tm_NWR D cy tm_shR ad 13 [] A) (x0 : Int32) (v : tmM) : tmG p l e ({ frames := 1, cells := 0, slots := 0, locals := 22 } : Room) s m args below meth c 0 0 (MQ below (va_Qi (fun r u => z = (r, u)) (tmAt tm_shR 13 D cy ad A) A) args s 0 0 A) 1 D cy tm_shR ad 13 [] A z 0 [(0, .int x0)] [] v (f_X8_isMany x0 v) := by
  unfold f_X8_isMany
  refine tg_iload_n 0 C0 dX8_isMany_0 rfl rfl ?_
  refine tg_iconst (x := 1) C0 dX8_isMany_1 (by decide) ?_
  refine tg_bipush (x := 15) C0 dX8_isMany_2 (by decide) ?_
  refine tg_callSi (As := [.int x0, .int 1, .int 15]) 3 C0 dX8_isMany_4 (c_X8_in l x0 1 15 v) rfl rfl (tm_gc tc_X8_in) tl_X8_63 tn_X8 tst_X8_in  rfl rfl rfl rfl (by decide +kernel) ⟨by decide, by decide⟩ (Nat.le_of_ble_eq_true rfl) ⟨by decide, by decide⟩ (fun r2 v1 _ => ?_)
  exact tg_bret C0 dX8_isMany_7
theorem c_X8_isMany (l : Launch) (x0 : Int32) (v : tmM) : tmMi tm_NWR tm_shR 13 l yX8_isMany (Cond.code yX8_isMany cX8_isMany 1 (some .boolean) :: TMW) ({ frames := 1, cells := 0, slots := 0, locals := 22 } : Room) (fun ad => [.int x0]) v (f_X8_isMany x0 v) :=
  tmMi.of (cc := cX8_isMany) (nL := 1) (by decide +kernel) rfl tm_NWR_ok (fun _ => Nat.le_of_ble_eq_true rfl) (fun p e s m args below meth c A D cy ad z C0 => w_X8_isMany C0 x0 v)
-- ----- X8_copy
theorem dX8_copy_0 : decode cX8_copy 0 = .ok (.aload_n 0, 1) := by decide +kernel
theorem dX8_copy_1 : decode cX8_copy 1 = .ok (.iload_n 1, 1) := by decide +kernel
theorem dX8_copy_2 : decode cX8_copy 2 = .ok (.invokestatic 195, 3) := by decide +kernel
theorem dX8_copy_5 : decode cX8_copy 5 = .ok (.ifCond .eq 7, 3) := by decide +kernel
theorem dX8_copy_8 : decode cX8_copy 8 = .ok (.iconst 0, 1) := by decide +kernel
theorem dX8_copy_9 : decode cX8_copy 9 = .ok (.goto 4, 3) := by decide +kernel
theorem dX8_copy_12 : decode cX8_copy 12 = .ok (.iconst 1, 1) := by decide +kernel
theorem dX8_copy_13 : decode cX8_copy 13 = .ok (.putfield 56, 3) := by decide +kernel
theorem dX8_copy_16 : decode cX8_copy 16 = .ok (.aload_n 0, 1) := by decide +kernel
theorem dX8_copy_17 : decode cX8_copy 17 = .ok (.getfield 56, 3) := by decide +kernel
theorem dX8_copy_20 : decode cX8_copy 20 = .ok (.ifCond .le 7, 3) := by decide +kernel
theorem dX8_copy_23 : decode cX8_copy 23 = .ok (.iconst 0, 1) := by decide +kernel
theorem dX8_copy_24 : decode cX8_copy 24 = .ok (.goto 8, 3) := by decide +kernel
theorem dX8_copy_27 : decode cX8_copy 27 = .ok (.aload_n 0, 1) := by decide +kernel
theorem dX8_copy_28 : decode cX8_copy 28 = .ok (.iload_n 1, 1) := by decide +kernel
theorem dX8_copy_29 : decode cX8_copy 29 = .ok (.invokevirtual 198, 3) := by decide +kernel
theorem dX8_copy_32 : decode cX8_copy 32 = .ok (.ireturn, 1) := by decide +kernel
theorem tc_X8_isMany : Cond.code yX8_isMany cX8_isMany 1 (some .boolean) ∈ TMW := tm_in 1874 (by decide +kernel) (by decide +kernel)
theorem tl_X8_195 : Cond.methodLink RX8 195 yX8_isMany ∈ TMW := tm_in 1872 (by decide +kernel) (by decide +kernel)
theorem tst_X8_isMany : Cond.static yX8_isMany ∈ TMW := tm_in 1873 (by decide +kernel) (by decide +kernel)
theorem tl_X8_198 : Cond.methodLink RX8 198 yX8_copiesChunks ∈ TMW := tm_in 1875 (by decide +kernel) (by decide +kernel)
theorem ti_X8_copiesChunks : Cond.instanceMethod yX8_copiesChunks ∈ TMW := tm_in 1877 (by decide +kernel) (by decide +kernel)
theorem ts_X8_copiesChunks : Cond.selects RX8 yX8_copiesChunks yX8_copiesChunks ∈ TMW := tm_in 72 (by decide +kernel) (by decide +kernel)
theorem tc_X8_copiesChunks : Cond.code yX8_copiesChunks cX8_copiesChunks 6 (some .int) ∈ TMW := tm_in 1878 (by decide +kernel) (by decide +kernel)
def f_X8_copy_13 (x1 s0 : Int32) (v : tmM) : Option (Int32 × tmM) := tm_lt (tm_up v 0 0 s0) fun v3 => (if (v3 0 0) ≤ 0 then tm_cl (f_X8_copiesChunks x1 v3) fun r5 v4 => some (r5, v4) else some (0, v3))
set_option maxRecDepth 100000 in
set_option maxHeartbeats 4000000 in
theorem w_X8_copy_13 {p : Program} {l : Launch} {e : Env} {s : State} {m : MethodId} {args : Array Value} {below : List Frame} {meth : Method} {c : Code} {D : va_G} {cy : Nat → ClassId} {ad : Nat → Nat} {A : Nat → Prop} {z : (Int32 × tmM)} (C0 : tmC p s m args meth c cX8_copy 2 (some .int) RX8 TMW tm_NWR D cy tm_shR ad 13 [] A) (x1 s0 : Int32) (v : tmM) : tmG p l e ({ frames := 5, cells := 0, slots := 0, locals := 114 } : Room) s m args below meth c 0 0 (MQ below (va_Qi (fun r u => z = (r, u)) (tmAt tm_shR 13 D cy ad A) A) args s 0 0 A) 2 D cy tm_shR ad 13 [] A z 13 [(0, .ref (ad 0)), (1, .int x1)] [.int s0, .ref (ad 0)] v (f_X8_copy_13 x1 s0 v) := by
  unfold f_X8_copy_13
  refine tg_put 0 0 C0 dX8_copy_13 (by decide) rfl rfl tu_X8 tyX8_ok nmX8 (by decide) tf_X8_56 rfl rfl rfl rfl rfl rfl ?_
  refine tg_letm (fun v3 _ => ?_)
  refine tg_aload_n 0 C0 dX8_copy_16 rfl rfl ?_
  refine tg_get 0 0 C0 dX8_copy_17 (by decide) rfl rfl tu_X8 (by decide) tf_X8_56 rfl rfl rfl ?_
  refine tg_if_le 27 C0 dX8_copy_20 (by decide) (fun _ => ?_) (fun _ => ?_)
  · refine tg_aload_n 0 C0 dX8_copy_27 rfl rfl ?_
    refine tg_iload_n 1 C0 dX8_copy_28 rfl rfl ?_
    refine tg_callVi (As := [.int x1]) 0 1 C0 dX8_copy_29 (c_X8_copiesChunks l x1 v3) rfl rfl (by decide) rfl rfl (tm_gV tl_X8_198 ti_X8_copiesChunks ts_X8_copiesChunks tn_X8 tc_X8_copiesChunks)  rfl rfl rfl rfl (by decide +kernel) ⟨by decide, by decide⟩ (Nat.le_of_ble_eq_true rfl) ⟨by decide, by decide⟩ (fun r5 v4 _ => ?_)
    exact tg_iret C0 dX8_copy_32
  · refine tg_iconst (x := 0) C0 dX8_copy_23 (by decide) ?_
    refine tg_goto 32 C0 dX8_copy_24 (by decide) ?_
    exact tg_iret C0 dX8_copy_32
def f_X8_copy (x1 : Int32) (v : tmM) : Option (Int32 × tmM) := tm_cl (f_X8_isMany x1 v) fun r2 v1 => (if r2 = 0 then f_X8_copy_13 x1 1 v1 else f_X8_copy_13 x1 0 v1)
set_option maxRecDepth 100000 in
set_option maxHeartbeats 4000000 in
theorem w_X8_copy {p : Program} {l : Launch} {e : Env} {s : State} {m : MethodId} {args : Array Value} {below : List Frame} {meth : Method} {c : Code} {D : va_G} {cy : Nat → ClassId} {ad : Nat → Nat} {A : Nat → Prop} {z : (Int32 × tmM)} (C0 : tmC p s m args meth c cX8_copy 2 (some .int) RX8 TMW tm_NWR D cy tm_shR ad 13 [] A) (x1 : Int32) (v : tmM) : tmG p l e ({ frames := 5, cells := 0, slots := 0, locals := 114 } : Room) s m args below meth c 0 0 (MQ below (va_Qi (fun r u => z = (r, u)) (tmAt tm_shR 13 D cy ad A) A) args s 0 0 A) 2 D cy tm_shR ad 13 [] A z 0 [(0, .ref (ad 0)), (1, .int x1)] [] v (f_X8_copy x1 v) := by
  unfold f_X8_copy
  refine tg_aload_n 0 C0 dX8_copy_0 rfl rfl ?_
  refine tg_iload_n 1 C0 dX8_copy_1 rfl rfl ?_
  refine tg_callSi (As := [.int x1]) 1 C0 dX8_copy_2 (c_X8_isMany l x1 v) rfl rfl (tm_gc tc_X8_isMany) tl_X8_195 tn_X8 tst_X8_isMany  rfl rfl rfl rfl (by decide +kernel) ⟨by decide, by decide⟩ (Nat.le_of_ble_eq_true rfl) ⟨by decide, by decide⟩ (fun r2 v1 _ => ?_)
  refine tg_if_eq 12 C0 dX8_copy_5 (by decide) (fun _ => ?_) (fun _ => ?_)
  · refine tg_iconst (x := 1) C0 dX8_copy_12 (by decide) ?_
    exact w_X8_copy_13 C0 x1 1 v1
  · refine tg_iconst (x := 0) C0 dX8_copy_8 (by decide) ?_
    refine tg_goto 13 C0 dX8_copy_9 (by decide) ?_
    exact w_X8_copy_13 C0 x1 0 v1
theorem c_X8_copy (l : Launch) (x1 : Int32) (v : tmM) : tmMi tm_NWR tm_shR 13 l yX8_copy (Cond.code yX8_copy cX8_copy 2 (some .int) :: TMW) ({ frames := 5, cells := 0, slots := 0, locals := 114 } : Room) (fun ad => [.ref (ad 0), .int x1]) v (f_X8_copy x1 v) :=
  tmMi.of (cc := cX8_copy) (nL := 2) (by decide +kernel) rfl tm_NWR_ok (fun _ => Nat.le_of_ble_eq_true rfl) (fun p e s m args below meth c A D cy ad z C0 => w_X8_copy C0 x1 v)
-- ----- X8_whyRepair
theorem dX8_whyRepair_0 : decode cX8_whyRepair 0 = .ok (.aload_n 0, 1) := by decide +kernel
theorem dX8_whyRepair_1 : decode cX8_whyRepair 1 = .ok (.invokevirtual 140, 3) := by decide +kernel
theorem dX8_whyRepair_4 : decode cX8_whyRepair 4 = .ok (.ifCond .ne 7, 3) := by decide +kernel
theorem dX8_whyRepair_7 : decode cX8_whyRepair 7 = .ok (.iconst 2, 1) := by decide +kernel
theorem dX8_whyRepair_8 : decode cX8_whyRepair 8 = .ok (.goto 30, 3) := by decide +kernel
theorem dX8_whyRepair_11 : decode cX8_whyRepair 11 = .ok (.aload_n 0, 1) := by decide +kernel
theorem dX8_whyRepair_12 : decode cX8_whyRepair 12 = .ok (.invokevirtual 180, 3) := by decide +kernel
theorem dX8_whyRepair_15 : decode cX8_whyRepair 15 = .ok (.ifCond .ne 7, 3) := by decide +kernel
theorem dX8_whyRepair_18 : decode cX8_whyRepair 18 = .ok (.iconst 1, 1) := by decide +kernel
theorem dX8_whyRepair_19 : decode cX8_whyRepair 19 = .ok (.goto 19, 3) := by decide +kernel
theorem dX8_whyRepair_22 : decode cX8_whyRepair 22 = .ok (.aload_n 0, 1) := by decide +kernel
theorem dX8_whyRepair_23 : decode cX8_whyRepair 23 = .ok (.getfield 7, 3) := by decide +kernel
theorem dX8_whyRepair_26 : decode cX8_whyRepair 26 = .ok (.bipush 7, 2) := by decide +kernel
theorem dX8_whyRepair_28 : decode cX8_whyRepair 28 = .ok (.iaload, 1) := by decide +kernel
theorem dX8_whyRepair_29 : decode cX8_whyRepair 29 = .ok (.ifCond .ne 8, 3) := by decide +kernel
theorem dX8_whyRepair_32 : decode cX8_whyRepair 32 = .ok (.bipush 9, 2) := by decide +kernel
theorem dX8_whyRepair_34 : decode cX8_whyRepair 34 = .ok (.goto 4, 3) := by decide +kernel
theorem dX8_whyRepair_37 : decode cX8_whyRepair 37 = .ok (.iconst 0, 1) := by decide +kernel
theorem dX8_whyRepair_38 : decode cX8_whyRepair 38 = .ok (.ireturn, 1) := by decide +kernel
def f_X8_whyRepair (v : tmM) : Option (Int32 × tmM) := tm_cl (f_X8_isBoth v) fun r2 v1 => (if r2 = 0 then some (2, v1) else tm_cl (f_X8_areUp v1) fun r4 v3 => (if r4 = 0 then some (1, v3) else tm_g (tm_ix 7 491) ((if (v3 1 (7 : Int32).toNatClampNeg) = 0 then some (9, v3) else some (0, v3)))))
set_option maxRecDepth 100000 in
set_option maxHeartbeats 4000000 in
theorem w_X8_whyRepair {p : Program} {l : Launch} {e : Env} {s : State} {m : MethodId} {args : Array Value} {below : List Frame} {meth : Method} {c : Code} {D : va_G} {cy : Nat → ClassId} {ad : Nat → Nat} {A : Nat → Prop} {z : (Int32 × tmM)} (C0 : tmC p s m args meth c cX8_whyRepair 1 (some .int) RX8 TMW tm_NWR D cy tm_shR ad 13 [] A) (v : tmM) : tmG p l e ({ frames := 1, cells := 0, slots := 0, locals := 20 } : Room) s m args below meth c 0 0 (MQ below (va_Qi (fun r u => z = (r, u)) (tmAt tm_shR 13 D cy ad A) A) args s 0 0 A) 1 D cy tm_shR ad 13 [] A z 0 [(0, .ref (ad 0))] [] v (f_X8_whyRepair v) := by
  unfold f_X8_whyRepair
  refine tg_aload_n 0 C0 dX8_whyRepair_0 rfl rfl ?_
  refine tg_callVi (As := []) 0 0 C0 dX8_whyRepair_1 (c_X8_isBoth l v) rfl rfl (by decide) rfl rfl (tm_gV tl_X8_140 ti_X8_isBoth ts_X8_isBoth tn_X8 tc_X8_isBoth)  rfl rfl rfl rfl (by decide +kernel) ⟨by decide, by decide⟩ (Nat.le_of_ble_eq_true rfl) ⟨by decide, by decide⟩ (fun r2 v1 _ => ?_)
  refine tg_if_ne 11 C0 dX8_whyRepair_4 (by decide) (fun _ => ?_) (fun _ => ?_)
  · refine tg_aload_n 0 C0 dX8_whyRepair_11 rfl rfl ?_
    refine tg_callVi (As := []) 0 0 C0 dX8_whyRepair_12 (c_X8_areUp l v1) rfl rfl (by decide) rfl rfl (tm_gV tl_X8_180 ti_X8_areUp ts_X8_areUp tn_X8 tc_X8_areUp)  rfl rfl rfl rfl (by decide +kernel) ⟨by decide, by decide⟩ (Nat.le_of_ble_eq_true rfl) ⟨by decide, by decide⟩ (fun r4 v3 _ => ?_)
    refine tg_if_ne 22 C0 dX8_whyRepair_15 (by decide) (fun _ => ?_) (fun _ => ?_)
    · refine tg_aload_n 0 C0 dX8_whyRepair_22 rfl rfl ?_
      refine tg_get 0 1 C0 dX8_whyRepair_23 (by decide) rfl rfl tu_X8 (by decide) tf_X8_7 rfl rfl rfl ?_
      refine tg_bipush (x := 7) C0 dX8_whyRepair_26 (by decide) ?_
      refine tg_iald 1 C0 dX8_whyRepair_28 (by decide) rfl (fun _ => ?_)
      refine tg_if_ne 37 C0 dX8_whyRepair_29 (by decide) (fun _ => ?_) (fun _ => ?_)
      · refine tg_iconst (x := 0) C0 dX8_whyRepair_37 (by decide) ?_
        exact tg_iret C0 dX8_whyRepair_38
      · refine tg_bipush (x := 9) C0 dX8_whyRepair_32 (by decide) ?_
        refine tg_goto 38 C0 dX8_whyRepair_34 (by decide) ?_
        exact tg_iret C0 dX8_whyRepair_38
    · refine tg_iconst (x := 1) C0 dX8_whyRepair_18 (by decide) ?_
      refine tg_goto 38 C0 dX8_whyRepair_19 (by decide) ?_
      exact tg_iret C0 dX8_whyRepair_38
  · refine tg_iconst (x := 2) C0 dX8_whyRepair_7 (by decide) ?_
    refine tg_goto 38 C0 dX8_whyRepair_8 (by decide) ?_
    exact tg_iret C0 dX8_whyRepair_38
theorem c_X8_whyRepair (l : Launch) (v : tmM) : tmMi tm_NWR tm_shR 13 l yX8_whyRepair (Cond.code yX8_whyRepair cX8_whyRepair 1 (some .int) :: TMW) ({ frames := 1, cells := 0, slots := 0, locals := 20 } : Room) (fun ad => [.ref (ad 0)]) v (f_X8_whyRepair v) :=
  tmMi.of (cc := cX8_whyRepair) (nL := 1) (by decide +kernel) rfl tm_NWR_ok (fun _ => Nat.le_of_ble_eq_true rfl) (fun p e s m args below meth c A D cy ad z C0 => w_X8_whyRepair C0 v)
-- ----- X8_repairs
theorem dX8_repairs_0 : decode cX8_repairs 0 = .ok (.aload_n 0, 1) := by decide +kernel
theorem dX8_repairs_1 : decode cX8_repairs 1 = .ok (.invokevirtual 201, 3) := by decide +kernel
theorem dX8_repairs_4 : decode cX8_repairs 4 = .ok (.ifCond .le 12, 3) := by decide +kernel
theorem dX8_repairs_7 : decode cX8_repairs 7 = .ok (.aload_n 0, 1) := by decide +kernel
theorem dX8_repairs_8 : decode cX8_repairs 8 = .ok (.aload_n 0, 1) := by decide +kernel
theorem dX8_repairs_9 : decode cX8_repairs 9 = .ok (.invokevirtual 201, 3) := by decide +kernel
theorem dX8_repairs_12 : decode cX8_repairs 12 = .ok (.invokevirtual 165, 3) := by decide +kernel
theorem dX8_repairs_15 : decode cX8_repairs 15 = .ok (.ireturn, 1) := by decide +kernel
theorem dX8_repairs_16 : decode cX8_repairs 16 = .ok (.aload_n 0, 1) := by decide +kernel
theorem dX8_repairs_17 : decode cX8_repairs 17 = .ok (.invokevirtual 147, 3) := by decide +kernel
theorem dX8_repairs_20 : decode cX8_repairs 20 = .ok (.istore_n 2, 1) := by decide +kernel
theorem dX8_repairs_21 : decode cX8_repairs 21 = .ok (.iconst 0, 1) := by decide +kernel
theorem dX8_repairs_22 : decode cX8_repairs 22 = .ok (.istore_n 3, 1) := by decide +kernel
theorem dX8_repairs_23 : decode cX8_repairs 23 = .ok (.iload_n 3, 1) := by decide +kernel
theorem dX8_repairs_24 : decode cX8_repairs 24 = .ok (.iload_n 1, 1) := by decide +kernel
theorem dX8_repairs_25 : decode cX8_repairs 25 = .ok (.if_icmp .ge 42, 3) := by decide +kernel
theorem dX8_repairs_28 : decode cX8_repairs 28 = .ok (.aload_n 0, 1) := by decide +kernel
theorem dX8_repairs_29 : decode cX8_repairs 29 = .ok (.getfield 7, 3) := by decide +kernel
theorem dX8_repairs_32 : decode cX8_repairs 32 = .ok (.bipush 7, 2) := by decide +kernel
theorem dX8_repairs_34 : decode cX8_repairs 34 = .ok (.iaload, 1) := by decide +kernel
theorem dX8_repairs_35 : decode cX8_repairs 35 = .ok (.ifCond .le 32, 3) := by decide +kernel
theorem dX8_repairs_38 : decode cX8_repairs 38 = .ok (.aload_n 0, 1) := by decide +kernel
theorem dX8_repairs_39 : decode cX8_repairs 39 = .ok (.getfield 7, 3) := by decide +kernel
theorem dX8_repairs_42 : decode cX8_repairs 42 = .ok (.sipush 131, 3) := by decide +kernel
theorem dX8_repairs_45 : decode cX8_repairs 45 = .ok (.iaload, 1) := by decide +kernel
theorem dX8_repairs_46 : decode cX8_repairs 46 = .ok (.istore 4, 2) := by decide +kernel
theorem dX8_repairs_48 : decode cX8_repairs 48 = .ok (.aload_n 0, 1) := by decide +kernel
theorem dX8_repairs_49 : decode cX8_repairs 49 = .ok (.iload 4, 2) := by decide +kernel
theorem dX8_repairs_51 : decode cX8_repairs 51 = .ok (.invokevirtual 156, 3) := by decide +kernel
theorem dX8_repairs_54 : decode cX8_repairs 54 = .ok (.aload_n 0, 1) := by decide +kernel
theorem dX8_repairs_55 : decode cX8_repairs 55 = .ok (.iconst 3, 1) := by decide +kernel
theorem dX8_repairs_56 : decode cX8_repairs 56 = .ok (.iload 4, 2) := by decide +kernel
theorem dX8_repairs_58 : decode cX8_repairs 58 = .ok (.invokevirtual 85, 3) := by decide +kernel
theorem dX8_repairs_61 : decode cX8_repairs 61 = .ok (.iinc 3 1, 3) := by decide +kernel
theorem dX8_repairs_64 : decode cX8_repairs 64 = .ok (.goto (-41), 3) := by decide +kernel
theorem dX8_repairs_67 : decode cX8_repairs 67 = .ok (.iload_n 2, 1) := by decide +kernel
theorem dX8_repairs_68 : decode cX8_repairs 68 = .ok (.ireturn, 1) := by decide +kernel
theorem tl_X8_201 : Cond.methodLink RX8 201 yX8_whyRepair ∈ TMW := tm_in 1891 (by decide +kernel) (by decide +kernel)
theorem ti_X8_whyRepair : Cond.instanceMethod yX8_whyRepair ∈ TMW := tm_in 1893 (by decide +kernel) (by decide +kernel)
theorem ts_X8_whyRepair : Cond.selects RX8 yX8_whyRepair yX8_whyRepair ∈ TMW := tm_in 75 (by decide +kernel) (by decide +kernel)
theorem tc_X8_whyRepair : Cond.code yX8_whyRepair cX8_whyRepair 1 (some .int) ∈ TMW := tm_in 1894 (by decide +kernel) (by decide +kernel)
def f_X8_repairs_23b (K0 : Int32 → tmM → Option (Int32 × tmM)) (L : Int32 → Int32 → Int32 → tmM → Option (Int32 × tmM)) (x1 x2 x3 : Int32) (v : tmM) : Option (Int32 × tmM) := (if x1 ≤ x3 then K0 x2 v else tm_g (tm_ix 7 491) ((if (v 1 (7 : Int32).toNatClampNeg) ≤ 0 then K0 x2 v else tm_g (tm_ix 131 491) (tm_lt (v 1 (131 : Int32).toNatClampNeg) fun y5 => tm_cl (f_X8_makesSame y5 v) fun _ v6 => tm_cl (f_X8_notes 3 y5 v6) fun _ v8 => L x1 x2 (x3 + 1) v8))))
set_option maxRecDepth 100000 in
set_option maxHeartbeats 4000000 in
theorem w_X8_repairs_23b {p : Program} {l : Launch} {e : Env} {s : State} {m : MethodId} {args : Array Value} {below : List Frame} {meth : Method} {c : Code} {D : va_G} {cy : Nat → ClassId} {ad : Nat → Nat} {A : Nat → Prop} {z : (Int32 × tmM)} {K0 : Int32 → tmM → Option (Int32 × tmM)} {L : Int32 → Int32 → Int32 → tmM → Option (Int32 × tmM)} (C0 : tmC p s m args meth c cX8_repairs 5 (some .int) RX8 TMW tm_NWR D cy tm_shR ad 13 [] A) (hK0 : ∀ (a2 : Int32) (w : tmM), tmG p l e ({ frames := 4, cells := 0, slots := 0, locals := 89 } : Room) s m args below meth c 0 0 (MQ below (va_Qi (fun r u => z = (r, u)) (tmAt tm_shR 13 D cy ad A) A) args s 0 0 A) 5 D cy tm_shR ad 13 [] A z 67 [(2, .int a2)] [] w (K0 a2 w)) (hL : ∀ (a1 a2 a3 : Int32) (w : tmM), tmG p l e ({ frames := 4, cells := 0, slots := 0, locals := 89 } : Room) s m args below meth c 0 0 (MQ below (va_Qi (fun r u => z = (r, u)) (tmAt tm_shR 13 D cy ad A) A) args s 0 0 A) 5 D cy tm_shR ad 13 [] A z 23 [(0, .ref (ad 0)), (1, .int a1), (2, .int a2), (3, .int a3)] [] w (L a1 a2 a3 w)) (x1 x2 x3 : Int32) (v : tmM) : tmG p l e ({ frames := 4, cells := 0, slots := 0, locals := 89 } : Room) s m args below meth c 0 0 (MQ below (va_Qi (fun r u => z = (r, u)) (tmAt tm_shR 13 D cy ad A) A) args s 0 0 A) 5 D cy tm_shR ad 13 [] A z 23 [(0, .ref (ad 0)), (1, .int x1), (2, .int x2), (3, .int x3)] [] v (f_X8_repairs_23b K0 L x1 x2 x3 v) := by
  unfold f_X8_repairs_23b
  refine tg_iload_n 3 C0 dX8_repairs_23 rfl rfl ?_
  refine tg_iload_n 1 C0 dX8_repairs_24 rfl rfl ?_
  refine tg_icmp_ge 67 C0 dX8_repairs_25 (by decide) (fun _ => ?_) (fun _ => ?_)
  · refine tg_sub [2] rfl ?_
    exact hK0 x2 v
  · refine tg_aload_n 0 C0 dX8_repairs_28 rfl rfl ?_
    refine tg_get 0 1 C0 dX8_repairs_29 (by decide) rfl rfl tu_X8 (by decide) tf_X8_7 rfl rfl rfl ?_
    refine tg_bipush (x := 7) C0 dX8_repairs_32 (by decide) ?_
    refine tg_iald 1 C0 dX8_repairs_34 (by decide) rfl (fun _ => ?_)
    refine tg_if_le 67 C0 dX8_repairs_35 (by decide) (fun _ => ?_) (fun _ => ?_)
    · refine tg_sub [2] rfl ?_
      exact hK0 x2 v
    · refine tg_aload_n 0 C0 dX8_repairs_38 rfl rfl ?_
      refine tg_get 0 1 C0 dX8_repairs_39 (by decide) rfl rfl tu_X8 (by decide) tf_X8_7 rfl rfl rfl ?_
      refine tg_sipush (x := 131) C0 dX8_repairs_42 (by decide) ?_
      refine tg_iald 1 C0 dX8_repairs_45 (by decide) rfl (fun _ => ?_)
      refine tg_leti (fun y5 _ => ?_)
      refine tg_istore [(4, .int y5), (0, .ref (ad 0)), (1, .int x1), (2, .int x2), (3, .int x3)] C0 dX8_repairs_46 (by decide) rfl ?_
      refine tg_aload_n 1 C0 dX8_repairs_48 rfl rfl ?_
      refine tg_iload 0 C0 dX8_repairs_49 rfl ?_
      refine tg_callVv (As := [.int y5]) 0 1 C0 dX8_repairs_51 (c_X8_makesSame l y5 v) rfl rfl (by decide) rfl rfl (tm_gV tl_X8_156 ti_X8_makesSame ts_X8_makesSame tn_X8 tc_X8_makesSame)  rfl rfl rfl rfl (by decide +kernel) ⟨by decide, by decide⟩ (Nat.le_of_ble_eq_true rfl) ⟨by decide, by decide⟩ (fun v6 _ => ?_)
      refine tg_aload_n 1 C0 dX8_repairs_54 rfl rfl ?_
      refine tg_iconst (x := 3) C0 dX8_repairs_55 (by decide) ?_
      refine tg_iload 0 C0 dX8_repairs_56 rfl ?_
      refine tg_callVv (As := [.int 3, .int y5]) 0 2 C0 dX8_repairs_58 (c_X8_notes l 3 y5 v6) rfl rfl (by decide) rfl rfl (tm_gV tl_X8_85 ti_X8_notes ts_X8_notes tn_X8 tc_X8_notes)  rfl rfl rfl rfl (by decide +kernel) ⟨by decide, by decide⟩ (Nat.le_of_ble_eq_true rfl) ⟨by decide, by decide⟩ (fun v8 _ => ?_)
      refine tg_iinc [(3, .int (x3 + 1)), (4, .int y5), (0, .ref (ad 0)), (1, .int x1), (2, .int x2)] 4 C0 dX8_repairs_61 rfl rfl (by decide) rfl ?_
      refine tg_goto 23 C0 dX8_repairs_64 (by decide) ?_
      refine tg_sub [2, 3, 4, 0] rfl ?_
      exact hL x1 x2 (x3 + 1) v8
def f_X8_repairs_23 (K0 : Int32 → tmM → Option (Int32 × tmM)) : Nat → Int32 → Int32 → Int32 → tmM → Option (Int32 × tmM)
  | 0 => fun _ _ _ _ => none
  | n + 1 => f_X8_repairs_23b K0 (f_X8_repairs_23 K0 n)
theorem w_X8_repairs_23 {p : Program} {l : Launch} {e : Env} {s : State} {m : MethodId} {args : Array Value} {below : List Frame} {meth : Method} {c : Code} {D : va_G} {cy : Nat → ClassId} {ad : Nat → Nat} {A : Nat → Prop} {z : (Int32 × tmM)} {K0 : Int32 → tmM → Option (Int32 × tmM)} (C0 : tmC p s m args meth c cX8_repairs 5 (some .int) RX8 TMW tm_NWR D cy tm_shR ad 13 [] A) (hK0 : ∀ (a2 : Int32) (w : tmM), tmG p l e ({ frames := 4, cells := 0, slots := 0, locals := 89 } : Room) s m args below meth c 0 0 (MQ below (va_Qi (fun r u => z = (r, u)) (tmAt tm_shR 13 D cy ad A) A) args s 0 0 A) 5 D cy tm_shR ad 13 [] A z 67 [(2, .int a2)] [] w (K0 a2 w)) (nn : Nat) : ∀ (x1 x2 x3 : Int32) (v : tmM), tmG p l e ({ frames := 4, cells := 0, slots := 0, locals := 89 } : Room) s m args below meth c 0 0 (MQ below (va_Qi (fun r u => z = (r, u)) (tmAt tm_shR 13 D cy ad A) A) args s 0 0 A) 5 D cy tm_shR ad 13 [] A z 23 [(0, .ref (ad 0)), (1, .int x1), (2, .int x2), (3, .int x3)] [] v (f_X8_repairs_23 K0 nn x1 x2 x3 v) := by
  induction nn with
  | zero => intro _ _ _ _; exact tg_none
  | succ n ih => intro x1 x2 x3 v; exact w_X8_repairs_23b C0 hK0 ih x1 x2 x3 v
def f_X8_repairs (x1 : Int32) (v : tmM) : Option (Int32 × tmM) := tm_cl (f_X8_whyRepair v) fun r2 v1 => (if r2 ≤ 0 then tm_cl (f_X8_does v1) fun r4 v3 => f_X8_repairs_23 (fun x10 v11 => some (x10, v11)) 10000 x1 r4 0 v3 else tm_cl (f_X8_whyRepair v1) fun r13 v12 => tm_cl (f_X8_refuses r13 v12) fun r15 v14 => some (r15, v14))
set_option maxRecDepth 100000 in
set_option maxHeartbeats 4000000 in
theorem w_X8_repairs {p : Program} {l : Launch} {e : Env} {s : State} {m : MethodId} {args : Array Value} {below : List Frame} {meth : Method} {c : Code} {D : va_G} {cy : Nat → ClassId} {ad : Nat → Nat} {A : Nat → Prop} {z : (Int32 × tmM)} (C0 : tmC p s m args meth c cX8_repairs 5 (some .int) RX8 TMW tm_NWR D cy tm_shR ad 13 [] A) (x1 : Int32) (v : tmM) : tmG p l e ({ frames := 4, cells := 0, slots := 0, locals := 89 } : Room) s m args below meth c 0 0 (MQ below (va_Qi (fun r u => z = (r, u)) (tmAt tm_shR 13 D cy ad A) A) args s 0 0 A) 5 D cy tm_shR ad 13 [] A z 0 [(0, .ref (ad 0)), (1, .int x1)] [] v (f_X8_repairs x1 v) := by
  unfold f_X8_repairs
  refine tg_aload_n 0 C0 dX8_repairs_0 rfl rfl ?_
  refine tg_callVi (As := []) 0 0 C0 dX8_repairs_1 (c_X8_whyRepair l v) rfl rfl (by decide) rfl rfl (tm_gV tl_X8_201 ti_X8_whyRepair ts_X8_whyRepair tn_X8 tc_X8_whyRepair)  rfl rfl rfl rfl (by decide +kernel) ⟨by decide, by decide⟩ (Nat.le_of_ble_eq_true rfl) ⟨by decide, by decide⟩ (fun r2 v1 _ => ?_)
  refine tg_if_le 16 C0 dX8_repairs_4 (by decide) (fun _ => ?_) (fun _ => ?_)
  · refine tg_aload_n 0 C0 dX8_repairs_16 rfl rfl ?_
    refine tg_callVi (As := []) 0 0 C0 dX8_repairs_17 (c_X8_does l v1) rfl rfl (by decide) rfl rfl (tm_gV tl_X8_147 ti_X8_does ts_X8_does tn_X8 tc_X8_does)  rfl rfl rfl rfl (by decide +kernel) ⟨by decide, by decide⟩ (Nat.le_of_ble_eq_true rfl) ⟨by decide, by decide⟩ (fun r4 v3 _ => ?_)
    refine tg_istore_n [(2, .int r4), (0, .ref (ad 0)), (1, .int x1)] C0 dX8_repairs_20 rfl (by decide) rfl ?_
    refine tg_iconst (x := 0) C0 dX8_repairs_21 (by decide) ?_
    refine tg_istore_n [(3, .int 0), (2, .int r4), (0, .ref (ad 0)), (1, .int x1)] C0 dX8_repairs_22 rfl (by decide) rfl ?_
    refine tg_sub [2, 3, 1, 0] rfl ?_
    refine w_X8_repairs_23 C0 (fun x10 v11 => ?_) 10000 x1 r4 0 v3
    refine tg_iload_n 0 C0 dX8_repairs_67 rfl rfl ?_
    exact tg_iret C0 dX8_repairs_68
  · refine tg_aload_n 0 C0 dX8_repairs_7 rfl rfl ?_
    refine tg_aload_n 0 C0 dX8_repairs_8 rfl rfl ?_
    refine tg_callVi (As := []) 0 0 C0 dX8_repairs_9 (c_X8_whyRepair l v1) rfl rfl (by decide) rfl rfl (tm_gV tl_X8_201 ti_X8_whyRepair ts_X8_whyRepair tn_X8 tc_X8_whyRepair)  rfl rfl rfl rfl (by decide +kernel) ⟨by decide, by decide⟩ (Nat.le_of_ble_eq_true rfl) ⟨by decide, by decide⟩ (fun r13 v12 _ => ?_)
    refine tg_callVi (As := [.int r13]) 0 1 C0 dX8_repairs_12 (c_X8_refuses l r13 v12) rfl rfl (by decide) rfl rfl (tm_gV tl_X8_165 ti_X8_refuses ts_X8_refuses tn_X8 tc_X8_refuses)  rfl rfl rfl rfl (by decide +kernel) ⟨by decide, by decide⟩ (Nat.le_of_ble_eq_true rfl) ⟨by decide, by decide⟩ (fun r15 v14 _ => ?_)
    exact tg_iret C0 dX8_repairs_15
theorem c_X8_repairs (l : Launch) (x1 : Int32) (v : tmM) : tmMi tm_NWR tm_shR 13 l yX8_repairs (Cond.code yX8_repairs cX8_repairs 5 (some .int) :: TMW) ({ frames := 4, cells := 0, slots := 0, locals := 89 } : Room) (fun ad => [.ref (ad 0), .int x1]) v (f_X8_repairs x1 v) :=
  tmMi.of (cc := cX8_repairs) (nL := 5) (by decide +kernel) rfl tm_NWR_ok (fun _ => Nat.le_of_ble_eq_true rfl) (fun p e s m args below meth c A D cy ad z C0 => w_X8_repairs C0 x1 v)
-- ----- X8_repair
theorem dX8_repair_0 : decode cX8_repair 0 = .ok (.aload_n 0, 1) := by decide +kernel
theorem dX8_repair_1 : decode cX8_repair 1 = .ok (.iload_n 1, 1) := by decide +kernel
theorem dX8_repair_2 : decode cX8_repair 2 = .ok (.invokestatic 195, 3) := by decide +kernel
theorem dX8_repair_5 : decode cX8_repair 5 = .ok (.ifCond .eq 7, 3) := by decide +kernel
theorem dX8_repair_8 : decode cX8_repair 8 = .ok (.iconst 0, 1) := by decide +kernel
theorem dX8_repair_9 : decode cX8_repair 9 = .ok (.goto 4, 3) := by decide +kernel
theorem dX8_repair_12 : decode cX8_repair 12 = .ok (.iconst 1, 1) := by decide +kernel
theorem dX8_repair_13 : decode cX8_repair 13 = .ok (.putfield 56, 3) := by decide +kernel
theorem dX8_repair_16 : decode cX8_repair 16 = .ok (.aload_n 0, 1) := by decide +kernel
theorem dX8_repair_17 : decode cX8_repair 17 = .ok (.getfield 56, 3) := by decide +kernel
theorem dX8_repair_20 : decode cX8_repair 20 = .ok (.ifCond .le 7, 3) := by decide +kernel
theorem dX8_repair_23 : decode cX8_repair 23 = .ok (.iconst 0, 1) := by decide +kernel
theorem dX8_repair_24 : decode cX8_repair 24 = .ok (.goto 8, 3) := by decide +kernel
theorem dX8_repair_27 : decode cX8_repair 27 = .ok (.aload_n 0, 1) := by decide +kernel
theorem dX8_repair_28 : decode cX8_repair 28 = .ok (.iload_n 1, 1) := by decide +kernel
theorem dX8_repair_29 : decode cX8_repair 29 = .ok (.invokevirtual 204, 3) := by decide +kernel
theorem dX8_repair_32 : decode cX8_repair 32 = .ok (.ireturn, 1) := by decide +kernel
theorem tl_X8_204 : Cond.methodLink RX8 204 yX8_repairs ∈ TMW := tm_in 1887 (by decide +kernel) (by decide +kernel)
theorem ti_X8_repairs : Cond.instanceMethod yX8_repairs ∈ TMW := tm_in 1889 (by decide +kernel) (by decide +kernel)
theorem ts_X8_repairs : Cond.selects RX8 yX8_repairs yX8_repairs ∈ TMW := tm_in 74 (by decide +kernel) (by decide +kernel)
theorem tc_X8_repairs : Cond.code yX8_repairs cX8_repairs 5 (some .int) ∈ TMW := tm_in 1890 (by decide +kernel) (by decide +kernel)
def f_X8_repair_13 (x1 s0 : Int32) (v : tmM) : Option (Int32 × tmM) := tm_lt (tm_up v 0 0 s0) fun v3 => (if (v3 0 0) ≤ 0 then tm_cl (f_X8_repairs x1 v3) fun r5 v4 => some (r5, v4) else some (0, v3))
set_option maxRecDepth 100000 in
set_option maxHeartbeats 4000000 in
theorem w_X8_repair_13 {p : Program} {l : Launch} {e : Env} {s : State} {m : MethodId} {args : Array Value} {below : List Frame} {meth : Method} {c : Code} {D : va_G} {cy : Nat → ClassId} {ad : Nat → Nat} {A : Nat → Prop} {z : (Int32 × tmM)} (C0 : tmC p s m args meth c cX8_repair 2 (some .int) RX8 TMW tm_NWR D cy tm_shR ad 13 [] A) (x1 s0 : Int32) (v : tmM) : tmG p l e ({ frames := 5, cells := 0, slots := 0, locals := 113 } : Room) s m args below meth c 0 0 (MQ below (va_Qi (fun r u => z = (r, u)) (tmAt tm_shR 13 D cy ad A) A) args s 0 0 A) 2 D cy tm_shR ad 13 [] A z 13 [(0, .ref (ad 0)), (1, .int x1)] [.int s0, .ref (ad 0)] v (f_X8_repair_13 x1 s0 v) := by
  unfold f_X8_repair_13
  refine tg_put 0 0 C0 dX8_repair_13 (by decide) rfl rfl tu_X8 tyX8_ok nmX8 (by decide) tf_X8_56 rfl rfl rfl rfl rfl rfl ?_
  refine tg_letm (fun v3 _ => ?_)
  refine tg_aload_n 0 C0 dX8_repair_16 rfl rfl ?_
  refine tg_get 0 0 C0 dX8_repair_17 (by decide) rfl rfl tu_X8 (by decide) tf_X8_56 rfl rfl rfl ?_
  refine tg_if_le 27 C0 dX8_repair_20 (by decide) (fun _ => ?_) (fun _ => ?_)
  · refine tg_aload_n 0 C0 dX8_repair_27 rfl rfl ?_
    refine tg_iload_n 1 C0 dX8_repair_28 rfl rfl ?_
    refine tg_callVi (As := [.int x1]) 0 1 C0 dX8_repair_29 (c_X8_repairs l x1 v3) rfl rfl (by decide) rfl rfl (tm_gV tl_X8_204 ti_X8_repairs ts_X8_repairs tn_X8 tc_X8_repairs)  rfl rfl rfl rfl (by decide +kernel) ⟨by decide, by decide⟩ (Nat.le_of_ble_eq_true rfl) ⟨by decide, by decide⟩ (fun r5 v4 _ => ?_)
    exact tg_iret C0 dX8_repair_32
  · refine tg_iconst (x := 0) C0 dX8_repair_23 (by decide) ?_
    refine tg_goto 32 C0 dX8_repair_24 (by decide) ?_
    exact tg_iret C0 dX8_repair_32
def f_X8_repair (x1 : Int32) (v : tmM) : Option (Int32 × tmM) := tm_cl (f_X8_isMany x1 v) fun r2 v1 => (if r2 = 0 then f_X8_repair_13 x1 1 v1 else f_X8_repair_13 x1 0 v1)
set_option maxRecDepth 100000 in
set_option maxHeartbeats 4000000 in
theorem w_X8_repair {p : Program} {l : Launch} {e : Env} {s : State} {m : MethodId} {args : Array Value} {below : List Frame} {meth : Method} {c : Code} {D : va_G} {cy : Nat → ClassId} {ad : Nat → Nat} {A : Nat → Prop} {z : (Int32 × tmM)} (C0 : tmC p s m args meth c cX8_repair 2 (some .int) RX8 TMW tm_NWR D cy tm_shR ad 13 [] A) (x1 : Int32) (v : tmM) : tmG p l e ({ frames := 5, cells := 0, slots := 0, locals := 113 } : Room) s m args below meth c 0 0 (MQ below (va_Qi (fun r u => z = (r, u)) (tmAt tm_shR 13 D cy ad A) A) args s 0 0 A) 2 D cy tm_shR ad 13 [] A z 0 [(0, .ref (ad 0)), (1, .int x1)] [] v (f_X8_repair x1 v) := by
  unfold f_X8_repair
  refine tg_aload_n 0 C0 dX8_repair_0 rfl rfl ?_
  refine tg_iload_n 1 C0 dX8_repair_1 rfl rfl ?_
  refine tg_callSi (As := [.int x1]) 1 C0 dX8_repair_2 (c_X8_isMany l x1 v) rfl rfl (tm_gc tc_X8_isMany) tl_X8_195 tn_X8 tst_X8_isMany  rfl rfl rfl rfl (by decide +kernel) ⟨by decide, by decide⟩ (Nat.le_of_ble_eq_true rfl) ⟨by decide, by decide⟩ (fun r2 v1 _ => ?_)
  refine tg_if_eq 12 C0 dX8_repair_5 (by decide) (fun _ => ?_) (fun _ => ?_)
  · refine tg_iconst (x := 1) C0 dX8_repair_12 (by decide) ?_
    exact w_X8_repair_13 C0 x1 1 v1
  · refine tg_iconst (x := 0) C0 dX8_repair_8 (by decide) ?_
    refine tg_goto 13 C0 dX8_repair_9 (by decide) ?_
    exact w_X8_repair_13 C0 x1 0 v1
theorem c_X8_repair (l : Launch) (x1 : Int32) (v : tmM) : tmMi tm_NWR tm_shR 13 l yX8_repair (Cond.code yX8_repair cX8_repair 2 (some .int) :: TMW) ({ frames := 5, cells := 0, slots := 0, locals := 113 } : Room) (fun ad => [.ref (ad 0), .int x1]) v (f_X8_repair x1 v) :=
  tmMi.of (cc := cX8_repair) (nL := 2) (by decide +kernel) rfl tm_NWR_ok (fun _ => Nat.le_of_ble_eq_true rfl) (fun p e s m args below meth c A D cy ad z C0 => w_X8_repair C0 x1 v)
-- ----- X8_whyCheck
theorem dX8_whyCheck_0 : decode cX8_whyCheck 0 = .ok (.aload_n 0, 1) := by decide +kernel
theorem dX8_whyCheck_1 : decode cX8_whyCheck 1 = .ok (.invokevirtual 140, 3) := by decide +kernel
theorem dX8_whyCheck_4 : decode cX8_whyCheck 4 = .ok (.ifCond .ne 7, 3) := by decide +kernel
theorem dX8_whyCheck_7 : decode cX8_whyCheck 7 = .ok (.iconst 2, 1) := by decide +kernel
theorem dX8_whyCheck_8 : decode cX8_whyCheck 8 = .ok (.goto 44, 3) := by decide +kernel
theorem dX8_whyCheck_11 : decode cX8_whyCheck 11 = .ok (.aload_n 0, 1) := by decide +kernel
theorem dX8_whyCheck_12 : decode cX8_whyCheck 12 = .ok (.invokevirtual 180, 3) := by decide +kernel
theorem dX8_whyCheck_15 : decode cX8_whyCheck 15 = .ok (.ifCond .ne 7, 3) := by decide +kernel
theorem dX8_whyCheck_18 : decode cX8_whyCheck 18 = .ok (.iconst 1, 1) := by decide +kernel
theorem dX8_whyCheck_19 : decode cX8_whyCheck 19 = .ok (.goto 33, 3) := by decide +kernel
theorem dX8_whyCheck_22 : decode cX8_whyCheck 22 = .ok (.aload_n 0, 1) := by decide +kernel
theorem dX8_whyCheck_23 : decode cX8_whyCheck 23 = .ok (.getfield 7, 3) := by decide +kernel
theorem dX8_whyCheck_26 : decode cX8_whyCheck 26 = .ok (.iconst 3, 1) := by decide +kernel
theorem dX8_whyCheck_27 : decode cX8_whyCheck 27 = .ok (.iaload, 1) := by decide +kernel
theorem dX8_whyCheck_28 : decode cX8_whyCheck 28 = .ok (.iload_n 1, 1) := by decide +kernel
theorem dX8_whyCheck_29 : decode cX8_whyCheck 29 = .ok (.invokestatic 59, 3) := by decide +kernel
theorem dX8_whyCheck_32 : decode cX8_whyCheck 32 = .ok (.ifCond .ne 7, 3) := by decide +kernel
theorem dX8_whyCheck_35 : decode cX8_whyCheck 35 = .ok (.iconst 3, 1) := by decide +kernel
theorem dX8_whyCheck_36 : decode cX8_whyCheck 36 = .ok (.goto 16, 3) := by decide +kernel
theorem dX8_whyCheck_39 : decode cX8_whyCheck 39 = .ok (.aload_n 0, 1) := by decide +kernel
theorem dX8_whyCheck_40 : decode cX8_whyCheck 40 = .ok (.iload_n 1, 1) := by decide +kernel
theorem dX8_whyCheck_41 : decode cX8_whyCheck 41 = .ok (.invokevirtual 137, 3) := by decide +kernel
theorem dX8_whyCheck_44 : decode cX8_whyCheck 44 = .ok (.ifCond .le 7, 3) := by decide +kernel
theorem dX8_whyCheck_47 : decode cX8_whyCheck 47 = .ok (.iconst 4, 1) := by decide +kernel
theorem dX8_whyCheck_48 : decode cX8_whyCheck 48 = .ok (.goto 4, 3) := by decide +kernel
theorem dX8_whyCheck_51 : decode cX8_whyCheck 51 = .ok (.iconst 0, 1) := by decide +kernel
theorem dX8_whyCheck_52 : decode cX8_whyCheck 52 = .ok (.ireturn, 1) := by decide +kernel
def f_X8_whyCheck (x1 : Int32) (v : tmM) : Option (Int32 × tmM) := tm_cl (f_X8_isBoth v) fun r2 v1 => (if r2 = 0 then some (2, v1) else tm_cl (f_X8_areUp v1) fun r4 v3 => (if r4 = 0 then some (1, v3) else tm_g (tm_ix 3 491) (tm_cl (f_X8_has (v3 1 (3 : Int32).toNatClampNeg) x1 v3) fun r6 v5 => (if r6 = 0 then some (3, v5) else tm_cl (f_X8_staleIn x1 v5) fun r8 v7 => (if r8 ≤ 0 then some (0, v7) else some (4, v7))))))
set_option maxRecDepth 100000 in
set_option maxHeartbeats 4000000 in
theorem w_X8_whyCheck {p : Program} {l : Launch} {e : Env} {s : State} {m : MethodId} {args : Array Value} {below : List Frame} {meth : Method} {c : Code} {D : va_G} {cy : Nat → ClassId} {ad : Nat → Nat} {A : Nat → Prop} {z : (Int32 × tmM)} (C0 : tmC p s m args meth c cX8_whyCheck 2 (some .int) RX8 TMW tm_NWR D cy tm_shR ad 13 [] A) (x1 : Int32) (v : tmM) : tmG p l e ({ frames := 1, cells := 0, slots := 0, locals := 23 } : Room) s m args below meth c 0 0 (MQ below (va_Qi (fun r u => z = (r, u)) (tmAt tm_shR 13 D cy ad A) A) args s 0 0 A) 2 D cy tm_shR ad 13 [] A z 0 [(0, .ref (ad 0)), (1, .int x1)] [] v (f_X8_whyCheck x1 v) := by
  unfold f_X8_whyCheck
  refine tg_aload_n 0 C0 dX8_whyCheck_0 rfl rfl ?_
  refine tg_callVi (As := []) 0 0 C0 dX8_whyCheck_1 (c_X8_isBoth l v) rfl rfl (by decide) rfl rfl (tm_gV tl_X8_140 ti_X8_isBoth ts_X8_isBoth tn_X8 tc_X8_isBoth)  rfl rfl rfl rfl (by decide +kernel) ⟨by decide, by decide⟩ (Nat.le_of_ble_eq_true rfl) ⟨by decide, by decide⟩ (fun r2 v1 _ => ?_)
  refine tg_if_ne 11 C0 dX8_whyCheck_4 (by decide) (fun _ => ?_) (fun _ => ?_)
  · refine tg_aload_n 0 C0 dX8_whyCheck_11 rfl rfl ?_
    refine tg_callVi (As := []) 0 0 C0 dX8_whyCheck_12 (c_X8_areUp l v1) rfl rfl (by decide) rfl rfl (tm_gV tl_X8_180 ti_X8_areUp ts_X8_areUp tn_X8 tc_X8_areUp)  rfl rfl rfl rfl (by decide +kernel) ⟨by decide, by decide⟩ (Nat.le_of_ble_eq_true rfl) ⟨by decide, by decide⟩ (fun r4 v3 _ => ?_)
    refine tg_if_ne 22 C0 dX8_whyCheck_15 (by decide) (fun _ => ?_) (fun _ => ?_)
    · refine tg_aload_n 0 C0 dX8_whyCheck_22 rfl rfl ?_
      refine tg_get 0 1 C0 dX8_whyCheck_23 (by decide) rfl rfl tu_X8 (by decide) tf_X8_7 rfl rfl rfl ?_
      refine tg_iconst (x := 3) C0 dX8_whyCheck_26 (by decide) ?_
      refine tg_iald 1 C0 dX8_whyCheck_27 (by decide) rfl (fun _ => ?_)
      refine tg_iload_n 1 C0 dX8_whyCheck_28 rfl rfl ?_
      refine tg_callSi (As := [.int (v3 1 (3 : Int32).toNatClampNeg), .int x1]) 2 C0 dX8_whyCheck_29 (c_X8_has l (v3 1 (3 : Int32).toNatClampNeg) x1 v3) rfl rfl (tm_gc tc_X8_has) tl_X8_59 tn_X8 tst_X8_has  rfl rfl rfl rfl (by decide +kernel) ⟨by decide, by decide⟩ (Nat.le_of_ble_eq_true rfl) ⟨by decide, by decide⟩ (fun r6 v5 _ => ?_)
      refine tg_if_ne 39 C0 dX8_whyCheck_32 (by decide) (fun _ => ?_) (fun _ => ?_)
      · refine tg_aload_n 0 C0 dX8_whyCheck_39 rfl rfl ?_
        refine tg_iload_n 1 C0 dX8_whyCheck_40 rfl rfl ?_
        refine tg_callVi (As := [.int x1]) 0 1 C0 dX8_whyCheck_41 (c_X8_staleIn l x1 v5) rfl rfl (by decide) rfl rfl (tm_gV tl_X8_137 ti_X8_staleIn ts_X8_staleIn tn_X8 tc_X8_staleIn)  rfl rfl rfl rfl (by decide +kernel) ⟨by decide, by decide⟩ (Nat.le_of_ble_eq_true rfl) ⟨by decide, by decide⟩ (fun r8 v7 _ => ?_)
        refine tg_if_le 51 C0 dX8_whyCheck_44 (by decide) (fun _ => ?_) (fun _ => ?_)
        · refine tg_iconst (x := 0) C0 dX8_whyCheck_51 (by decide) ?_
          exact tg_iret C0 dX8_whyCheck_52
        · refine tg_iconst (x := 4) C0 dX8_whyCheck_47 (by decide) ?_
          refine tg_goto 52 C0 dX8_whyCheck_48 (by decide) ?_
          exact tg_iret C0 dX8_whyCheck_52
      · refine tg_iconst (x := 3) C0 dX8_whyCheck_35 (by decide) ?_
        refine tg_goto 52 C0 dX8_whyCheck_36 (by decide) ?_
        exact tg_iret C0 dX8_whyCheck_52
    · refine tg_iconst (x := 1) C0 dX8_whyCheck_18 (by decide) ?_
      refine tg_goto 52 C0 dX8_whyCheck_19 (by decide) ?_
      exact tg_iret C0 dX8_whyCheck_52
  · refine tg_iconst (x := 2) C0 dX8_whyCheck_7 (by decide) ?_
    refine tg_goto 52 C0 dX8_whyCheck_8 (by decide) ?_
    exact tg_iret C0 dX8_whyCheck_52
theorem c_X8_whyCheck (l : Launch) (x1 : Int32) (v : tmM) : tmMi tm_NWR tm_shR 13 l yX8_whyCheck (Cond.code yX8_whyCheck cX8_whyCheck 2 (some .int) :: TMW) ({ frames := 1, cells := 0, slots := 0, locals := 23 } : Room) (fun ad => [.ref (ad 0), .int x1]) v (f_X8_whyCheck x1 v) :=
  tmMi.of (cc := cX8_whyCheck) (nL := 2) (by decide +kernel) rfl tm_NWR_ok (fun _ => Nat.le_of_ble_eq_true rfl) (fun p e s m args below meth c A D cy ad z C0 => w_X8_whyCheck C0 x1 v)
-- ----- X8_checks
theorem dX8_checks_0 : decode cX8_checks 0 = .ok (.aload_n 0, 1) := by decide +kernel
theorem dX8_checks_1 : decode cX8_checks 1 = .ok (.iload_n 1, 1) := by decide +kernel
theorem dX8_checks_2 : decode cX8_checks 2 = .ok (.invokevirtual 207, 3) := by decide +kernel
theorem dX8_checks_5 : decode cX8_checks 5 = .ok (.ifCond .le 13, 3) := by decide +kernel
theorem dX8_checks_8 : decode cX8_checks 8 = .ok (.aload_n 0, 1) := by decide +kernel
theorem dX8_checks_9 : decode cX8_checks 9 = .ok (.aload_n 0, 1) := by decide +kernel
theorem dX8_checks_10 : decode cX8_checks 10 = .ok (.iload_n 1, 1) := by decide +kernel
theorem dX8_checks_11 : decode cX8_checks 11 = .ok (.invokevirtual 207, 3) := by decide +kernel
theorem dX8_checks_14 : decode cX8_checks 14 = .ok (.invokevirtual 165, 3) := by decide +kernel
theorem dX8_checks_17 : decode cX8_checks 17 = .ok (.ireturn, 1) := by decide +kernel
theorem dX8_checks_18 : decode cX8_checks 18 = .ok (.aload_n 0, 1) := by decide +kernel
theorem dX8_checks_19 : decode cX8_checks 19 = .ok (.invokevirtual 147, 3) := by decide +kernel
theorem dX8_checks_22 : decode cX8_checks 22 = .ok (.istore_n 2, 1) := by decide +kernel
theorem dX8_checks_23 : decode cX8_checks 23 = .ok (.aload_n 0, 1) := by decide +kernel
theorem dX8_checks_24 : decode cX8_checks 24 = .ok (.iconst 0, 1) := by decide +kernel
theorem dX8_checks_25 : decode cX8_checks 25 = .ok (.iload_n 1, 1) := by decide +kernel
theorem dX8_checks_26 : decode cX8_checks 26 = .ok (.invokevirtual 134, 3) := by decide +kernel
theorem dX8_checks_29 : decode cX8_checks 29 = .ok (.aload_n 0, 1) := by decide +kernel
theorem dX8_checks_30 : decode cX8_checks 30 = .ok (.iconst 1, 1) := by decide +kernel
theorem dX8_checks_31 : decode cX8_checks 31 = .ok (.iload_n 1, 1) := by decide +kernel
theorem dX8_checks_32 : decode cX8_checks 32 = .ok (.invokevirtual 134, 3) := by decide +kernel
theorem dX8_checks_35 : decode cX8_checks 35 = .ok (.if_icmp .ne 7, 3) := by decide +kernel
theorem dX8_checks_38 : decode cX8_checks 38 = .ok (.iconst 1, 1) := by decide +kernel
theorem dX8_checks_39 : decode cX8_checks 39 = .ok (.goto 4, 3) := by decide +kernel
theorem dX8_checks_42 : decode cX8_checks 42 = .ok (.iconst 0, 1) := by decide +kernel
theorem dX8_checks_43 : decode cX8_checks 43 = .ok (.istore_n 3, 1) := by decide +kernel
theorem dX8_checks_44 : decode cX8_checks 44 = .ok (.aload_n 0, 1) := by decide +kernel
theorem dX8_checks_45 : decode cX8_checks 45 = .ok (.iload_n 3, 1) := by decide +kernel
theorem dX8_checks_46 : decode cX8_checks 46 = .ok (.ifCond .eq 7, 3) := by decide +kernel
theorem dX8_checks_49 : decode cX8_checks 49 = .ok (.iconst 4, 1) := by decide +kernel
theorem dX8_checks_50 : decode cX8_checks 50 = .ok (.goto 4, 3) := by decide +kernel
theorem dX8_checks_53 : decode cX8_checks 53 = .ok (.iconst 5, 1) := by decide +kernel
theorem dX8_checks_54 : decode cX8_checks 54 = .ok (.iload_n 1, 1) := by decide +kernel
theorem dX8_checks_55 : decode cX8_checks 55 = .ok (.invokevirtual 85, 3) := by decide +kernel
theorem dX8_checks_58 : decode cX8_checks 58 = .ok (.iload_n 3, 1) := by decide +kernel
theorem dX8_checks_59 : decode cX8_checks 59 = .ok (.ifCond .eq 18, 3) := by decide +kernel
theorem dX8_checks_62 : decode cX8_checks 62 = .ok (.aload_n 0, 1) := by decide +kernel
theorem dX8_checks_63 : decode cX8_checks 63 = .ok (.getfield 7, 3) := by decide +kernel
theorem dX8_checks_66 : decode cX8_checks 66 = .ok (.iconst 4, 1) := by decide +kernel
theorem dX8_checks_67 : decode cX8_checks 67 = .ok (.dup2, 1) := by decide +kernel
theorem dX8_checks_68 : decode cX8_checks 68 = .ok (.iaload, 1) := by decide +kernel
theorem dX8_checks_69 : decode cX8_checks 69 = .ok (.iconst 1, 1) := by decide +kernel
theorem dX8_checks_70 : decode cX8_checks 70 = .ok (.iload_n 1, 1) := by decide +kernel
theorem dX8_checks_71 : decode cX8_checks 71 = .ok (.ishl, 1) := by decide +kernel
theorem dX8_checks_72 : decode cX8_checks 72 = .ok (.ior, 1) := by decide +kernel
theorem dX8_checks_73 : decode cX8_checks 73 = .ok (.iastore, 1) := by decide +kernel
theorem dX8_checks_74 : decode cX8_checks 74 = .ok (.goto 26, 3) := by decide +kernel
theorem dX8_checks_77 : decode cX8_checks 77 = .ok (.aload_n 0, 1) := by decide +kernel
theorem dX8_checks_78 : decode cX8_checks 78 = .ok (.getfield 7, 3) := by decide +kernel
theorem dX8_checks_81 : decode cX8_checks 81 = .ok (.iconst 4, 1) := by decide +kernel
theorem dX8_checks_82 : decode cX8_checks 82 = .ok (.dup2, 1) := by decide +kernel
theorem dX8_checks_83 : decode cX8_checks 83 = .ok (.iaload, 1) := by decide +kernel
theorem dX8_checks_84 : decode cX8_checks 84 = .ok (.iconst 1, 1) := by decide +kernel
theorem dX8_checks_85 : decode cX8_checks 85 = .ok (.iload_n 1, 1) := by decide +kernel
theorem dX8_checks_86 : decode cX8_checks 86 = .ok (.ishl, 1) := by decide +kernel
theorem dX8_checks_87 : decode cX8_checks 87 = .ok (.iconst (-1), 1) := by decide +kernel
theorem dX8_checks_88 : decode cX8_checks 88 = .ok (.ixor, 1) := by decide +kernel
theorem dX8_checks_89 : decode cX8_checks 89 = .ok (.iand, 1) := by decide +kernel
theorem dX8_checks_90 : decode cX8_checks 90 = .ok (.iastore, 1) := by decide +kernel
theorem dX8_checks_91 : decode cX8_checks 91 = .ok (.aload_n 0, 1) := by decide +kernel
theorem dX8_checks_92 : decode cX8_checks 92 = .ok (.aload_n 0, 1) := by decide +kernel
theorem dX8_checks_93 : decode cX8_checks 93 = .ok (.iload_n 1, 1) := by decide +kernel
theorem dX8_checks_94 : decode cX8_checks 94 = .ok (.invokevirtual 144, 3) := by decide +kernel
theorem dX8_checks_97 : decode cX8_checks 97 = .ok (.invokevirtual 159, 3) := by decide +kernel
theorem dX8_checks_100 : decode cX8_checks 100 = .ok (.iload_n 2, 1) := by decide +kernel
theorem dX8_checks_101 : decode cX8_checks 101 = .ok (.ireturn, 1) := by decide +kernel
theorem tl_X8_207 : Cond.methodLink RX8 207 yX8_whyCheck ∈ TMW := tm_in 1903 (by decide +kernel) (by decide +kernel)
theorem ti_X8_whyCheck : Cond.instanceMethod yX8_whyCheck ∈ TMW := tm_in 1905 (by decide +kernel) (by decide +kernel)
theorem ts_X8_whyCheck : Cond.selects RX8 yX8_whyCheck yX8_whyCheck ∈ TMW := tm_in 77 (by decide +kernel) (by decide +kernel)
theorem tc_X8_whyCheck : Cond.code yX8_whyCheck cX8_whyCheck 2 (some .int) ∈ TMW := tm_in 1906 (by decide +kernel) (by decide +kernel)
def f_X8_checks_54 (x1 x2 x3 s0 : Int32) (v : tmM) : Option (Int32 × tmM) := tm_cl (f_X8_notes s0 x1 v) fun _ v9 => (if x3 = 0 then tm_g (tm_ix 4 491) (tm_g (tm_ix 4 491) (tm_lt (tm_up v9 1 (4 : Int32).toNatClampNeg ((v9 1 (4 : Int32).toNatClampNeg) &&& ((1 <<< (x1 &&& 31)) ^^^ (-1)))) fun v11 => tm_cl (f_X8_firstUnlike x1 v11) fun r13 v12 => tm_cl (f_X8_becomesStale r13 v12) fun _ v14 => some (x2, v14))) else tm_g (tm_ix 4 491) (tm_g (tm_ix 4 491) (tm_lt (tm_up v9 1 (4 : Int32).toNatClampNeg ((v9 1 (4 : Int32).toNatClampNeg) ||| (1 <<< (x1 &&& 31)))) fun v16 => some (x2, v16))))
set_option maxRecDepth 100000 in
set_option maxHeartbeats 4000000 in
theorem w_X8_checks_54 {p : Program} {l : Launch} {e : Env} {s : State} {m : MethodId} {args : Array Value} {below : List Frame} {meth : Method} {c : Code} {D : va_G} {cy : Nat → ClassId} {ad : Nat → Nat} {A : Nat → Prop} {z : (Int32 × tmM)} (C0 : tmC p s m args meth c cX8_checks 4 (some .int) RX8 TMW tm_NWR D cy tm_shR ad 13 [] A) (x1 x2 x3 s0 : Int32) (v : tmM) : tmG p l e ({ frames := 5, cells := 0, slots := 0, locals := 110 } : Room) s m args below meth c 0 0 (MQ below (va_Qi (fun r u => z = (r, u)) (tmAt tm_shR 13 D cy ad A) A) args s 0 0 A) 4 D cy tm_shR ad 13 [] A z 54 [(0, .ref (ad 0)), (1, .int x1), (2, .int x2), (3, .int x3)] [.int s0, .ref (ad 0)] v (f_X8_checks_54 x1 x2 x3 s0 v) := by
  unfold f_X8_checks_54
  refine tg_iload_n 1 C0 dX8_checks_54 rfl rfl ?_
  refine tg_callVv (As := [.int s0, .int x1]) 0 2 C0 dX8_checks_55 (c_X8_notes l s0 x1 v) rfl rfl (by decide) rfl rfl (tm_gV tl_X8_85 ti_X8_notes ts_X8_notes tn_X8 tc_X8_notes)  rfl rfl rfl rfl (by decide +kernel) ⟨by decide, by decide⟩ (Nat.le_of_ble_eq_true rfl) ⟨by decide, by decide⟩ (fun v9 _ => ?_)
  refine tg_iload_n 3 C0 dX8_checks_58 rfl rfl ?_
  refine tg_if_eq 77 C0 dX8_checks_59 (by decide) (fun _ => ?_) (fun _ => ?_)
  · refine tg_aload_n 0 C0 dX8_checks_77 rfl rfl ?_
    refine tg_get 0 1 C0 dX8_checks_78 (by decide) rfl rfl tu_X8 (by decide) tf_X8_7 rfl rfl rfl ?_
    refine tg_iconst (x := 4) C0 dX8_checks_81 (by decide) ?_
    refine tg_dup2 C0 dX8_checks_82 ⟨rfl, rfl⟩ ?_
    refine tg_iald 1 C0 dX8_checks_83 (by decide) rfl (fun _ => ?_)
    refine tg_iconst (x := 1) C0 dX8_checks_84 (by decide) ?_
    refine tg_iload_n 1 C0 dX8_checks_85 rfl rfl ?_
    refine tg_ishl C0 dX8_checks_86 ?_
    refine tg_iconst (x := (-1)) C0 dX8_checks_87 (by decide) ?_
    refine tg_ixor C0 dX8_checks_88 ?_
    refine tg_iand C0 dX8_checks_89 ?_
    refine tg_iast 1 C0 dX8_checks_90 (by decide) rfl (fun _ => ?_)
    refine tg_letm (fun v11 _ => ?_)
    refine tg_aload_n 0 C0 dX8_checks_91 rfl rfl ?_
    refine tg_aload_n 0 C0 dX8_checks_92 rfl rfl ?_
    refine tg_iload_n 1 C0 dX8_checks_93 rfl rfl ?_
    refine tg_callVi (As := [.int x1]) 0 1 C0 dX8_checks_94 (c_X8_firstUnlike l x1 v11) rfl rfl (by decide) rfl rfl (tm_gV tl_X8_144 ti_X8_firstUnlike ts_X8_firstUnlike tn_X8 tc_X8_firstUnlike)  rfl rfl rfl rfl (by decide +kernel) ⟨by decide, by decide⟩ (Nat.le_of_ble_eq_true rfl) ⟨by decide, by decide⟩ (fun r13 v12 _ => ?_)
    refine tg_callVv (As := [.int r13]) 0 1 C0 dX8_checks_97 (c_X8_becomesStale l r13 v12) rfl rfl (by decide) rfl rfl (tm_gV tl_X8_159 ti_X8_becomesStale ts_X8_becomesStale tn_X8 tc_X8_becomesStale)  rfl rfl rfl rfl (by decide +kernel) ⟨by decide, by decide⟩ (Nat.le_of_ble_eq_true rfl) ⟨by decide, by decide⟩ (fun v14 _ => ?_)
    refine tg_iload_n 2 C0 dX8_checks_100 rfl rfl ?_
    exact tg_iret C0 dX8_checks_101
  · refine tg_aload_n 0 C0 dX8_checks_62 rfl rfl ?_
    refine tg_get 0 1 C0 dX8_checks_63 (by decide) rfl rfl tu_X8 (by decide) tf_X8_7 rfl rfl rfl ?_
    refine tg_iconst (x := 4) C0 dX8_checks_66 (by decide) ?_
    refine tg_dup2 C0 dX8_checks_67 ⟨rfl, rfl⟩ ?_
    refine tg_iald 1 C0 dX8_checks_68 (by decide) rfl (fun _ => ?_)
    refine tg_iconst (x := 1) C0 dX8_checks_69 (by decide) ?_
    refine tg_iload_n 1 C0 dX8_checks_70 rfl rfl ?_
    refine tg_ishl C0 dX8_checks_71 ?_
    refine tg_ior C0 dX8_checks_72 ?_
    refine tg_iast 1 C0 dX8_checks_73 (by decide) rfl (fun _ => ?_)
    refine tg_letm (fun v16 _ => ?_)
    refine tg_goto 100 C0 dX8_checks_74 (by decide) ?_
    refine tg_iload_n 2 C0 dX8_checks_100 rfl rfl ?_
    exact tg_iret C0 dX8_checks_101
def f_X8_checks_43 (x1 x2 s0 : Int32) (v : tmM) : Option (Int32 × tmM) := (if s0 = 0 then f_X8_checks_54 x1 x2 s0 5 v else f_X8_checks_54 x1 x2 s0 4 v)
set_option maxRecDepth 100000 in
set_option maxHeartbeats 4000000 in
theorem w_X8_checks_43 {p : Program} {l : Launch} {e : Env} {s : State} {m : MethodId} {args : Array Value} {below : List Frame} {meth : Method} {c : Code} {D : va_G} {cy : Nat → ClassId} {ad : Nat → Nat} {A : Nat → Prop} {z : (Int32 × tmM)} (C0 : tmC p s m args meth c cX8_checks 4 (some .int) RX8 TMW tm_NWR D cy tm_shR ad 13 [] A) (x1 x2 s0 : Int32) (v : tmM) : tmG p l e ({ frames := 5, cells := 0, slots := 0, locals := 110 } : Room) s m args below meth c 0 0 (MQ below (va_Qi (fun r u => z = (r, u)) (tmAt tm_shR 13 D cy ad A) A) args s 0 0 A) 4 D cy tm_shR ad 13 [] A z 43 [(0, .ref (ad 0)), (1, .int x1), (2, .int x2)] [.int s0] v (f_X8_checks_43 x1 x2 s0 v) := by
  unfold f_X8_checks_43
  refine tg_istore_n [(3, .int s0), (0, .ref (ad 0)), (1, .int x1), (2, .int x2)] C0 dX8_checks_43 rfl (by decide) rfl ?_
  refine tg_aload_n 1 C0 dX8_checks_44 rfl rfl ?_
  refine tg_iload_n 0 C0 dX8_checks_45 rfl rfl ?_
  refine tg_if_eq 53 C0 dX8_checks_46 (by decide) (fun _ => ?_) (fun _ => ?_)
  · refine tg_iconst (x := 5) C0 dX8_checks_53 (by decide) ?_
    refine tg_sub [1, 2, 3, 0] rfl ?_
    exact w_X8_checks_54 C0 x1 x2 s0 5 v
  · refine tg_iconst (x := 4) C0 dX8_checks_49 (by decide) ?_
    refine tg_goto 54 C0 dX8_checks_50 (by decide) ?_
    refine tg_sub [1, 2, 3, 0] rfl ?_
    exact w_X8_checks_54 C0 x1 x2 s0 4 v
def f_X8_checks (x1 : Int32) (v : tmM) : Option (Int32 × tmM) := tm_cl (f_X8_whyCheck x1 v) fun r2 v1 => (if r2 ≤ 0 then tm_cl (f_X8_does v1) fun r4 v3 => tm_cl (f_X8_sumOf 0 x1 v3) fun r6 v5 => tm_cl (f_X8_sumOf 1 x1 v5) fun r8 v7 => (if r6 = r8 then f_X8_checks_43 x1 r4 1 v7 else f_X8_checks_43 x1 r4 0 v7) else tm_cl (f_X8_whyCheck x1 v1) fun r18 v17 => tm_cl (f_X8_refuses r18 v17) fun r20 v19 => some (r20, v19))
set_option maxRecDepth 100000 in
set_option maxHeartbeats 4000000 in
theorem w_X8_checks {p : Program} {l : Launch} {e : Env} {s : State} {m : MethodId} {args : Array Value} {below : List Frame} {meth : Method} {c : Code} {D : va_G} {cy : Nat → ClassId} {ad : Nat → Nat} {A : Nat → Prop} {z : (Int32 × tmM)} (C0 : tmC p s m args meth c cX8_checks 4 (some .int) RX8 TMW tm_NWR D cy tm_shR ad 13 [] A) (x1 : Int32) (v : tmM) : tmG p l e ({ frames := 5, cells := 0, slots := 0, locals := 110 } : Room) s m args below meth c 0 0 (MQ below (va_Qi (fun r u => z = (r, u)) (tmAt tm_shR 13 D cy ad A) A) args s 0 0 A) 4 D cy tm_shR ad 13 [] A z 0 [(0, .ref (ad 0)), (1, .int x1)] [] v (f_X8_checks x1 v) := by
  unfold f_X8_checks
  refine tg_aload_n 0 C0 dX8_checks_0 rfl rfl ?_
  refine tg_iload_n 1 C0 dX8_checks_1 rfl rfl ?_
  refine tg_callVi (As := [.int x1]) 0 1 C0 dX8_checks_2 (c_X8_whyCheck l x1 v) rfl rfl (by decide) rfl rfl (tm_gV tl_X8_207 ti_X8_whyCheck ts_X8_whyCheck tn_X8 tc_X8_whyCheck)  rfl rfl rfl rfl (by decide +kernel) ⟨by decide, by decide⟩ (Nat.le_of_ble_eq_true rfl) ⟨by decide, by decide⟩ (fun r2 v1 _ => ?_)
  refine tg_if_le 18 C0 dX8_checks_5 (by decide) (fun _ => ?_) (fun _ => ?_)
  · refine tg_aload_n 0 C0 dX8_checks_18 rfl rfl ?_
    refine tg_callVi (As := []) 0 0 C0 dX8_checks_19 (c_X8_does l v1) rfl rfl (by decide) rfl rfl (tm_gV tl_X8_147 ti_X8_does ts_X8_does tn_X8 tc_X8_does)  rfl rfl rfl rfl (by decide +kernel) ⟨by decide, by decide⟩ (Nat.le_of_ble_eq_true rfl) ⟨by decide, by decide⟩ (fun r4 v3 _ => ?_)
    refine tg_istore_n [(2, .int r4), (0, .ref (ad 0)), (1, .int x1)] C0 dX8_checks_22 rfl (by decide) rfl ?_
    refine tg_aload_n 1 C0 dX8_checks_23 rfl rfl ?_
    refine tg_iconst (x := 0) C0 dX8_checks_24 (by decide) ?_
    refine tg_iload_n 2 C0 dX8_checks_25 rfl rfl ?_
    refine tg_callVi (As := [.int 0, .int x1]) 0 2 C0 dX8_checks_26 (c_X8_sumOf l 0 x1 v3) rfl rfl (by decide) rfl rfl (tm_gV tl_X8_134 ti_X8_sumOf ts_X8_sumOf tn_X8 tc_X8_sumOf)  rfl rfl rfl rfl (by decide +kernel) ⟨by decide, by decide⟩ (Nat.le_of_ble_eq_true rfl) ⟨by decide, by decide⟩ (fun r6 v5 _ => ?_)
    refine tg_aload_n 1 C0 dX8_checks_29 rfl rfl ?_
    refine tg_iconst (x := 1) C0 dX8_checks_30 (by decide) ?_
    refine tg_iload_n 2 C0 dX8_checks_31 rfl rfl ?_
    refine tg_callVi (As := [.int 1, .int x1]) 0 2 C0 dX8_checks_32 (c_X8_sumOf l 1 x1 v5) rfl rfl (by decide) rfl rfl (tm_gV tl_X8_134 ti_X8_sumOf ts_X8_sumOf tn_X8 tc_X8_sumOf)  rfl rfl rfl rfl (by decide +kernel) ⟨by decide, by decide⟩ (Nat.le_of_ble_eq_true rfl) ⟨by decide, by decide⟩ (fun r8 v7 _ => ?_)
    refine tg_icmp_ne 42 C0 dX8_checks_35 (by decide) (fun _ => ?_) (fun _ => ?_)
    · refine tg_iconst (x := 0) C0 dX8_checks_42 (by decide) ?_
      refine tg_sub [1, 2, 0] rfl ?_
      exact w_X8_checks_43 C0 x1 r4 0 v7
    · refine tg_iconst (x := 1) C0 dX8_checks_38 (by decide) ?_
      refine tg_goto 43 C0 dX8_checks_39 (by decide) ?_
      refine tg_sub [1, 2, 0] rfl ?_
      exact w_X8_checks_43 C0 x1 r4 1 v7
  · refine tg_aload_n 0 C0 dX8_checks_8 rfl rfl ?_
    refine tg_aload_n 0 C0 dX8_checks_9 rfl rfl ?_
    refine tg_iload_n 1 C0 dX8_checks_10 rfl rfl ?_
    refine tg_callVi (As := [.int x1]) 0 1 C0 dX8_checks_11 (c_X8_whyCheck l x1 v1) rfl rfl (by decide) rfl rfl (tm_gV tl_X8_207 ti_X8_whyCheck ts_X8_whyCheck tn_X8 tc_X8_whyCheck)  rfl rfl rfl rfl (by decide +kernel) ⟨by decide, by decide⟩ (Nat.le_of_ble_eq_true rfl) ⟨by decide, by decide⟩ (fun r18 v17 _ => ?_)
    refine tg_callVi (As := [.int r18]) 0 1 C0 dX8_checks_14 (c_X8_refuses l r18 v17) rfl rfl (by decide) rfl rfl (tm_gV tl_X8_165 ti_X8_refuses ts_X8_refuses tn_X8 tc_X8_refuses)  rfl rfl rfl rfl (by decide +kernel) ⟨by decide, by decide⟩ (Nat.le_of_ble_eq_true rfl) ⟨by decide, by decide⟩ (fun r20 v19 _ => ?_)
    exact tg_iret C0 dX8_checks_17
theorem c_X8_checks (l : Launch) (x1 : Int32) (v : tmM) : tmMi tm_NWR tm_shR 13 l yX8_checks (Cond.code yX8_checks cX8_checks 4 (some .int) :: TMW) ({ frames := 5, cells := 0, slots := 0, locals := 110 } : Room) (fun ad => [.ref (ad 0), .int x1]) v (f_X8_checks x1 v) :=
  tmMi.of (cc := cX8_checks) (nL := 4) (by decide +kernel) rfl tm_NWR_ok (fun _ => Nat.le_of_ble_eq_true rfl) (fun p e s m args below meth c A D cy ad z C0 => w_X8_checks C0 x1 v)
-- ----- X8_check
theorem dX8_check_0 : decode cX8_check 0 = .ok (.aload_n 0, 1) := by decide +kernel
theorem dX8_check_1 : decode cX8_check 1 = .ok (.iload_n 1, 1) := by decide +kernel
theorem dX8_check_2 : decode cX8_check 2 = .ok (.invokestatic 131, 3) := by decide +kernel
theorem dX8_check_5 : decode cX8_check 5 = .ok (.ifCond .eq 7, 3) := by decide +kernel
theorem dX8_check_8 : decode cX8_check 8 = .ok (.iconst 0, 1) := by decide +kernel
theorem dX8_check_9 : decode cX8_check 9 = .ok (.goto 4, 3) := by decide +kernel
theorem dX8_check_12 : decode cX8_check 12 = .ok (.iconst 1, 1) := by decide +kernel
theorem dX8_check_13 : decode cX8_check 13 = .ok (.putfield 56, 3) := by decide +kernel
theorem dX8_check_16 : decode cX8_check 16 = .ok (.aload_n 0, 1) := by decide +kernel
theorem dX8_check_17 : decode cX8_check 17 = .ok (.getfield 56, 3) := by decide +kernel
theorem dX8_check_20 : decode cX8_check 20 = .ok (.ifCond .le 7, 3) := by decide +kernel
theorem dX8_check_23 : decode cX8_check 23 = .ok (.iconst 0, 1) := by decide +kernel
theorem dX8_check_24 : decode cX8_check 24 = .ok (.goto 8, 3) := by decide +kernel
theorem dX8_check_27 : decode cX8_check 27 = .ok (.aload_n 0, 1) := by decide +kernel
theorem dX8_check_28 : decode cX8_check 28 = .ok (.iload_n 1, 1) := by decide +kernel
theorem dX8_check_29 : decode cX8_check 29 = .ok (.invokevirtual 210, 3) := by decide +kernel
theorem dX8_check_32 : decode cX8_check 32 = .ok (.ireturn, 1) := by decide +kernel
theorem tl_X8_210 : Cond.methodLink RX8 210 yX8_checks ∈ TMW := tm_in 1899 (by decide +kernel) (by decide +kernel)
theorem ti_X8_checks : Cond.instanceMethod yX8_checks ∈ TMW := tm_in 1901 (by decide +kernel) (by decide +kernel)
theorem ts_X8_checks : Cond.selects RX8 yX8_checks yX8_checks ∈ TMW := tm_in 76 (by decide +kernel) (by decide +kernel)
theorem tc_X8_checks : Cond.code yX8_checks cX8_checks 4 (some .int) ∈ TMW := tm_in 1902 (by decide +kernel) (by decide +kernel)
def f_X8_check_13 (x1 s0 : Int32) (v : tmM) : Option (Int32 × tmM) := tm_lt (tm_up v 0 0 s0) fun v3 => (if (v3 0 0) ≤ 0 then tm_cl (f_X8_checks x1 v3) fun r5 v4 => some (r5, v4) else some (0, v3))
set_option maxRecDepth 100000 in
set_option maxHeartbeats 4000000 in
theorem w_X8_check_13 {p : Program} {l : Launch} {e : Env} {s : State} {m : MethodId} {args : Array Value} {below : List Frame} {meth : Method} {c : Code} {D : va_G} {cy : Nat → ClassId} {ad : Nat → Nat} {A : Nat → Prop} {z : (Int32 × tmM)} (C0 : tmC p s m args meth c cX8_check 2 (some .int) RX8 TMW tm_NWR D cy tm_shR ad 13 [] A) (x1 s0 : Int32) (v : tmM) : tmG p l e ({ frames := 6, cells := 0, slots := 0, locals := 133 } : Room) s m args below meth c 0 0 (MQ below (va_Qi (fun r u => z = (r, u)) (tmAt tm_shR 13 D cy ad A) A) args s 0 0 A) 2 D cy tm_shR ad 13 [] A z 13 [(0, .ref (ad 0)), (1, .int x1)] [.int s0, .ref (ad 0)] v (f_X8_check_13 x1 s0 v) := by
  unfold f_X8_check_13
  refine tg_put 0 0 C0 dX8_check_13 (by decide) rfl rfl tu_X8 tyX8_ok nmX8 (by decide) tf_X8_56 rfl rfl rfl rfl rfl rfl ?_
  refine tg_letm (fun v3 _ => ?_)
  refine tg_aload_n 0 C0 dX8_check_16 rfl rfl ?_
  refine tg_get 0 0 C0 dX8_check_17 (by decide) rfl rfl tu_X8 (by decide) tf_X8_56 rfl rfl rfl ?_
  refine tg_if_le 27 C0 dX8_check_20 (by decide) (fun _ => ?_) (fun _ => ?_)
  · refine tg_aload_n 0 C0 dX8_check_27 rfl rfl ?_
    refine tg_iload_n 1 C0 dX8_check_28 rfl rfl ?_
    refine tg_callVi (As := [.int x1]) 0 1 C0 dX8_check_29 (c_X8_checks l x1 v3) rfl rfl (by decide) rfl rfl (tm_gV tl_X8_210 ti_X8_checks ts_X8_checks tn_X8 tc_X8_checks)  rfl rfl rfl rfl (by decide +kernel) ⟨by decide, by decide⟩ (Nat.le_of_ble_eq_true rfl) ⟨by decide, by decide⟩ (fun r5 v4 _ => ?_)
    exact tg_iret C0 dX8_check_32
  · refine tg_iconst (x := 0) C0 dX8_check_23 (by decide) ?_
    refine tg_goto 32 C0 dX8_check_24 (by decide) ?_
    exact tg_iret C0 dX8_check_32
def f_X8_check (x1 : Int32) (v : tmM) : Option (Int32 × tmM) := tm_cl (f_X8_isChunk x1 v) fun r2 v1 => (if r2 = 0 then f_X8_check_13 x1 1 v1 else f_X8_check_13 x1 0 v1)
set_option maxRecDepth 100000 in
set_option maxHeartbeats 4000000 in
theorem w_X8_check {p : Program} {l : Launch} {e : Env} {s : State} {m : MethodId} {args : Array Value} {below : List Frame} {meth : Method} {c : Code} {D : va_G} {cy : Nat → ClassId} {ad : Nat → Nat} {A : Nat → Prop} {z : (Int32 × tmM)} (C0 : tmC p s m args meth c cX8_check 2 (some .int) RX8 TMW tm_NWR D cy tm_shR ad 13 [] A) (x1 : Int32) (v : tmM) : tmG p l e ({ frames := 6, cells := 0, slots := 0, locals := 133 } : Room) s m args below meth c 0 0 (MQ below (va_Qi (fun r u => z = (r, u)) (tmAt tm_shR 13 D cy ad A) A) args s 0 0 A) 2 D cy tm_shR ad 13 [] A z 0 [(0, .ref (ad 0)), (1, .int x1)] [] v (f_X8_check x1 v) := by
  unfold f_X8_check
  refine tg_aload_n 0 C0 dX8_check_0 rfl rfl ?_
  refine tg_iload_n 1 C0 dX8_check_1 rfl rfl ?_
  refine tg_callSi (As := [.int x1]) 1 C0 dX8_check_2 (c_X8_isChunk l x1 v) rfl rfl (tm_gc tc_X8_isChunk) tl_X8_131 tn_X8 tst_X8_isChunk  rfl rfl rfl rfl (by decide +kernel) ⟨by decide, by decide⟩ (Nat.le_of_ble_eq_true rfl) ⟨by decide, by decide⟩ (fun r2 v1 _ => ?_)
  refine tg_if_eq 12 C0 dX8_check_5 (by decide) (fun _ => ?_) (fun _ => ?_)
  · refine tg_iconst (x := 1) C0 dX8_check_12 (by decide) ?_
    exact w_X8_check_13 C0 x1 1 v1
  · refine tg_iconst (x := 0) C0 dX8_check_8 (by decide) ?_
    refine tg_goto 13 C0 dX8_check_9 (by decide) ?_
    exact w_X8_check_13 C0 x1 0 v1
theorem c_X8_check (l : Launch) (x1 : Int32) (v : tmM) : tmMi tm_NWR tm_shR 13 l yX8_check (Cond.code yX8_check cX8_check 2 (some .int) :: TMW) ({ frames := 6, cells := 0, slots := 0, locals := 133 } : Room) (fun ad => [.ref (ad 0), .int x1]) v (f_X8_check x1 v) :=
  tmMi.of (cc := cX8_check) (nL := 2) (by decide +kernel) rfl tm_NWR_ok (fun _ => Nat.le_of_ble_eq_true rfl) (fun p e s m args below meth c A D cy ad z C0 => w_X8_check C0 x1 v)
-- ----- X8_whySwitch
theorem dX8_whySwitch_0 : decode cX8_whySwitch 0 = .ok (.aload_n 0, 1) := by decide +kernel
theorem dX8_whySwitch_1 : decode cX8_whySwitch 1 = .ok (.getfield 7, 3) := by decide +kernel
theorem dX8_whySwitch_4 : decode cX8_whySwitch 4 = .ok (.bipush 7, 2) := by decide +kernel
theorem dX8_whySwitch_6 : decode cX8_whySwitch 6 = .ok (.iaload, 1) := by decide +kernel
theorem dX8_whySwitch_7 : decode cX8_whySwitch 7 = .ok (.ifCond .le 17, 3) := by decide +kernel
theorem dX8_whySwitch_10 : decode cX8_whySwitch 10 = .ok (.aload_n 0, 1) := by decide +kernel
theorem dX8_whySwitch_11 : decode cX8_whySwitch 11 = .ok (.getfield 7, 3) := by decide +kernel
theorem dX8_whySwitch_14 : decode cX8_whySwitch 14 = .ok (.iconst 0, 1) := by decide +kernel
theorem dX8_whySwitch_15 : decode cX8_whySwitch 15 = .ok (.iaload, 1) := by decide +kernel
theorem dX8_whySwitch_16 : decode cX8_whySwitch 16 = .ok (.iconst 1, 1) := by decide +kernel
theorem dX8_whySwitch_17 : decode cX8_whySwitch 17 = .ok (.if_icmp .ne 7, 3) := by decide +kernel
theorem dX8_whySwitch_20 : decode cX8_whySwitch 20 = .ok (.iconst 1, 1) := by decide +kernel
theorem dX8_whySwitch_21 : decode cX8_whySwitch 21 = .ok (.goto 4, 3) := by decide +kernel
theorem dX8_whySwitch_24 : decode cX8_whySwitch 24 = .ok (.iconst 0, 1) := by decide +kernel
theorem dX8_whySwitch_25 : decode cX8_whySwitch 25 = .ok (.istore_n 2, 1) := by decide +kernel
theorem dX8_whySwitch_26 : decode cX8_whySwitch 26 = .ok (.aload_n 0, 1) := by decide +kernel
theorem dX8_whySwitch_27 : decode cX8_whySwitch 27 = .ok (.invokevirtual 140, 3) := by decide +kernel
theorem dX8_whySwitch_30 : decode cX8_whySwitch 30 = .ok (.ifCond .ne 7, 3) := by decide +kernel
theorem dX8_whySwitch_33 : decode cX8_whySwitch 33 = .ok (.iconst 2, 1) := by decide +kernel
theorem dX8_whySwitch_34 : decode cX8_whySwitch 34 = .ok (.goto 74, 3) := by decide +kernel
theorem dX8_whySwitch_37 : decode cX8_whySwitch 37 = .ok (.aload_n 0, 1) := by decide +kernel
theorem dX8_whySwitch_38 : decode cX8_whySwitch 38 = .ok (.getfield 7, 3) := by decide +kernel
theorem dX8_whySwitch_41 : decode cX8_whySwitch 41 = .ok (.iconst 5, 1) := by decide +kernel
theorem dX8_whySwitch_42 : decode cX8_whySwitch 42 = .ok (.iaload, 1) := by decide +kernel
theorem dX8_whySwitch_43 : decode cX8_whySwitch 43 = .ok (.iload_n 1, 1) := by decide +kernel
theorem dX8_whySwitch_44 : decode cX8_whySwitch 44 = .ok (.invokestatic 59, 3) := by decide +kernel
theorem dX8_whySwitch_47 : decode cX8_whySwitch 47 = .ok (.ifCond .eq 7, 3) := by decide +kernel
theorem dX8_whySwitch_50 : decode cX8_whySwitch 50 = .ok (.iconst 5, 1) := by decide +kernel
theorem dX8_whySwitch_51 : decode cX8_whySwitch 51 = .ok (.goto 57, 3) := by decide +kernel
theorem dX8_whySwitch_54 : decode cX8_whySwitch 54 = .ok (.aload_n 0, 1) := by decide +kernel
theorem dX8_whySwitch_55 : decode cX8_whySwitch 55 = .ok (.iconst 1, 1) := by decide +kernel
theorem dX8_whySwitch_56 : decode cX8_whySwitch 56 = .ok (.invokevirtual 113, 3) := by decide +kernel
theorem dX8_whySwitch_59 : decode cX8_whySwitch 59 = .ok (.ifCond .ne 7, 3) := by decide +kernel
theorem dX8_whySwitch_62 : decode cX8_whySwitch 62 = .ok (.iconst 1, 1) := by decide +kernel
theorem dX8_whySwitch_63 : decode cX8_whySwitch 63 = .ok (.goto 45, 3) := by decide +kernel
theorem dX8_whySwitch_66 : decode cX8_whySwitch 66 = .ok (.aload_n 0, 1) := by decide +kernel
theorem dX8_whySwitch_67 : decode cX8_whySwitch 67 = .ok (.getfield 7, 3) := by decide +kernel
theorem dX8_whySwitch_70 : decode cX8_whySwitch 70 = .ok (.iconst 3, 1) := by decide +kernel
theorem dX8_whySwitch_71 : decode cX8_whySwitch 71 = .ok (.iaload, 1) := by decide +kernel
theorem dX8_whySwitch_72 : decode cX8_whySwitch 72 = .ok (.sipush 32767, 3) := by decide +kernel
theorem dX8_whySwitch_75 : decode cX8_whySwitch 75 = .ok (.if_icmp .eq 7, 3) := by decide +kernel
theorem dX8_whySwitch_78 : decode cX8_whySwitch 78 = .ok (.iconst 3, 1) := by decide +kernel
theorem dX8_whySwitch_79 : decode cX8_whySwitch 79 = .ok (.goto 29, 3) := by decide +kernel
theorem dX8_whySwitch_82 : decode cX8_whySwitch 82 = .ok (.iload_n 2, 1) := by decide +kernel
theorem dX8_whySwitch_83 : decode cX8_whySwitch 83 = .ok (.ifCond .eq 7, 3) := by decide +kernel
theorem dX8_whySwitch_86 : decode cX8_whySwitch 86 = .ok (.iconst 4, 1) := by decide +kernel
theorem dX8_whySwitch_87 : decode cX8_whySwitch 87 = .ok (.goto 21, 3) := by decide +kernel
theorem dX8_whySwitch_90 : decode cX8_whySwitch 90 = .ok (.aload_n 0, 1) := by decide +kernel
theorem dX8_whySwitch_91 : decode cX8_whySwitch 91 = .ok (.getfield 7, 3) := by decide +kernel
theorem dX8_whySwitch_94 : decode cX8_whySwitch 94 = .ok (.iconst 4, 1) := by decide +kernel
theorem dX8_whySwitch_95 : decode cX8_whySwitch 95 = .ok (.iaload, 1) := by decide +kernel
theorem dX8_whySwitch_96 : decode cX8_whySwitch 96 = .ok (.sipush 32767, 3) := by decide +kernel
theorem dX8_whySwitch_99 : decode cX8_whySwitch 99 = .ok (.if_icmp .eq 8, 3) := by decide +kernel
theorem dX8_whySwitch_102 : decode cX8_whySwitch 102 = .ok (.bipush 6, 2) := by decide +kernel
theorem dX8_whySwitch_104 : decode cX8_whySwitch 104 = .ok (.goto 4, 3) := by decide +kernel
theorem dX8_whySwitch_107 : decode cX8_whySwitch 107 = .ok (.iconst 0, 1) := by decide +kernel
theorem dX8_whySwitch_108 : decode cX8_whySwitch 108 = .ok (.ireturn, 1) := by decide +kernel
def f_X8_whySwitch_25 (x1 s0 : Int32) (v : tmM) : Option (Int32 × tmM) := tm_cl (f_X8_isBoth v) fun r2 v1 => (if r2 = 0 then some (2, v1) else tm_g (tm_ix 5 491) (tm_cl (f_X8_has (v1 1 (5 : Int32).toNatClampNeg) x1 v1) fun r4 v3 => (if r4 = 0 then tm_cl (f_X8_isUp 1 v3) fun r6 v5 => (if r6 = 0 then some (1, v5) else tm_g (tm_ix 3 491) ((if (v5 1 (3 : Int32).toNatClampNeg) = 32767 then (if s0 = 0 then tm_g (tm_ix 4 491) ((if (v5 1 (4 : Int32).toNatClampNeg) = 32767 then some (0, v5) else some (6, v5))) else some (4, v5)) else some (3, v5)))) else some (5, v3))))
set_option maxRecDepth 100000 in
set_option maxHeartbeats 4000000 in
theorem w_X8_whySwitch_25 {p : Program} {l : Launch} {e : Env} {s : State} {m : MethodId} {args : Array Value} {below : List Frame} {meth : Method} {c : Code} {D : va_G} {cy : Nat → ClassId} {ad : Nat → Nat} {A : Nat → Prop} {z : (Int32 × tmM)} (C0 : tmC p s m args meth c cX8_whySwitch 3 (some .int) RX8 TMW tm_NWR D cy tm_shR ad 13 [] A) (x1 s0 : Int32) (v : tmM) : tmG p l e ({ frames := 2, cells := 0, slots := 0, locals := 42 } : Room) s m args below meth c 0 0 (MQ below (va_Qi (fun r u => z = (r, u)) (tmAt tm_shR 13 D cy ad A) A) args s 0 0 A) 3 D cy tm_shR ad 13 [] A z 25 [(0, .ref (ad 0)), (1, .int x1)] [.int s0] v (f_X8_whySwitch_25 x1 s0 v) := by
  unfold f_X8_whySwitch_25
  refine tg_istore_n [(2, .int s0), (0, .ref (ad 0)), (1, .int x1)] C0 dX8_whySwitch_25 rfl (by decide) rfl ?_
  refine tg_aload_n 1 C0 dX8_whySwitch_26 rfl rfl ?_
  refine tg_callVi (As := []) 0 0 C0 dX8_whySwitch_27 (c_X8_isBoth l v) rfl rfl (by decide) rfl rfl (tm_gV tl_X8_140 ti_X8_isBoth ts_X8_isBoth tn_X8 tc_X8_isBoth)  rfl rfl rfl rfl (by decide +kernel) ⟨by decide, by decide⟩ (Nat.le_of_ble_eq_true rfl) ⟨by decide, by decide⟩ (fun r2 v1 _ => ?_)
  refine tg_if_ne 37 C0 dX8_whySwitch_30 (by decide) (fun _ => ?_) (fun _ => ?_)
  · refine tg_aload_n 1 C0 dX8_whySwitch_37 rfl rfl ?_
    refine tg_get 0 1 C0 dX8_whySwitch_38 (by decide) rfl rfl tu_X8 (by decide) tf_X8_7 rfl rfl rfl ?_
    refine tg_iconst (x := 5) C0 dX8_whySwitch_41 (by decide) ?_
    refine tg_iald 1 C0 dX8_whySwitch_42 (by decide) rfl (fun _ => ?_)
    refine tg_iload_n 2 C0 dX8_whySwitch_43 rfl rfl ?_
    refine tg_callSi (As := [.int (v1 1 (5 : Int32).toNatClampNeg), .int x1]) 2 C0 dX8_whySwitch_44 (c_X8_has l (v1 1 (5 : Int32).toNatClampNeg) x1 v1) rfl rfl (tm_gc tc_X8_has) tl_X8_59 tn_X8 tst_X8_has  rfl rfl rfl rfl (by decide +kernel) ⟨by decide, by decide⟩ (Nat.le_of_ble_eq_true rfl) ⟨by decide, by decide⟩ (fun r4 v3 _ => ?_)
    refine tg_if_eq 54 C0 dX8_whySwitch_47 (by decide) (fun _ => ?_) (fun _ => ?_)
    · refine tg_aload_n 1 C0 dX8_whySwitch_54 rfl rfl ?_
      refine tg_iconst (x := 1) C0 dX8_whySwitch_55 (by decide) ?_
      refine tg_callVi (As := [.int 1]) 0 1 C0 dX8_whySwitch_56 (c_X8_isUp l 1 v3) rfl rfl (by decide) rfl rfl (tm_gV tl_X8_113 ti_X8_isUp ts_X8_isUp tn_X8 tc_X8_isUp)  rfl rfl rfl rfl (by decide +kernel) ⟨by decide, by decide⟩ (Nat.le_of_ble_eq_true rfl) ⟨by decide, by decide⟩ (fun r6 v5 _ => ?_)
      refine tg_if_ne 66 C0 dX8_whySwitch_59 (by decide) (fun _ => ?_) (fun _ => ?_)
      · refine tg_aload_n 1 C0 dX8_whySwitch_66 rfl rfl ?_
        refine tg_get 0 1 C0 dX8_whySwitch_67 (by decide) rfl rfl tu_X8 (by decide) tf_X8_7 rfl rfl rfl ?_
        refine tg_iconst (x := 3) C0 dX8_whySwitch_70 (by decide) ?_
        refine tg_iald 1 C0 dX8_whySwitch_71 (by decide) rfl (fun _ => ?_)
        refine tg_sipush (x := 32767) C0 dX8_whySwitch_72 (by decide) ?_
        refine tg_icmp_eq 82 C0 dX8_whySwitch_75 (by decide) (fun _ => ?_) (fun _ => ?_)
        · refine tg_iload_n 0 C0 dX8_whySwitch_82 rfl rfl ?_
          refine tg_if_eq 90 C0 dX8_whySwitch_83 (by decide) (fun _ => ?_) (fun _ => ?_)
          · refine tg_aload_n 1 C0 dX8_whySwitch_90 rfl rfl ?_
            refine tg_get 0 1 C0 dX8_whySwitch_91 (by decide) rfl rfl tu_X8 (by decide) tf_X8_7 rfl rfl rfl ?_
            refine tg_iconst (x := 4) C0 dX8_whySwitch_94 (by decide) ?_
            refine tg_iald 1 C0 dX8_whySwitch_95 (by decide) rfl (fun _ => ?_)
            refine tg_sipush (x := 32767) C0 dX8_whySwitch_96 (by decide) ?_
            refine tg_icmp_eq 107 C0 dX8_whySwitch_99 (by decide) (fun _ => ?_) (fun _ => ?_)
            · refine tg_iconst (x := 0) C0 dX8_whySwitch_107 (by decide) ?_
              exact tg_iret C0 dX8_whySwitch_108
            · refine tg_bipush (x := 6) C0 dX8_whySwitch_102 (by decide) ?_
              refine tg_goto 108 C0 dX8_whySwitch_104 (by decide) ?_
              exact tg_iret C0 dX8_whySwitch_108
          · refine tg_iconst (x := 4) C0 dX8_whySwitch_86 (by decide) ?_
            refine tg_goto 108 C0 dX8_whySwitch_87 (by decide) ?_
            exact tg_iret C0 dX8_whySwitch_108
        · refine tg_iconst (x := 3) C0 dX8_whySwitch_78 (by decide) ?_
          refine tg_goto 108 C0 dX8_whySwitch_79 (by decide) ?_
          exact tg_iret C0 dX8_whySwitch_108
      · refine tg_iconst (x := 1) C0 dX8_whySwitch_62 (by decide) ?_
        refine tg_goto 108 C0 dX8_whySwitch_63 (by decide) ?_
        exact tg_iret C0 dX8_whySwitch_108
    · refine tg_iconst (x := 5) C0 dX8_whySwitch_50 (by decide) ?_
      refine tg_goto 108 C0 dX8_whySwitch_51 (by decide) ?_
      exact tg_iret C0 dX8_whySwitch_108
  · refine tg_iconst (x := 2) C0 dX8_whySwitch_33 (by decide) ?_
    refine tg_goto 108 C0 dX8_whySwitch_34 (by decide) ?_
    exact tg_iret C0 dX8_whySwitch_108
def f_X8_whySwitch_24 (x1 : Int32) (v : tmM) : Option (Int32 × tmM) := f_X8_whySwitch_25 x1 0 v
set_option maxRecDepth 100000 in
set_option maxHeartbeats 4000000 in
theorem w_X8_whySwitch_24 {p : Program} {l : Launch} {e : Env} {s : State} {m : MethodId} {args : Array Value} {below : List Frame} {meth : Method} {c : Code} {D : va_G} {cy : Nat → ClassId} {ad : Nat → Nat} {A : Nat → Prop} {z : (Int32 × tmM)} (C0 : tmC p s m args meth c cX8_whySwitch 3 (some .int) RX8 TMW tm_NWR D cy tm_shR ad 13 [] A) (x1 : Int32) (v : tmM) : tmG p l e ({ frames := 2, cells := 0, slots := 0, locals := 42 } : Room) s m args below meth c 0 0 (MQ below (va_Qi (fun r u => z = (r, u)) (tmAt tm_shR 13 D cy ad A) A) args s 0 0 A) 3 D cy tm_shR ad 13 [] A z 24 [(0, .ref (ad 0)), (1, .int x1)] [] v (f_X8_whySwitch_24 x1 v) := by
  unfold f_X8_whySwitch_24
  refine tg_iconst (x := 0) C0 dX8_whySwitch_24 (by decide) ?_
  exact w_X8_whySwitch_25 C0 x1 0 v
def f_X8_whySwitch (x1 : Int32) (v : tmM) : Option (Int32 × tmM) := tm_g (tm_ix 7 491) ((if (v 1 (7 : Int32).toNatClampNeg) ≤ 0 then f_X8_whySwitch_24 x1 v else tm_g (tm_ix 0 491) ((if (v 1 (0 : Int32).toNatClampNeg) = 1 then f_X8_whySwitch_25 x1 1 v else f_X8_whySwitch_24 x1 v))))
set_option maxRecDepth 100000 in
set_option maxHeartbeats 4000000 in
theorem w_X8_whySwitch {p : Program} {l : Launch} {e : Env} {s : State} {m : MethodId} {args : Array Value} {below : List Frame} {meth : Method} {c : Code} {D : va_G} {cy : Nat → ClassId} {ad : Nat → Nat} {A : Nat → Prop} {z : (Int32 × tmM)} (C0 : tmC p s m args meth c cX8_whySwitch 3 (some .int) RX8 TMW tm_NWR D cy tm_shR ad 13 [] A) (x1 : Int32) (v : tmM) : tmG p l e ({ frames := 2, cells := 0, slots := 0, locals := 42 } : Room) s m args below meth c 0 0 (MQ below (va_Qi (fun r u => z = (r, u)) (tmAt tm_shR 13 D cy ad A) A) args s 0 0 A) 3 D cy tm_shR ad 13 [] A z 0 [(0, .ref (ad 0)), (1, .int x1)] [] v (f_X8_whySwitch x1 v) := by
  unfold f_X8_whySwitch
  refine tg_aload_n 0 C0 dX8_whySwitch_0 rfl rfl ?_
  refine tg_get 0 1 C0 dX8_whySwitch_1 (by decide) rfl rfl tu_X8 (by decide) tf_X8_7 rfl rfl rfl ?_
  refine tg_bipush (x := 7) C0 dX8_whySwitch_4 (by decide) ?_
  refine tg_iald 1 C0 dX8_whySwitch_6 (by decide) rfl (fun _ => ?_)
  refine tg_if_le 24 C0 dX8_whySwitch_7 (by decide) (fun _ => ?_) (fun _ => ?_)
  · exact w_X8_whySwitch_24 C0 x1 v
  · refine tg_aload_n 0 C0 dX8_whySwitch_10 rfl rfl ?_
    refine tg_get 0 1 C0 dX8_whySwitch_11 (by decide) rfl rfl tu_X8 (by decide) tf_X8_7 rfl rfl rfl ?_
    refine tg_iconst (x := 0) C0 dX8_whySwitch_14 (by decide) ?_
    refine tg_iald 1 C0 dX8_whySwitch_15 (by decide) rfl (fun _ => ?_)
    refine tg_iconst (x := 1) C0 dX8_whySwitch_16 (by decide) ?_
    refine tg_icmp_ne 24 C0 dX8_whySwitch_17 (by decide) (fun _ => ?_) (fun _ => ?_)
    · exact w_X8_whySwitch_24 C0 x1 v
    · refine tg_iconst (x := 1) C0 dX8_whySwitch_20 (by decide) ?_
      refine tg_goto 25 C0 dX8_whySwitch_21 (by decide) ?_
      exact w_X8_whySwitch_25 C0 x1 1 v
theorem c_X8_whySwitch (l : Launch) (x1 : Int32) (v : tmM) : tmMi tm_NWR tm_shR 13 l yX8_whySwitch (Cond.code yX8_whySwitch cX8_whySwitch 3 (some .int) :: TMW) ({ frames := 2, cells := 0, slots := 0, locals := 42 } : Room) (fun ad => [.ref (ad 0), .int x1]) v (f_X8_whySwitch x1 v) :=
  tmMi.of (cc := cX8_whySwitch) (nL := 3) (by decide +kernel) rfl tm_NWR_ok (fun _ => Nat.le_of_ble_eq_true rfl) (fun p e s m args below meth c A D cy ad z C0 => w_X8_whySwitch C0 x1 v)
-- ----- X8_switches
theorem dX8_switches_0 : decode cX8_switches 0 = .ok (.aload_n 0, 1) := by decide +kernel
theorem dX8_switches_1 : decode cX8_switches 1 = .ok (.iload_n 1, 1) := by decide +kernel
theorem dX8_switches_2 : decode cX8_switches 2 = .ok (.invokevirtual 213, 3) := by decide +kernel
theorem dX8_switches_5 : decode cX8_switches 5 = .ok (.ifCond .le 13, 3) := by decide +kernel
theorem dX8_switches_8 : decode cX8_switches 8 = .ok (.aload_n 0, 1) := by decide +kernel
theorem dX8_switches_9 : decode cX8_switches 9 = .ok (.aload_n 0, 1) := by decide +kernel
theorem dX8_switches_10 : decode cX8_switches 10 = .ok (.iload_n 1, 1) := by decide +kernel
theorem dX8_switches_11 : decode cX8_switches 11 = .ok (.invokevirtual 213, 3) := by decide +kernel
theorem dX8_switches_14 : decode cX8_switches 14 = .ok (.invokevirtual 165, 3) := by decide +kernel
theorem dX8_switches_17 : decode cX8_switches 17 = .ok (.ireturn, 1) := by decide +kernel
theorem dX8_switches_18 : decode cX8_switches 18 = .ok (.aload_n 0, 1) := by decide +kernel
theorem dX8_switches_19 : decode cX8_switches 19 = .ok (.invokevirtual 147, 3) := by decide +kernel
theorem dX8_switches_22 : decode cX8_switches 22 = .ok (.istore_n 2, 1) := by decide +kernel
theorem dX8_switches_23 : decode cX8_switches 23 = .ok (.aload_n 0, 1) := by decide +kernel
theorem dX8_switches_24 : decode cX8_switches 24 = .ok (.getfield 7, 3) := by decide +kernel
theorem dX8_switches_27 : decode cX8_switches 27 = .ok (.iconst 5, 1) := by decide +kernel
theorem dX8_switches_28 : decode cX8_switches 28 = .ok (.dup2, 1) := by decide +kernel
theorem dX8_switches_29 : decode cX8_switches 29 = .ok (.iaload, 1) := by decide +kernel
theorem dX8_switches_30 : decode cX8_switches 30 = .ok (.iconst 1, 1) := by decide +kernel
theorem dX8_switches_31 : decode cX8_switches 31 = .ok (.iload_n 1, 1) := by decide +kernel
theorem dX8_switches_32 : decode cX8_switches 32 = .ok (.ishl, 1) := by decide +kernel
theorem dX8_switches_33 : decode cX8_switches 33 = .ok (.ior, 1) := by decide +kernel
theorem dX8_switches_34 : decode cX8_switches 34 = .ok (.iastore, 1) := by decide +kernel
theorem dX8_switches_35 : decode cX8_switches 35 = .ok (.aload_n 0, 1) := by decide +kernel
theorem dX8_switches_36 : decode cX8_switches 36 = .ok (.bipush 6, 2) := by decide +kernel
theorem dX8_switches_38 : decode cX8_switches 38 = .ok (.iload_n 1, 1) := by decide +kernel
theorem dX8_switches_39 : decode cX8_switches 39 = .ok (.invokevirtual 85, 3) := by decide +kernel
theorem dX8_switches_42 : decode cX8_switches 42 = .ok (.iload_n 2, 1) := by decide +kernel
theorem dX8_switches_43 : decode cX8_switches 43 = .ok (.ireturn, 1) := by decide +kernel
theorem tl_X8_213 : Cond.methodLink RX8 213 yX8_whySwitch ∈ TMW := tm_in 1915 (by decide +kernel) (by decide +kernel)
theorem ti_X8_whySwitch : Cond.instanceMethod yX8_whySwitch ∈ TMW := tm_in 1917 (by decide +kernel) (by decide +kernel)
theorem ts_X8_whySwitch : Cond.selects RX8 yX8_whySwitch yX8_whySwitch ∈ TMW := tm_in 79 (by decide +kernel) (by decide +kernel)
theorem tc_X8_whySwitch : Cond.code yX8_whySwitch cX8_whySwitch 3 (some .int) ∈ TMW := tm_in 1918 (by decide +kernel) (by decide +kernel)
def f_X8_switches (x1 : Int32) (v : tmM) : Option (Int32 × tmM) := tm_cl (f_X8_whySwitch x1 v) fun r2 v1 => (if r2 ≤ 0 then tm_cl (f_X8_does v1) fun r4 v3 => tm_g (tm_ix 5 491) (tm_g (tm_ix 5 491) (tm_lt (tm_up v3 1 (5 : Int32).toNatClampNeg ((v3 1 (5 : Int32).toNatClampNeg) ||| (1 <<< (x1 &&& 31)))) fun v5 => tm_cl (f_X8_notes 6 x1 v5) fun _ v6 => some (r4, v6))) else tm_cl (f_X8_whySwitch x1 v1) fun r9 v8 => tm_cl (f_X8_refuses r9 v8) fun r11 v10 => some (r11, v10))
set_option maxRecDepth 100000 in
set_option maxHeartbeats 4000000 in
theorem w_X8_switches {p : Program} {l : Launch} {e : Env} {s : State} {m : MethodId} {args : Array Value} {below : List Frame} {meth : Method} {c : Code} {D : va_G} {cy : Nat → ClassId} {ad : Nat → Nat} {A : Nat → Prop} {z : (Int32 × tmM)} (C0 : tmC p s m args meth c cX8_switches 3 (some .int) RX8 TMW tm_NWR D cy tm_shR ad 13 [] A) (x1 : Int32) (v : tmM) : tmG p l e ({ frames := 3, cells := 0, slots := 0, locals := 66 } : Room) s m args below meth c 0 0 (MQ below (va_Qi (fun r u => z = (r, u)) (tmAt tm_shR 13 D cy ad A) A) args s 0 0 A) 3 D cy tm_shR ad 13 [] A z 0 [(0, .ref (ad 0)), (1, .int x1)] [] v (f_X8_switches x1 v) := by
  unfold f_X8_switches
  refine tg_aload_n 0 C0 dX8_switches_0 rfl rfl ?_
  refine tg_iload_n 1 C0 dX8_switches_1 rfl rfl ?_
  refine tg_callVi (As := [.int x1]) 0 1 C0 dX8_switches_2 (c_X8_whySwitch l x1 v) rfl rfl (by decide) rfl rfl (tm_gV tl_X8_213 ti_X8_whySwitch ts_X8_whySwitch tn_X8 tc_X8_whySwitch)  rfl rfl rfl rfl (by decide +kernel) ⟨by decide, by decide⟩ (Nat.le_of_ble_eq_true rfl) ⟨by decide, by decide⟩ (fun r2 v1 _ => ?_)
  refine tg_if_le 18 C0 dX8_switches_5 (by decide) (fun _ => ?_) (fun _ => ?_)
  · refine tg_aload_n 0 C0 dX8_switches_18 rfl rfl ?_
    refine tg_callVi (As := []) 0 0 C0 dX8_switches_19 (c_X8_does l v1) rfl rfl (by decide) rfl rfl (tm_gV tl_X8_147 ti_X8_does ts_X8_does tn_X8 tc_X8_does)  rfl rfl rfl rfl (by decide +kernel) ⟨by decide, by decide⟩ (Nat.le_of_ble_eq_true rfl) ⟨by decide, by decide⟩ (fun r4 v3 _ => ?_)
    refine tg_istore_n [(2, .int r4), (0, .ref (ad 0)), (1, .int x1)] C0 dX8_switches_22 rfl (by decide) rfl ?_
    refine tg_aload_n 1 C0 dX8_switches_23 rfl rfl ?_
    refine tg_get 0 1 C0 dX8_switches_24 (by decide) rfl rfl tu_X8 (by decide) tf_X8_7 rfl rfl rfl ?_
    refine tg_iconst (x := 5) C0 dX8_switches_27 (by decide) ?_
    refine tg_dup2 C0 dX8_switches_28 ⟨rfl, rfl⟩ ?_
    refine tg_iald 1 C0 dX8_switches_29 (by decide) rfl (fun _ => ?_)
    refine tg_iconst (x := 1) C0 dX8_switches_30 (by decide) ?_
    refine tg_iload_n 2 C0 dX8_switches_31 rfl rfl ?_
    refine tg_ishl C0 dX8_switches_32 ?_
    refine tg_ior C0 dX8_switches_33 ?_
    refine tg_iast 1 C0 dX8_switches_34 (by decide) rfl (fun _ => ?_)
    refine tg_letm (fun v5 _ => ?_)
    refine tg_aload_n 1 C0 dX8_switches_35 rfl rfl ?_
    refine tg_bipush (x := 6) C0 dX8_switches_36 (by decide) ?_
    refine tg_iload_n 2 C0 dX8_switches_38 rfl rfl ?_
    refine tg_callVv (As := [.int 6, .int x1]) 0 2 C0 dX8_switches_39 (c_X8_notes l 6 x1 v5) rfl rfl (by decide) rfl rfl (tm_gV tl_X8_85 ti_X8_notes ts_X8_notes tn_X8 tc_X8_notes)  rfl rfl rfl rfl (by decide +kernel) ⟨by decide, by decide⟩ (Nat.le_of_ble_eq_true rfl) ⟨by decide, by decide⟩ (fun v6 _ => ?_)
    refine tg_iload_n 0 C0 dX8_switches_42 rfl rfl ?_
    exact tg_iret C0 dX8_switches_43
  · refine tg_aload_n 0 C0 dX8_switches_8 rfl rfl ?_
    refine tg_aload_n 0 C0 dX8_switches_9 rfl rfl ?_
    refine tg_iload_n 1 C0 dX8_switches_10 rfl rfl ?_
    refine tg_callVi (As := [.int x1]) 0 1 C0 dX8_switches_11 (c_X8_whySwitch l x1 v1) rfl rfl (by decide) rfl rfl (tm_gV tl_X8_213 ti_X8_whySwitch ts_X8_whySwitch tn_X8 tc_X8_whySwitch)  rfl rfl rfl rfl (by decide +kernel) ⟨by decide, by decide⟩ (Nat.le_of_ble_eq_true rfl) ⟨by decide, by decide⟩ (fun r9 v8 _ => ?_)
    refine tg_callVi (As := [.int r9]) 0 1 C0 dX8_switches_14 (c_X8_refuses l r9 v8) rfl rfl (by decide) rfl rfl (tm_gV tl_X8_165 ti_X8_refuses ts_X8_refuses tn_X8 tc_X8_refuses)  rfl rfl rfl rfl (by decide +kernel) ⟨by decide, by decide⟩ (Nat.le_of_ble_eq_true rfl) ⟨by decide, by decide⟩ (fun r11 v10 _ => ?_)
    exact tg_iret C0 dX8_switches_17
theorem c_X8_switches (l : Launch) (x1 : Int32) (v : tmM) : tmMi tm_NWR tm_shR 13 l yX8_switches (Cond.code yX8_switches cX8_switches 3 (some .int) :: TMW) ({ frames := 3, cells := 0, slots := 0, locals := 66 } : Room) (fun ad => [.ref (ad 0), .int x1]) v (f_X8_switches x1 v) :=
  tmMi.of (cc := cX8_switches) (nL := 3) (by decide +kernel) rfl tm_NWR_ok (fun _ => Nat.le_of_ble_eq_true rfl) (fun p e s m args below meth c A D cy ad z C0 => w_X8_switches C0 x1 v)
-- ----- X8_switchOver
theorem dX8_switchOver_0 : decode cX8_switchOver 0 = .ok (.aload_n 0, 1) := by decide +kernel
theorem dX8_switchOver_1 : decode cX8_switchOver 1 = .ok (.iload_n 1, 1) := by decide +kernel
theorem dX8_switchOver_2 : decode cX8_switchOver 2 = .ok (.invokestatic 125, 3) := by decide +kernel
theorem dX8_switchOver_5 : decode cX8_switchOver 5 = .ok (.ifCond .eq 7, 3) := by decide +kernel
theorem dX8_switchOver_8 : decode cX8_switchOver 8 = .ok (.iconst 0, 1) := by decide +kernel
theorem dX8_switchOver_9 : decode cX8_switchOver 9 = .ok (.goto 4, 3) := by decide +kernel
theorem dX8_switchOver_12 : decode cX8_switchOver 12 = .ok (.iconst 1, 1) := by decide +kernel
theorem dX8_switchOver_13 : decode cX8_switchOver 13 = .ok (.putfield 56, 3) := by decide +kernel
theorem dX8_switchOver_16 : decode cX8_switchOver 16 = .ok (.aload_n 0, 1) := by decide +kernel
theorem dX8_switchOver_17 : decode cX8_switchOver 17 = .ok (.getfield 56, 3) := by decide +kernel
theorem dX8_switchOver_20 : decode cX8_switchOver 20 = .ok (.ifCond .le 7, 3) := by decide +kernel
theorem dX8_switchOver_23 : decode cX8_switchOver 23 = .ok (.iconst 0, 1) := by decide +kernel
theorem dX8_switchOver_24 : decode cX8_switchOver 24 = .ok (.goto 8, 3) := by decide +kernel
theorem dX8_switchOver_27 : decode cX8_switchOver 27 = .ok (.aload_n 0, 1) := by decide +kernel
theorem dX8_switchOver_28 : decode cX8_switchOver 28 = .ok (.iload_n 1, 1) := by decide +kernel
theorem dX8_switchOver_29 : decode cX8_switchOver 29 = .ok (.invokevirtual 216, 3) := by decide +kernel
theorem dX8_switchOver_32 : decode cX8_switchOver 32 = .ok (.ireturn, 1) := by decide +kernel
theorem tl_X8_216 : Cond.methodLink RX8 216 yX8_switches ∈ TMW := tm_in 1911 (by decide +kernel) (by decide +kernel)
theorem ti_X8_switches : Cond.instanceMethod yX8_switches ∈ TMW := tm_in 1913 (by decide +kernel) (by decide +kernel)
theorem ts_X8_switches : Cond.selects RX8 yX8_switches yX8_switches ∈ TMW := tm_in 78 (by decide +kernel) (by decide +kernel)
theorem tc_X8_switches : Cond.code yX8_switches cX8_switches 3 (some .int) ∈ TMW := tm_in 1914 (by decide +kernel) (by decide +kernel)
def f_X8_switchOver_13 (x1 s0 : Int32) (v : tmM) : Option (Int32 × tmM) := tm_lt (tm_up v 0 0 s0) fun v3 => (if (v3 0 0) ≤ 0 then tm_cl (f_X8_switches x1 v3) fun r5 v4 => some (r5, v4) else some (0, v3))
set_option maxRecDepth 100000 in
set_option maxHeartbeats 4000000 in
theorem w_X8_switchOver_13 {p : Program} {l : Launch} {e : Env} {s : State} {m : MethodId} {args : Array Value} {below : List Frame} {meth : Method} {c : Code} {D : va_G} {cy : Nat → ClassId} {ad : Nat → Nat} {A : Nat → Prop} {z : (Int32 × tmM)} (C0 : tmC p s m args meth c cX8_switchOver 2 (some .int) RX8 TMW tm_NWR D cy tm_shR ad 13 [] A) (x1 s0 : Int32) (v : tmM) : tmG p l e ({ frames := 4, cells := 0, slots := 0, locals := 88 } : Room) s m args below meth c 0 0 (MQ below (va_Qi (fun r u => z = (r, u)) (tmAt tm_shR 13 D cy ad A) A) args s 0 0 A) 2 D cy tm_shR ad 13 [] A z 13 [(0, .ref (ad 0)), (1, .int x1)] [.int s0, .ref (ad 0)] v (f_X8_switchOver_13 x1 s0 v) := by
  unfold f_X8_switchOver_13
  refine tg_put 0 0 C0 dX8_switchOver_13 (by decide) rfl rfl tu_X8 tyX8_ok nmX8 (by decide) tf_X8_56 rfl rfl rfl rfl rfl rfl ?_
  refine tg_letm (fun v3 _ => ?_)
  refine tg_aload_n 0 C0 dX8_switchOver_16 rfl rfl ?_
  refine tg_get 0 0 C0 dX8_switchOver_17 (by decide) rfl rfl tu_X8 (by decide) tf_X8_56 rfl rfl rfl ?_
  refine tg_if_le 27 C0 dX8_switchOver_20 (by decide) (fun _ => ?_) (fun _ => ?_)
  · refine tg_aload_n 0 C0 dX8_switchOver_27 rfl rfl ?_
    refine tg_iload_n 1 C0 dX8_switchOver_28 rfl rfl ?_
    refine tg_callVi (As := [.int x1]) 0 1 C0 dX8_switchOver_29 (c_X8_switches l x1 v3) rfl rfl (by decide) rfl rfl (tm_gV tl_X8_216 ti_X8_switches ts_X8_switches tn_X8 tc_X8_switches)  rfl rfl rfl rfl (by decide +kernel) ⟨by decide, by decide⟩ (Nat.le_of_ble_eq_true rfl) ⟨by decide, by decide⟩ (fun r5 v4 _ => ?_)
    exact tg_iret C0 dX8_switchOver_32
  · refine tg_iconst (x := 0) C0 dX8_switchOver_23 (by decide) ?_
    refine tg_goto 32 C0 dX8_switchOver_24 (by decide) ?_
    exact tg_iret C0 dX8_switchOver_32
def f_X8_switchOver (x1 : Int32) (v : tmM) : Option (Int32 × tmM) := tm_cl (f_X8_isReader x1 v) fun r2 v1 => (if r2 = 0 then f_X8_switchOver_13 x1 1 v1 else f_X8_switchOver_13 x1 0 v1)
set_option maxRecDepth 100000 in
set_option maxHeartbeats 4000000 in
theorem w_X8_switchOver {p : Program} {l : Launch} {e : Env} {s : State} {m : MethodId} {args : Array Value} {below : List Frame} {meth : Method} {c : Code} {D : va_G} {cy : Nat → ClassId} {ad : Nat → Nat} {A : Nat → Prop} {z : (Int32 × tmM)} (C0 : tmC p s m args meth c cX8_switchOver 2 (some .int) RX8 TMW tm_NWR D cy tm_shR ad 13 [] A) (x1 : Int32) (v : tmM) : tmG p l e ({ frames := 4, cells := 0, slots := 0, locals := 88 } : Room) s m args below meth c 0 0 (MQ below (va_Qi (fun r u => z = (r, u)) (tmAt tm_shR 13 D cy ad A) A) args s 0 0 A) 2 D cy tm_shR ad 13 [] A z 0 [(0, .ref (ad 0)), (1, .int x1)] [] v (f_X8_switchOver x1 v) := by
  unfold f_X8_switchOver
  refine tg_aload_n 0 C0 dX8_switchOver_0 rfl rfl ?_
  refine tg_iload_n 1 C0 dX8_switchOver_1 rfl rfl ?_
  refine tg_callSi (As := [.int x1]) 1 C0 dX8_switchOver_2 (c_X8_isReader l x1 v) rfl rfl (tm_gc tc_X8_isReader) tl_X8_125 tn_X8 tst_X8_isReader  rfl rfl rfl rfl (by decide +kernel) ⟨by decide, by decide⟩ (Nat.le_of_ble_eq_true rfl) ⟨by decide, by decide⟩ (fun r2 v1 _ => ?_)
  refine tg_if_eq 12 C0 dX8_switchOver_5 (by decide) (fun _ => ?_) (fun _ => ?_)
  · refine tg_iconst (x := 1) C0 dX8_switchOver_12 (by decide) ?_
    exact w_X8_switchOver_13 C0 x1 1 v1
  · refine tg_iconst (x := 0) C0 dX8_switchOver_8 (by decide) ?_
    refine tg_goto 13 C0 dX8_switchOver_9 (by decide) ?_
    exact w_X8_switchOver_13 C0 x1 0 v1
theorem c_X8_switchOver (l : Launch) (x1 : Int32) (v : tmM) : tmMi tm_NWR tm_shR 13 l yX8_switchOver (Cond.code yX8_switchOver cX8_switchOver 2 (some .int) :: TMW) ({ frames := 4, cells := 0, slots := 0, locals := 88 } : Room) (fun ad => [.ref (ad 0), .int x1]) v (f_X8_switchOver x1 v) :=
  tmMi.of (cc := cX8_switchOver) (nL := 2) (by decide +kernel) rfl tm_NWR_ok (fun _ => Nat.le_of_ble_eq_true rfl) (fun p e s m args below meth c A D cy ad z C0 => w_X8_switchOver C0 x1 v)
-- ----- X8_whyBack
theorem dX8_whyBack_0 : decode cX8_whyBack 0 = .ok (.aload_n 0, 1) := by decide +kernel
theorem dX8_whyBack_1 : decode cX8_whyBack 1 = .ok (.getfield 7, 3) := by decide +kernel
theorem dX8_whyBack_4 : decode cX8_whyBack 4 = .ok (.bipush 7, 2) := by decide +kernel
theorem dX8_whyBack_6 : decode cX8_whyBack 6 = .ok (.iaload, 1) := by decide +kernel
theorem dX8_whyBack_7 : decode cX8_whyBack 7 = .ok (.ifCond .le 17, 3) := by decide +kernel
theorem dX8_whyBack_10 : decode cX8_whyBack 10 = .ok (.aload_n 0, 1) := by decide +kernel
theorem dX8_whyBack_11 : decode cX8_whyBack 11 = .ok (.getfield 7, 3) := by decide +kernel
theorem dX8_whyBack_14 : decode cX8_whyBack 14 = .ok (.iconst 0, 1) := by decide +kernel
theorem dX8_whyBack_15 : decode cX8_whyBack 15 = .ok (.iaload, 1) := by decide +kernel
theorem dX8_whyBack_16 : decode cX8_whyBack 16 = .ok (.iconst 2, 1) := by decide +kernel
theorem dX8_whyBack_17 : decode cX8_whyBack 17 = .ok (.if_icmp .ne 7, 3) := by decide +kernel
theorem dX8_whyBack_20 : decode cX8_whyBack 20 = .ok (.iconst 1, 1) := by decide +kernel
theorem dX8_whyBack_21 : decode cX8_whyBack 21 = .ok (.goto 4, 3) := by decide +kernel
theorem dX8_whyBack_24 : decode cX8_whyBack 24 = .ok (.iconst 0, 1) := by decide +kernel
theorem dX8_whyBack_25 : decode cX8_whyBack 25 = .ok (.istore_n 2, 1) := by decide +kernel
theorem dX8_whyBack_26 : decode cX8_whyBack 26 = .ok (.aload_n 0, 1) := by decide +kernel
theorem dX8_whyBack_27 : decode cX8_whyBack 27 = .ok (.invokevirtual 140, 3) := by decide +kernel
theorem dX8_whyBack_30 : decode cX8_whyBack 30 = .ok (.ifCond .ne 7, 3) := by decide +kernel
theorem dX8_whyBack_33 : decode cX8_whyBack 33 = .ok (.iconst 2, 1) := by decide +kernel
theorem dX8_whyBack_34 : decode cX8_whyBack 34 = .ok (.goto 41, 3) := by decide +kernel
theorem dX8_whyBack_37 : decode cX8_whyBack 37 = .ok (.aload_n 0, 1) := by decide +kernel
theorem dX8_whyBack_38 : decode cX8_whyBack 38 = .ok (.getfield 7, 3) := by decide +kernel
theorem dX8_whyBack_41 : decode cX8_whyBack 41 = .ok (.iconst 5, 1) := by decide +kernel
theorem dX8_whyBack_42 : decode cX8_whyBack 42 = .ok (.iaload, 1) := by decide +kernel
theorem dX8_whyBack_43 : decode cX8_whyBack 43 = .ok (.iload_n 1, 1) := by decide +kernel
theorem dX8_whyBack_44 : decode cX8_whyBack 44 = .ok (.invokestatic 59, 3) := by decide +kernel
theorem dX8_whyBack_47 : decode cX8_whyBack 47 = .ok (.ifCond .ne 7, 3) := by decide +kernel
theorem dX8_whyBack_50 : decode cX8_whyBack 50 = .ok (.iconst 5, 1) := by decide +kernel
theorem dX8_whyBack_51 : decode cX8_whyBack 51 = .ok (.goto 24, 3) := by decide +kernel
theorem dX8_whyBack_54 : decode cX8_whyBack 54 = .ok (.aload_n 0, 1) := by decide +kernel
theorem dX8_whyBack_55 : decode cX8_whyBack 55 = .ok (.iconst 0, 1) := by decide +kernel
theorem dX8_whyBack_56 : decode cX8_whyBack 56 = .ok (.invokevirtual 113, 3) := by decide +kernel
theorem dX8_whyBack_59 : decode cX8_whyBack 59 = .ok (.ifCond .ne 7, 3) := by decide +kernel
theorem dX8_whyBack_62 : decode cX8_whyBack 62 = .ok (.iconst 1, 1) := by decide +kernel
theorem dX8_whyBack_63 : decode cX8_whyBack 63 = .ok (.goto 12, 3) := by decide +kernel
theorem dX8_whyBack_66 : decode cX8_whyBack 66 = .ok (.iload_n 2, 1) := by decide +kernel
theorem dX8_whyBack_67 : decode cX8_whyBack 67 = .ok (.ifCond .eq 7, 3) := by decide +kernel
theorem dX8_whyBack_70 : decode cX8_whyBack 70 = .ok (.iconst 4, 1) := by decide +kernel
theorem dX8_whyBack_71 : decode cX8_whyBack 71 = .ok (.goto 4, 3) := by decide +kernel
theorem dX8_whyBack_74 : decode cX8_whyBack 74 = .ok (.iconst 0, 1) := by decide +kernel
theorem dX8_whyBack_75 : decode cX8_whyBack 75 = .ok (.ireturn, 1) := by decide +kernel
def f_X8_whyBack_25 (x1 s0 : Int32) (v : tmM) : Option (Int32 × tmM) := tm_cl (f_X8_isBoth v) fun r2 v1 => (if r2 = 0 then some (2, v1) else tm_g (tm_ix 5 491) (tm_cl (f_X8_has (v1 1 (5 : Int32).toNatClampNeg) x1 v1) fun r4 v3 => (if r4 = 0 then some (5, v3) else tm_cl (f_X8_isUp 0 v3) fun r6 v5 => (if r6 = 0 then some (1, v5) else (if s0 = 0 then some (0, v5) else some (4, v5))))))
set_option maxRecDepth 100000 in
set_option maxHeartbeats 4000000 in
theorem w_X8_whyBack_25 {p : Program} {l : Launch} {e : Env} {s : State} {m : MethodId} {args : Array Value} {below : List Frame} {meth : Method} {c : Code} {D : va_G} {cy : Nat → ClassId} {ad : Nat → Nat} {A : Nat → Prop} {z : (Int32 × tmM)} (C0 : tmC p s m args meth c cX8_whyBack 3 (some .int) RX8 TMW tm_NWR D cy tm_shR ad 13 [] A) (x1 s0 : Int32) (v : tmM) : tmG p l e ({ frames := 2, cells := 0, slots := 0, locals := 42 } : Room) s m args below meth c 0 0 (MQ below (va_Qi (fun r u => z = (r, u)) (tmAt tm_shR 13 D cy ad A) A) args s 0 0 A) 3 D cy tm_shR ad 13 [] A z 25 [(0, .ref (ad 0)), (1, .int x1)] [.int s0] v (f_X8_whyBack_25 x1 s0 v) := by
  unfold f_X8_whyBack_25
  refine tg_istore_n [(2, .int s0), (0, .ref (ad 0)), (1, .int x1)] C0 dX8_whyBack_25 rfl (by decide) rfl ?_
  refine tg_aload_n 1 C0 dX8_whyBack_26 rfl rfl ?_
  refine tg_callVi (As := []) 0 0 C0 dX8_whyBack_27 (c_X8_isBoth l v) rfl rfl (by decide) rfl rfl (tm_gV tl_X8_140 ti_X8_isBoth ts_X8_isBoth tn_X8 tc_X8_isBoth)  rfl rfl rfl rfl (by decide +kernel) ⟨by decide, by decide⟩ (Nat.le_of_ble_eq_true rfl) ⟨by decide, by decide⟩ (fun r2 v1 _ => ?_)
  refine tg_if_ne 37 C0 dX8_whyBack_30 (by decide) (fun _ => ?_) (fun _ => ?_)
  · refine tg_aload_n 1 C0 dX8_whyBack_37 rfl rfl ?_
    refine tg_get 0 1 C0 dX8_whyBack_38 (by decide) rfl rfl tu_X8 (by decide) tf_X8_7 rfl rfl rfl ?_
    refine tg_iconst (x := 5) C0 dX8_whyBack_41 (by decide) ?_
    refine tg_iald 1 C0 dX8_whyBack_42 (by decide) rfl (fun _ => ?_)
    refine tg_iload_n 2 C0 dX8_whyBack_43 rfl rfl ?_
    refine tg_callSi (As := [.int (v1 1 (5 : Int32).toNatClampNeg), .int x1]) 2 C0 dX8_whyBack_44 (c_X8_has l (v1 1 (5 : Int32).toNatClampNeg) x1 v1) rfl rfl (tm_gc tc_X8_has) tl_X8_59 tn_X8 tst_X8_has  rfl rfl rfl rfl (by decide +kernel) ⟨by decide, by decide⟩ (Nat.le_of_ble_eq_true rfl) ⟨by decide, by decide⟩ (fun r4 v3 _ => ?_)
    refine tg_if_ne 54 C0 dX8_whyBack_47 (by decide) (fun _ => ?_) (fun _ => ?_)
    · refine tg_aload_n 1 C0 dX8_whyBack_54 rfl rfl ?_
      refine tg_iconst (x := 0) C0 dX8_whyBack_55 (by decide) ?_
      refine tg_callVi (As := [.int 0]) 0 1 C0 dX8_whyBack_56 (c_X8_isUp l 0 v3) rfl rfl (by decide) rfl rfl (tm_gV tl_X8_113 ti_X8_isUp ts_X8_isUp tn_X8 tc_X8_isUp)  rfl rfl rfl rfl (by decide +kernel) ⟨by decide, by decide⟩ (Nat.le_of_ble_eq_true rfl) ⟨by decide, by decide⟩ (fun r6 v5 _ => ?_)
      refine tg_if_ne 66 C0 dX8_whyBack_59 (by decide) (fun _ => ?_) (fun _ => ?_)
      · refine tg_iload_n 0 C0 dX8_whyBack_66 rfl rfl ?_
        refine tg_if_eq 74 C0 dX8_whyBack_67 (by decide) (fun _ => ?_) (fun _ => ?_)
        · refine tg_iconst (x := 0) C0 dX8_whyBack_74 (by decide) ?_
          exact tg_iret C0 dX8_whyBack_75
        · refine tg_iconst (x := 4) C0 dX8_whyBack_70 (by decide) ?_
          refine tg_goto 75 C0 dX8_whyBack_71 (by decide) ?_
          exact tg_iret C0 dX8_whyBack_75
      · refine tg_iconst (x := 1) C0 dX8_whyBack_62 (by decide) ?_
        refine tg_goto 75 C0 dX8_whyBack_63 (by decide) ?_
        exact tg_iret C0 dX8_whyBack_75
    · refine tg_iconst (x := 5) C0 dX8_whyBack_50 (by decide) ?_
      refine tg_goto 75 C0 dX8_whyBack_51 (by decide) ?_
      exact tg_iret C0 dX8_whyBack_75
  · refine tg_iconst (x := 2) C0 dX8_whyBack_33 (by decide) ?_
    refine tg_goto 75 C0 dX8_whyBack_34 (by decide) ?_
    exact tg_iret C0 dX8_whyBack_75
def f_X8_whyBack_24 (x1 : Int32) (v : tmM) : Option (Int32 × tmM) := f_X8_whyBack_25 x1 0 v
set_option maxRecDepth 100000 in
set_option maxHeartbeats 4000000 in
theorem w_X8_whyBack_24 {p : Program} {l : Launch} {e : Env} {s : State} {m : MethodId} {args : Array Value} {below : List Frame} {meth : Method} {c : Code} {D : va_G} {cy : Nat → ClassId} {ad : Nat → Nat} {A : Nat → Prop} {z : (Int32 × tmM)} (C0 : tmC p s m args meth c cX8_whyBack 3 (some .int) RX8 TMW tm_NWR D cy tm_shR ad 13 [] A) (x1 : Int32) (v : tmM) : tmG p l e ({ frames := 2, cells := 0, slots := 0, locals := 42 } : Room) s m args below meth c 0 0 (MQ below (va_Qi (fun r u => z = (r, u)) (tmAt tm_shR 13 D cy ad A) A) args s 0 0 A) 3 D cy tm_shR ad 13 [] A z 24 [(0, .ref (ad 0)), (1, .int x1)] [] v (f_X8_whyBack_24 x1 v) := by
  unfold f_X8_whyBack_24
  refine tg_iconst (x := 0) C0 dX8_whyBack_24 (by decide) ?_
  exact w_X8_whyBack_25 C0 x1 0 v
def f_X8_whyBack (x1 : Int32) (v : tmM) : Option (Int32 × tmM) := tm_g (tm_ix 7 491) ((if (v 1 (7 : Int32).toNatClampNeg) ≤ 0 then f_X8_whyBack_24 x1 v else tm_g (tm_ix 0 491) ((if (v 1 (0 : Int32).toNatClampNeg) = 2 then f_X8_whyBack_25 x1 1 v else f_X8_whyBack_24 x1 v))))
set_option maxRecDepth 100000 in
set_option maxHeartbeats 4000000 in
theorem w_X8_whyBack {p : Program} {l : Launch} {e : Env} {s : State} {m : MethodId} {args : Array Value} {below : List Frame} {meth : Method} {c : Code} {D : va_G} {cy : Nat → ClassId} {ad : Nat → Nat} {A : Nat → Prop} {z : (Int32 × tmM)} (C0 : tmC p s m args meth c cX8_whyBack 3 (some .int) RX8 TMW tm_NWR D cy tm_shR ad 13 [] A) (x1 : Int32) (v : tmM) : tmG p l e ({ frames := 2, cells := 0, slots := 0, locals := 42 } : Room) s m args below meth c 0 0 (MQ below (va_Qi (fun r u => z = (r, u)) (tmAt tm_shR 13 D cy ad A) A) args s 0 0 A) 3 D cy tm_shR ad 13 [] A z 0 [(0, .ref (ad 0)), (1, .int x1)] [] v (f_X8_whyBack x1 v) := by
  unfold f_X8_whyBack
  refine tg_aload_n 0 C0 dX8_whyBack_0 rfl rfl ?_
  refine tg_get 0 1 C0 dX8_whyBack_1 (by decide) rfl rfl tu_X8 (by decide) tf_X8_7 rfl rfl rfl ?_
  refine tg_bipush (x := 7) C0 dX8_whyBack_4 (by decide) ?_
  refine tg_iald 1 C0 dX8_whyBack_6 (by decide) rfl (fun _ => ?_)
  refine tg_if_le 24 C0 dX8_whyBack_7 (by decide) (fun _ => ?_) (fun _ => ?_)
  · exact w_X8_whyBack_24 C0 x1 v
  · refine tg_aload_n 0 C0 dX8_whyBack_10 rfl rfl ?_
    refine tg_get 0 1 C0 dX8_whyBack_11 (by decide) rfl rfl tu_X8 (by decide) tf_X8_7 rfl rfl rfl ?_
    refine tg_iconst (x := 0) C0 dX8_whyBack_14 (by decide) ?_
    refine tg_iald 1 C0 dX8_whyBack_15 (by decide) rfl (fun _ => ?_)
    refine tg_iconst (x := 2) C0 dX8_whyBack_16 (by decide) ?_
    refine tg_icmp_ne 24 C0 dX8_whyBack_17 (by decide) (fun _ => ?_) (fun _ => ?_)
    · exact w_X8_whyBack_24 C0 x1 v
    · refine tg_iconst (x := 1) C0 dX8_whyBack_20 (by decide) ?_
      refine tg_goto 25 C0 dX8_whyBack_21 (by decide) ?_
      exact w_X8_whyBack_25 C0 x1 1 v
theorem c_X8_whyBack (l : Launch) (x1 : Int32) (v : tmM) : tmMi tm_NWR tm_shR 13 l yX8_whyBack (Cond.code yX8_whyBack cX8_whyBack 3 (some .int) :: TMW) ({ frames := 2, cells := 0, slots := 0, locals := 42 } : Room) (fun ad => [.ref (ad 0), .int x1]) v (f_X8_whyBack x1 v) :=
  tmMi.of (cc := cX8_whyBack) (nL := 3) (by decide +kernel) rfl tm_NWR_ok (fun _ => Nat.le_of_ble_eq_true rfl) (fun p e s m args below meth c A D cy ad z C0 => w_X8_whyBack C0 x1 v)
-- ----- X8_switchesBack
theorem dX8_switchesBack_0 : decode cX8_switchesBack 0 = .ok (.aload_n 0, 1) := by decide +kernel
theorem dX8_switchesBack_1 : decode cX8_switchesBack 1 = .ok (.iload_n 1, 1) := by decide +kernel
theorem dX8_switchesBack_2 : decode cX8_switchesBack 2 = .ok (.invokevirtual 219, 3) := by decide +kernel
theorem dX8_switchesBack_5 : decode cX8_switchesBack 5 = .ok (.ifCond .le 13, 3) := by decide +kernel
theorem dX8_switchesBack_8 : decode cX8_switchesBack 8 = .ok (.aload_n 0, 1) := by decide +kernel
theorem dX8_switchesBack_9 : decode cX8_switchesBack 9 = .ok (.aload_n 0, 1) := by decide +kernel
theorem dX8_switchesBack_10 : decode cX8_switchesBack 10 = .ok (.iload_n 1, 1) := by decide +kernel
theorem dX8_switchesBack_11 : decode cX8_switchesBack 11 = .ok (.invokevirtual 219, 3) := by decide +kernel
theorem dX8_switchesBack_14 : decode cX8_switchesBack 14 = .ok (.invokevirtual 165, 3) := by decide +kernel
theorem dX8_switchesBack_17 : decode cX8_switchesBack 17 = .ok (.ireturn, 1) := by decide +kernel
theorem dX8_switchesBack_18 : decode cX8_switchesBack 18 = .ok (.aload_n 0, 1) := by decide +kernel
theorem dX8_switchesBack_19 : decode cX8_switchesBack 19 = .ok (.invokevirtual 147, 3) := by decide +kernel
theorem dX8_switchesBack_22 : decode cX8_switchesBack 22 = .ok (.istore_n 2, 1) := by decide +kernel
theorem dX8_switchesBack_23 : decode cX8_switchesBack 23 = .ok (.aload_n 0, 1) := by decide +kernel
theorem dX8_switchesBack_24 : decode cX8_switchesBack 24 = .ok (.getfield 7, 3) := by decide +kernel
theorem dX8_switchesBack_27 : decode cX8_switchesBack 27 = .ok (.iconst 5, 1) := by decide +kernel
theorem dX8_switchesBack_28 : decode cX8_switchesBack 28 = .ok (.dup2, 1) := by decide +kernel
theorem dX8_switchesBack_29 : decode cX8_switchesBack 29 = .ok (.iaload, 1) := by decide +kernel
theorem dX8_switchesBack_30 : decode cX8_switchesBack 30 = .ok (.iconst 1, 1) := by decide +kernel
theorem dX8_switchesBack_31 : decode cX8_switchesBack 31 = .ok (.iload_n 1, 1) := by decide +kernel
theorem dX8_switchesBack_32 : decode cX8_switchesBack 32 = .ok (.ishl, 1) := by decide +kernel
theorem dX8_switchesBack_33 : decode cX8_switchesBack 33 = .ok (.iconst (-1), 1) := by decide +kernel
theorem dX8_switchesBack_34 : decode cX8_switchesBack 34 = .ok (.ixor, 1) := by decide +kernel
theorem dX8_switchesBack_35 : decode cX8_switchesBack 35 = .ok (.iand, 1) := by decide +kernel
theorem dX8_switchesBack_36 : decode cX8_switchesBack 36 = .ok (.iastore, 1) := by decide +kernel
theorem dX8_switchesBack_37 : decode cX8_switchesBack 37 = .ok (.aload_n 0, 1) := by decide +kernel
theorem dX8_switchesBack_38 : decode cX8_switchesBack 38 = .ok (.bipush 7, 2) := by decide +kernel
theorem dX8_switchesBack_40 : decode cX8_switchesBack 40 = .ok (.iload_n 1, 1) := by decide +kernel
theorem dX8_switchesBack_41 : decode cX8_switchesBack 41 = .ok (.invokevirtual 85, 3) := by decide +kernel
theorem dX8_switchesBack_44 : decode cX8_switchesBack 44 = .ok (.iload_n 2, 1) := by decide +kernel
theorem dX8_switchesBack_45 : decode cX8_switchesBack 45 = .ok (.ireturn, 1) := by decide +kernel
theorem tl_X8_219 : Cond.methodLink RX8 219 yX8_whyBack ∈ TMW := tm_in 1927 (by decide +kernel) (by decide +kernel)
theorem ti_X8_whyBack : Cond.instanceMethod yX8_whyBack ∈ TMW := tm_in 1929 (by decide +kernel) (by decide +kernel)
theorem ts_X8_whyBack : Cond.selects RX8 yX8_whyBack yX8_whyBack ∈ TMW := tm_in 81 (by decide +kernel) (by decide +kernel)
theorem tc_X8_whyBack : Cond.code yX8_whyBack cX8_whyBack 3 (some .int) ∈ TMW := tm_in 1930 (by decide +kernel) (by decide +kernel)
def f_X8_switchesBack (x1 : Int32) (v : tmM) : Option (Int32 × tmM) := tm_cl (f_X8_whyBack x1 v) fun r2 v1 => (if r2 ≤ 0 then tm_cl (f_X8_does v1) fun r4 v3 => tm_g (tm_ix 5 491) (tm_g (tm_ix 5 491) (tm_lt (tm_up v3 1 (5 : Int32).toNatClampNeg ((v3 1 (5 : Int32).toNatClampNeg) &&& ((1 <<< (x1 &&& 31)) ^^^ (-1)))) fun v5 => tm_cl (f_X8_notes 7 x1 v5) fun _ v6 => some (r4, v6))) else tm_cl (f_X8_whyBack x1 v1) fun r9 v8 => tm_cl (f_X8_refuses r9 v8) fun r11 v10 => some (r11, v10))
set_option maxRecDepth 100000 in
set_option maxHeartbeats 4000000 in
theorem w_X8_switchesBack {p : Program} {l : Launch} {e : Env} {s : State} {m : MethodId} {args : Array Value} {below : List Frame} {meth : Method} {c : Code} {D : va_G} {cy : Nat → ClassId} {ad : Nat → Nat} {A : Nat → Prop} {z : (Int32 × tmM)} (C0 : tmC p s m args meth c cX8_switchesBack 3 (some .int) RX8 TMW tm_NWR D cy tm_shR ad 13 [] A) (x1 : Int32) (v : tmM) : tmG p l e ({ frames := 3, cells := 0, slots := 0, locals := 66 } : Room) s m args below meth c 0 0 (MQ below (va_Qi (fun r u => z = (r, u)) (tmAt tm_shR 13 D cy ad A) A) args s 0 0 A) 3 D cy tm_shR ad 13 [] A z 0 [(0, .ref (ad 0)), (1, .int x1)] [] v (f_X8_switchesBack x1 v) := by
  unfold f_X8_switchesBack
  refine tg_aload_n 0 C0 dX8_switchesBack_0 rfl rfl ?_
  refine tg_iload_n 1 C0 dX8_switchesBack_1 rfl rfl ?_
  refine tg_callVi (As := [.int x1]) 0 1 C0 dX8_switchesBack_2 (c_X8_whyBack l x1 v) rfl rfl (by decide) rfl rfl (tm_gV tl_X8_219 ti_X8_whyBack ts_X8_whyBack tn_X8 tc_X8_whyBack)  rfl rfl rfl rfl (by decide +kernel) ⟨by decide, by decide⟩ (Nat.le_of_ble_eq_true rfl) ⟨by decide, by decide⟩ (fun r2 v1 _ => ?_)
  refine tg_if_le 18 C0 dX8_switchesBack_5 (by decide) (fun _ => ?_) (fun _ => ?_)
  · refine tg_aload_n 0 C0 dX8_switchesBack_18 rfl rfl ?_
    refine tg_callVi (As := []) 0 0 C0 dX8_switchesBack_19 (c_X8_does l v1) rfl rfl (by decide) rfl rfl (tm_gV tl_X8_147 ti_X8_does ts_X8_does tn_X8 tc_X8_does)  rfl rfl rfl rfl (by decide +kernel) ⟨by decide, by decide⟩ (Nat.le_of_ble_eq_true rfl) ⟨by decide, by decide⟩ (fun r4 v3 _ => ?_)
    refine tg_istore_n [(2, .int r4), (0, .ref (ad 0)), (1, .int x1)] C0 dX8_switchesBack_22 rfl (by decide) rfl ?_
    refine tg_aload_n 1 C0 dX8_switchesBack_23 rfl rfl ?_
    refine tg_get 0 1 C0 dX8_switchesBack_24 (by decide) rfl rfl tu_X8 (by decide) tf_X8_7 rfl rfl rfl ?_
    refine tg_iconst (x := 5) C0 dX8_switchesBack_27 (by decide) ?_
    refine tg_dup2 C0 dX8_switchesBack_28 ⟨rfl, rfl⟩ ?_
    refine tg_iald 1 C0 dX8_switchesBack_29 (by decide) rfl (fun _ => ?_)
    refine tg_iconst (x := 1) C0 dX8_switchesBack_30 (by decide) ?_
    refine tg_iload_n 2 C0 dX8_switchesBack_31 rfl rfl ?_
    refine tg_ishl C0 dX8_switchesBack_32 ?_
    refine tg_iconst (x := (-1)) C0 dX8_switchesBack_33 (by decide) ?_
    refine tg_ixor C0 dX8_switchesBack_34 ?_
    refine tg_iand C0 dX8_switchesBack_35 ?_
    refine tg_iast 1 C0 dX8_switchesBack_36 (by decide) rfl (fun _ => ?_)
    refine tg_letm (fun v5 _ => ?_)
    refine tg_aload_n 1 C0 dX8_switchesBack_37 rfl rfl ?_
    refine tg_bipush (x := 7) C0 dX8_switchesBack_38 (by decide) ?_
    refine tg_iload_n 2 C0 dX8_switchesBack_40 rfl rfl ?_
    refine tg_callVv (As := [.int 7, .int x1]) 0 2 C0 dX8_switchesBack_41 (c_X8_notes l 7 x1 v5) rfl rfl (by decide) rfl rfl (tm_gV tl_X8_85 ti_X8_notes ts_X8_notes tn_X8 tc_X8_notes)  rfl rfl rfl rfl (by decide +kernel) ⟨by decide, by decide⟩ (Nat.le_of_ble_eq_true rfl) ⟨by decide, by decide⟩ (fun v6 _ => ?_)
    refine tg_iload_n 0 C0 dX8_switchesBack_44 rfl rfl ?_
    exact tg_iret C0 dX8_switchesBack_45
  · refine tg_aload_n 0 C0 dX8_switchesBack_8 rfl rfl ?_
    refine tg_aload_n 0 C0 dX8_switchesBack_9 rfl rfl ?_
    refine tg_iload_n 1 C0 dX8_switchesBack_10 rfl rfl ?_
    refine tg_callVi (As := [.int x1]) 0 1 C0 dX8_switchesBack_11 (c_X8_whyBack l x1 v1) rfl rfl (by decide) rfl rfl (tm_gV tl_X8_219 ti_X8_whyBack ts_X8_whyBack tn_X8 tc_X8_whyBack)  rfl rfl rfl rfl (by decide +kernel) ⟨by decide, by decide⟩ (Nat.le_of_ble_eq_true rfl) ⟨by decide, by decide⟩ (fun r9 v8 _ => ?_)
    refine tg_callVi (As := [.int r9]) 0 1 C0 dX8_switchesBack_14 (c_X8_refuses l r9 v8) rfl rfl (by decide) rfl rfl (tm_gV tl_X8_165 ti_X8_refuses ts_X8_refuses tn_X8 tc_X8_refuses)  rfl rfl rfl rfl (by decide +kernel) ⟨by decide, by decide⟩ (Nat.le_of_ble_eq_true rfl) ⟨by decide, by decide⟩ (fun r11 v10 _ => ?_)
    exact tg_iret C0 dX8_switchesBack_17
theorem c_X8_switchesBack (l : Launch) (x1 : Int32) (v : tmM) : tmMi tm_NWR tm_shR 13 l yX8_switchesBack (Cond.code yX8_switchesBack cX8_switchesBack 3 (some .int) :: TMW) ({ frames := 3, cells := 0, slots := 0, locals := 66 } : Room) (fun ad => [.ref (ad 0), .int x1]) v (f_X8_switchesBack x1 v) :=
  tmMi.of (cc := cX8_switchesBack) (nL := 3) (by decide +kernel) rfl tm_NWR_ok (fun _ => Nat.le_of_ble_eq_true rfl) (fun p e s m args below meth c A D cy ad z C0 => w_X8_switchesBack C0 x1 v)
-- ----- X8_switchBack
theorem dX8_switchBack_0 : decode cX8_switchBack 0 = .ok (.aload_n 0, 1) := by decide +kernel
theorem dX8_switchBack_1 : decode cX8_switchBack 1 = .ok (.iload_n 1, 1) := by decide +kernel
theorem dX8_switchBack_2 : decode cX8_switchBack 2 = .ok (.invokestatic 125, 3) := by decide +kernel
theorem dX8_switchBack_5 : decode cX8_switchBack 5 = .ok (.ifCond .eq 7, 3) := by decide +kernel
theorem dX8_switchBack_8 : decode cX8_switchBack 8 = .ok (.iconst 0, 1) := by decide +kernel
theorem dX8_switchBack_9 : decode cX8_switchBack 9 = .ok (.goto 4, 3) := by decide +kernel
theorem dX8_switchBack_12 : decode cX8_switchBack 12 = .ok (.iconst 1, 1) := by decide +kernel
theorem dX8_switchBack_13 : decode cX8_switchBack 13 = .ok (.putfield 56, 3) := by decide +kernel
theorem dX8_switchBack_16 : decode cX8_switchBack 16 = .ok (.aload_n 0, 1) := by decide +kernel
theorem dX8_switchBack_17 : decode cX8_switchBack 17 = .ok (.getfield 56, 3) := by decide +kernel
theorem dX8_switchBack_20 : decode cX8_switchBack 20 = .ok (.ifCond .le 7, 3) := by decide +kernel
theorem dX8_switchBack_23 : decode cX8_switchBack 23 = .ok (.iconst 0, 1) := by decide +kernel
theorem dX8_switchBack_24 : decode cX8_switchBack 24 = .ok (.goto 8, 3) := by decide +kernel
theorem dX8_switchBack_27 : decode cX8_switchBack 27 = .ok (.aload_n 0, 1) := by decide +kernel
theorem dX8_switchBack_28 : decode cX8_switchBack 28 = .ok (.iload_n 1, 1) := by decide +kernel
theorem dX8_switchBack_29 : decode cX8_switchBack 29 = .ok (.invokevirtual 222, 3) := by decide +kernel
theorem dX8_switchBack_32 : decode cX8_switchBack 32 = .ok (.ireturn, 1) := by decide +kernel
theorem tl_X8_222 : Cond.methodLink RX8 222 yX8_switchesBack ∈ TMW := tm_in 1923 (by decide +kernel) (by decide +kernel)
theorem ti_X8_switchesBack : Cond.instanceMethod yX8_switchesBack ∈ TMW := tm_in 1925 (by decide +kernel) (by decide +kernel)
theorem ts_X8_switchesBack : Cond.selects RX8 yX8_switchesBack yX8_switchesBack ∈ TMW := tm_in 80 (by decide +kernel) (by decide +kernel)
theorem tc_X8_switchesBack : Cond.code yX8_switchesBack cX8_switchesBack 3 (some .int) ∈ TMW := tm_in 1926 (by decide +kernel) (by decide +kernel)
def f_X8_switchBack_13 (x1 s0 : Int32) (v : tmM) : Option (Int32 × tmM) := tm_lt (tm_up v 0 0 s0) fun v3 => (if (v3 0 0) ≤ 0 then tm_cl (f_X8_switchesBack x1 v3) fun r5 v4 => some (r5, v4) else some (0, v3))
set_option maxRecDepth 100000 in
set_option maxHeartbeats 4000000 in
theorem w_X8_switchBack_13 {p : Program} {l : Launch} {e : Env} {s : State} {m : MethodId} {args : Array Value} {below : List Frame} {meth : Method} {c : Code} {D : va_G} {cy : Nat → ClassId} {ad : Nat → Nat} {A : Nat → Prop} {z : (Int32 × tmM)} (C0 : tmC p s m args meth c cX8_switchBack 2 (some .int) RX8 TMW tm_NWR D cy tm_shR ad 13 [] A) (x1 s0 : Int32) (v : tmM) : tmG p l e ({ frames := 4, cells := 0, slots := 0, locals := 88 } : Room) s m args below meth c 0 0 (MQ below (va_Qi (fun r u => z = (r, u)) (tmAt tm_shR 13 D cy ad A) A) args s 0 0 A) 2 D cy tm_shR ad 13 [] A z 13 [(0, .ref (ad 0)), (1, .int x1)] [.int s0, .ref (ad 0)] v (f_X8_switchBack_13 x1 s0 v) := by
  unfold f_X8_switchBack_13
  refine tg_put 0 0 C0 dX8_switchBack_13 (by decide) rfl rfl tu_X8 tyX8_ok nmX8 (by decide) tf_X8_56 rfl rfl rfl rfl rfl rfl ?_
  refine tg_letm (fun v3 _ => ?_)
  refine tg_aload_n 0 C0 dX8_switchBack_16 rfl rfl ?_
  refine tg_get 0 0 C0 dX8_switchBack_17 (by decide) rfl rfl tu_X8 (by decide) tf_X8_56 rfl rfl rfl ?_
  refine tg_if_le 27 C0 dX8_switchBack_20 (by decide) (fun _ => ?_) (fun _ => ?_)
  · refine tg_aload_n 0 C0 dX8_switchBack_27 rfl rfl ?_
    refine tg_iload_n 1 C0 dX8_switchBack_28 rfl rfl ?_
    refine tg_callVi (As := [.int x1]) 0 1 C0 dX8_switchBack_29 (c_X8_switchesBack l x1 v3) rfl rfl (by decide) rfl rfl (tm_gV tl_X8_222 ti_X8_switchesBack ts_X8_switchesBack tn_X8 tc_X8_switchesBack)  rfl rfl rfl rfl (by decide +kernel) ⟨by decide, by decide⟩ (Nat.le_of_ble_eq_true rfl) ⟨by decide, by decide⟩ (fun r5 v4 _ => ?_)
    exact tg_iret C0 dX8_switchBack_32
  · refine tg_iconst (x := 0) C0 dX8_switchBack_23 (by decide) ?_
    refine tg_goto 32 C0 dX8_switchBack_24 (by decide) ?_
    exact tg_iret C0 dX8_switchBack_32
def f_X8_switchBack (x1 : Int32) (v : tmM) : Option (Int32 × tmM) := tm_cl (f_X8_isReader x1 v) fun r2 v1 => (if r2 = 0 then f_X8_switchBack_13 x1 1 v1 else f_X8_switchBack_13 x1 0 v1)
set_option maxRecDepth 100000 in
set_option maxHeartbeats 4000000 in
theorem w_X8_switchBack {p : Program} {l : Launch} {e : Env} {s : State} {m : MethodId} {args : Array Value} {below : List Frame} {meth : Method} {c : Code} {D : va_G} {cy : Nat → ClassId} {ad : Nat → Nat} {A : Nat → Prop} {z : (Int32 × tmM)} (C0 : tmC p s m args meth c cX8_switchBack 2 (some .int) RX8 TMW tm_NWR D cy tm_shR ad 13 [] A) (x1 : Int32) (v : tmM) : tmG p l e ({ frames := 4, cells := 0, slots := 0, locals := 88 } : Room) s m args below meth c 0 0 (MQ below (va_Qi (fun r u => z = (r, u)) (tmAt tm_shR 13 D cy ad A) A) args s 0 0 A) 2 D cy tm_shR ad 13 [] A z 0 [(0, .ref (ad 0)), (1, .int x1)] [] v (f_X8_switchBack x1 v) := by
  unfold f_X8_switchBack
  refine tg_aload_n 0 C0 dX8_switchBack_0 rfl rfl ?_
  refine tg_iload_n 1 C0 dX8_switchBack_1 rfl rfl ?_
  refine tg_callSi (As := [.int x1]) 1 C0 dX8_switchBack_2 (c_X8_isReader l x1 v) rfl rfl (tm_gc tc_X8_isReader) tl_X8_125 tn_X8 tst_X8_isReader  rfl rfl rfl rfl (by decide +kernel) ⟨by decide, by decide⟩ (Nat.le_of_ble_eq_true rfl) ⟨by decide, by decide⟩ (fun r2 v1 _ => ?_)
  refine tg_if_eq 12 C0 dX8_switchBack_5 (by decide) (fun _ => ?_) (fun _ => ?_)
  · refine tg_iconst (x := 1) C0 dX8_switchBack_12 (by decide) ?_
    exact w_X8_switchBack_13 C0 x1 1 v1
  · refine tg_iconst (x := 0) C0 dX8_switchBack_8 (by decide) ?_
    refine tg_goto 13 C0 dX8_switchBack_9 (by decide) ?_
    exact w_X8_switchBack_13 C0 x1 0 v1
theorem c_X8_switchBack (l : Launch) (x1 : Int32) (v : tmM) : tmMi tm_NWR tm_shR 13 l yX8_switchBack (Cond.code yX8_switchBack cX8_switchBack 2 (some .int) :: TMW) ({ frames := 4, cells := 0, slots := 0, locals := 88 } : Room) (fun ad => [.ref (ad 0), .int x1]) v (f_X8_switchBack x1 v) :=
  tmMi.of (cc := cX8_switchBack) (nL := 2) (by decide +kernel) rfl tm_NWR_ok (fun _ => Nat.le_of_ble_eq_true rfl) (fun p e s m args below meth c A D cy ad z C0 => w_X8_switchBack C0 x1 v)
-- ----- X8_areChecked
theorem dX8_areChecked_0 : decode cX8_areChecked 0 = .ok (.aload_n 0, 1) := by decide +kernel
theorem dX8_areChecked_1 : decode cX8_areChecked 1 = .ok (.getfield 7, 3) := by decide +kernel
theorem dX8_areChecked_4 : decode cX8_areChecked 4 = .ok (.iconst 4, 1) := by decide +kernel
theorem dX8_areChecked_5 : decode cX8_areChecked 5 = .ok (.iaload, 1) := by decide +kernel
theorem dX8_areChecked_6 : decode cX8_areChecked 6 = .ok (.sipush 32767, 3) := by decide +kernel
theorem dX8_areChecked_9 : decode cX8_areChecked 9 = .ok (.if_icmp .ne 7, 3) := by decide +kernel
theorem dX8_areChecked_12 : decode cX8_areChecked 12 = .ok (.iconst 1, 1) := by decide +kernel
theorem dX8_areChecked_13 : decode cX8_areChecked 13 = .ok (.goto 4, 3) := by decide +kernel
theorem dX8_areChecked_16 : decode cX8_areChecked 16 = .ok (.iconst 0, 1) := by decide +kernel
theorem dX8_areChecked_17 : decode cX8_areChecked 17 = .ok (.istore_n 1, 1) := by decide +kernel
theorem dX8_areChecked_18 : decode cX8_areChecked 18 = .ok (.iconst 0, 1) := by decide +kernel
theorem dX8_areChecked_19 : decode cX8_areChecked 19 = .ok (.istore_n 2, 1) := by decide +kernel
theorem dX8_areChecked_20 : decode cX8_areChecked 20 = .ok (.iload_n 2, 1) := by decide +kernel
theorem dX8_areChecked_21 : decode cX8_areChecked 21 = .ok (.bipush 15, 2) := by decide +kernel
theorem dX8_areChecked_23 : decode cX8_areChecked 23 = .ok (.if_icmp .ge 34, 3) := by decide +kernel
theorem dX8_areChecked_26 : decode cX8_areChecked 26 = .ok (.iload_n 1, 1) := by decide +kernel
theorem dX8_areChecked_27 : decode cX8_areChecked 27 = .ok (.ifCond .eq 30, 3) := by decide +kernel
theorem dX8_areChecked_30 : decode cX8_areChecked 30 = .ok (.aload_n 0, 1) := by decide +kernel
theorem dX8_areChecked_31 : decode cX8_areChecked 31 = .ok (.iconst 0, 1) := by decide +kernel
theorem dX8_areChecked_32 : decode cX8_areChecked 32 = .ok (.iload_n 2, 1) := by decide +kernel
theorem dX8_areChecked_33 : decode cX8_areChecked 33 = .ok (.invokevirtual 134, 3) := by decide +kernel
theorem dX8_areChecked_36 : decode cX8_areChecked 36 = .ok (.aload_n 0, 1) := by decide +kernel
theorem dX8_areChecked_37 : decode cX8_areChecked 37 = .ok (.iconst 1, 1) := by decide +kernel
theorem dX8_areChecked_38 : decode cX8_areChecked 38 = .ok (.iload_n 2, 1) := by decide +kernel
theorem dX8_areChecked_39 : decode cX8_areChecked 39 = .ok (.invokevirtual 134, 3) := by decide +kernel
theorem dX8_areChecked_42 : decode cX8_areChecked 42 = .ok (.if_icmp .ne 7, 3) := by decide +kernel
theorem dX8_areChecked_45 : decode cX8_areChecked 45 = .ok (.iconst 1, 1) := by decide +kernel
theorem dX8_areChecked_46 : decode cX8_areChecked 46 = .ok (.goto 4, 3) := by decide +kernel
theorem dX8_areChecked_49 : decode cX8_areChecked 49 = .ok (.iconst 0, 1) := by decide +kernel
theorem dX8_areChecked_50 : decode cX8_areChecked 50 = .ok (.istore_n 1, 1) := by decide +kernel
theorem dX8_areChecked_51 : decode cX8_areChecked 51 = .ok (.iinc 2 1, 3) := by decide +kernel
theorem dX8_areChecked_54 : decode cX8_areChecked 54 = .ok (.goto (-34), 3) := by decide +kernel
theorem dX8_areChecked_57 : decode cX8_areChecked 57 = .ok (.iload_n 1, 1) := by decide +kernel
theorem dX8_areChecked_58 : decode cX8_areChecked 58 = .ok (.ireturn, 1) := by decide +kernel
def f_X8_areChecked_50 (K0 : Int32 → tmM → Option (Int32 × tmM)) (L : Int32 → Int32 → tmM → Option (Int32 × tmM)) (x2 s0 : Int32) (v : tmM) : Option (Int32 × tmM) := L s0 (x2 + 1) v
set_option maxRecDepth 100000 in
set_option maxHeartbeats 4000000 in
theorem w_X8_areChecked_50 {p : Program} {l : Launch} {e : Env} {s : State} {m : MethodId} {args : Array Value} {below : List Frame} {meth : Method} {c : Code} {D : va_G} {cy : Nat → ClassId} {ad : Nat → Nat} {A : Nat → Prop} {z : (Int32 × tmM)} {K0 : Int32 → tmM → Option (Int32 × tmM)} {L : Int32 → Int32 → tmM → Option (Int32 × tmM)} (C0 : tmC p s m args meth c cX8_areChecked 3 (some .boolean) RX8 TMW tm_NWR D cy tm_shR ad 13 [] A) (hK0 : ∀ (a1 : Int32) (w : tmM), tmG p l e ({ frames := 4, cells := 0, slots := 0, locals := 92 } : Room) s m args below meth c 0 0 (MQ below (va_Qi (fun r u => z = (r, u)) (tmAt tm_shR 13 D cy ad A) A) args s 0 0 A) 3 D cy tm_shR ad 13 [] A z 57 [(1, .int a1)] [] w (K0 a1 w)) (hL : ∀ (a1 a2 : Int32) (w : tmM), tmG p l e ({ frames := 4, cells := 0, slots := 0, locals := 92 } : Room) s m args below meth c 0 0 (MQ below (va_Qi (fun r u => z = (r, u)) (tmAt tm_shR 13 D cy ad A) A) args s 0 0 A) 3 D cy tm_shR ad 13 [] A z 20 [(0, .ref (ad 0)), (1, .int a1), (2, .int a2)] [] w (L a1 a2 w)) (x2 s0 : Int32) (v : tmM) : tmG p l e ({ frames := 4, cells := 0, slots := 0, locals := 92 } : Room) s m args below meth c 0 0 (MQ below (va_Qi (fun r u => z = (r, u)) (tmAt tm_shR 13 D cy ad A) A) args s 0 0 A) 3 D cy tm_shR ad 13 [] A z 50 [(0, .ref (ad 0)), (2, .int x2)] [.int s0] v (f_X8_areChecked_50 K0 L x2 s0 v) := by
  unfold f_X8_areChecked_50
  refine tg_istore_n [(1, .int s0), (0, .ref (ad 0)), (2, .int x2)] C0 dX8_areChecked_50 rfl (by decide) rfl ?_
  refine tg_iinc [(2, .int (x2 + 1)), (1, .int s0), (0, .ref (ad 0))] 2 C0 dX8_areChecked_51 rfl rfl (by decide) rfl ?_
  refine tg_goto 20 C0 dX8_areChecked_54 (by decide) ?_
  refine tg_sub [2, 1, 0] rfl ?_
  exact hL s0 (x2 + 1) v
def f_X8_areChecked_20b (K0 : Int32 → tmM → Option (Int32 × tmM)) (L : Int32 → Int32 → tmM → Option (Int32 × tmM)) (x1 x2 : Int32) (v : tmM) : Option (Int32 × tmM) := (if 15 ≤ x2 then K0 x1 v else (if x1 = 0 then K0 x1 v else tm_cl (f_X8_sumOf 0 x2 v) fun r2 v1 => tm_cl (f_X8_sumOf 1 x2 v1) fun r4 v3 => (if r2 = r4 then f_X8_areChecked_50 K0 L x2 1 v3 else f_X8_areChecked_50 K0 L x2 0 v3)))
set_option maxRecDepth 100000 in
set_option maxHeartbeats 4000000 in
theorem w_X8_areChecked_20b {p : Program} {l : Launch} {e : Env} {s : State} {m : MethodId} {args : Array Value} {below : List Frame} {meth : Method} {c : Code} {D : va_G} {cy : Nat → ClassId} {ad : Nat → Nat} {A : Nat → Prop} {z : (Int32 × tmM)} {K0 : Int32 → tmM → Option (Int32 × tmM)} {L : Int32 → Int32 → tmM → Option (Int32 × tmM)} (C0 : tmC p s m args meth c cX8_areChecked 3 (some .boolean) RX8 TMW tm_NWR D cy tm_shR ad 13 [] A) (hK0 : ∀ (a1 : Int32) (w : tmM), tmG p l e ({ frames := 4, cells := 0, slots := 0, locals := 92 } : Room) s m args below meth c 0 0 (MQ below (va_Qi (fun r u => z = (r, u)) (tmAt tm_shR 13 D cy ad A) A) args s 0 0 A) 3 D cy tm_shR ad 13 [] A z 57 [(1, .int a1)] [] w (K0 a1 w)) (hL : ∀ (a1 a2 : Int32) (w : tmM), tmG p l e ({ frames := 4, cells := 0, slots := 0, locals := 92 } : Room) s m args below meth c 0 0 (MQ below (va_Qi (fun r u => z = (r, u)) (tmAt tm_shR 13 D cy ad A) A) args s 0 0 A) 3 D cy tm_shR ad 13 [] A z 20 [(0, .ref (ad 0)), (1, .int a1), (2, .int a2)] [] w (L a1 a2 w)) (x1 x2 : Int32) (v : tmM) : tmG p l e ({ frames := 4, cells := 0, slots := 0, locals := 92 } : Room) s m args below meth c 0 0 (MQ below (va_Qi (fun r u => z = (r, u)) (tmAt tm_shR 13 D cy ad A) A) args s 0 0 A) 3 D cy tm_shR ad 13 [] A z 20 [(0, .ref (ad 0)), (1, .int x1), (2, .int x2)] [] v (f_X8_areChecked_20b K0 L x1 x2 v) := by
  unfold f_X8_areChecked_20b
  refine tg_iload_n 2 C0 dX8_areChecked_20 rfl rfl ?_
  refine tg_bipush (x := 15) C0 dX8_areChecked_21 (by decide) ?_
  refine tg_icmp_ge 57 C0 dX8_areChecked_23 (by decide) (fun _ => ?_) (fun _ => ?_)
  · refine tg_sub [1] rfl ?_
    exact hK0 x1 v
  · refine tg_iload_n 1 C0 dX8_areChecked_26 rfl rfl ?_
    refine tg_if_eq 57 C0 dX8_areChecked_27 (by decide) (fun _ => ?_) (fun _ => ?_)
    · refine tg_sub [1] rfl ?_
      exact hK0 x1 v
    · refine tg_aload_n 0 C0 dX8_areChecked_30 rfl rfl ?_
      refine tg_iconst (x := 0) C0 dX8_areChecked_31 (by decide) ?_
      refine tg_iload_n 2 C0 dX8_areChecked_32 rfl rfl ?_
      refine tg_callVi (As := [.int 0, .int x2]) 0 2 C0 dX8_areChecked_33 (c_X8_sumOf l 0 x2 v) rfl rfl (by decide) rfl rfl (tm_gV tl_X8_134 ti_X8_sumOf ts_X8_sumOf tn_X8 tc_X8_sumOf)  rfl rfl rfl rfl (by decide +kernel) ⟨by decide, by decide⟩ (Nat.le_of_ble_eq_true rfl) ⟨by decide, by decide⟩ (fun r2 v1 _ => ?_)
      refine tg_aload_n 0 C0 dX8_areChecked_36 rfl rfl ?_
      refine tg_iconst (x := 1) C0 dX8_areChecked_37 (by decide) ?_
      refine tg_iload_n 2 C0 dX8_areChecked_38 rfl rfl ?_
      refine tg_callVi (As := [.int 1, .int x2]) 0 2 C0 dX8_areChecked_39 (c_X8_sumOf l 1 x2 v1) rfl rfl (by decide) rfl rfl (tm_gV tl_X8_134 ti_X8_sumOf ts_X8_sumOf tn_X8 tc_X8_sumOf)  rfl rfl rfl rfl (by decide +kernel) ⟨by decide, by decide⟩ (Nat.le_of_ble_eq_true rfl) ⟨by decide, by decide⟩ (fun r4 v3 _ => ?_)
      refine tg_icmp_ne 49 C0 dX8_areChecked_42 (by decide) (fun _ => ?_) (fun _ => ?_)
      · refine tg_iconst (x := 0) C0 dX8_areChecked_49 (by decide) ?_
        refine tg_sub [0, 2] rfl ?_
        exact w_X8_areChecked_50 C0 hK0 hL x2 0 v3
      · refine tg_iconst (x := 1) C0 dX8_areChecked_45 (by decide) ?_
        refine tg_goto 50 C0 dX8_areChecked_46 (by decide) ?_
        refine tg_sub [0, 2] rfl ?_
        exact w_X8_areChecked_50 C0 hK0 hL x2 1 v3
def f_X8_areChecked_20 (K0 : Int32 → tmM → Option (Int32 × tmM)) : Nat → Int32 → Int32 → tmM → Option (Int32 × tmM)
  | 0 => fun _ _ _ => none
  | n + 1 => f_X8_areChecked_20b K0 (f_X8_areChecked_20 K0 n)
theorem w_X8_areChecked_20 {p : Program} {l : Launch} {e : Env} {s : State} {m : MethodId} {args : Array Value} {below : List Frame} {meth : Method} {c : Code} {D : va_G} {cy : Nat → ClassId} {ad : Nat → Nat} {A : Nat → Prop} {z : (Int32 × tmM)} {K0 : Int32 → tmM → Option (Int32 × tmM)} (C0 : tmC p s m args meth c cX8_areChecked 3 (some .boolean) RX8 TMW tm_NWR D cy tm_shR ad 13 [] A) (hK0 : ∀ (a1 : Int32) (w : tmM), tmG p l e ({ frames := 4, cells := 0, slots := 0, locals := 92 } : Room) s m args below meth c 0 0 (MQ below (va_Qi (fun r u => z = (r, u)) (tmAt tm_shR 13 D cy ad A) A) args s 0 0 A) 3 D cy tm_shR ad 13 [] A z 57 [(1, .int a1)] [] w (K0 a1 w)) (nn : Nat) : ∀ (x1 x2 : Int32) (v : tmM), tmG p l e ({ frames := 4, cells := 0, slots := 0, locals := 92 } : Room) s m args below meth c 0 0 (MQ below (va_Qi (fun r u => z = (r, u)) (tmAt tm_shR 13 D cy ad A) A) args s 0 0 A) 3 D cy tm_shR ad 13 [] A z 20 [(0, .ref (ad 0)), (1, .int x1), (2, .int x2)] [] v (f_X8_areChecked_20 K0 nn x1 x2 v) := by
  induction nn with
  | zero => intro _ _ _; exact tg_none
  | succ n ih => intro x1 x2 v; exact w_X8_areChecked_20b C0 hK0 ih x1 x2 v
def f_X8_areChecked_17 (s0 : Int32) (v : tmM) : Option (Int32 × tmM) := f_X8_areChecked_20 (fun x5 v6 => tm_g (tm_bi x5) (some (x5, v6))) 10000 s0 0 v
set_option maxRecDepth 100000 in
set_option maxHeartbeats 4000000 in
theorem w_X8_areChecked_17 {p : Program} {l : Launch} {e : Env} {s : State} {m : MethodId} {args : Array Value} {below : List Frame} {meth : Method} {c : Code} {D : va_G} {cy : Nat → ClassId} {ad : Nat → Nat} {A : Nat → Prop} {z : (Int32 × tmM)} (C0 : tmC p s m args meth c cX8_areChecked 3 (some .boolean) RX8 TMW tm_NWR D cy tm_shR ad 13 [] A) (s0 : Int32) (v : tmM) : tmG p l e ({ frames := 4, cells := 0, slots := 0, locals := 92 } : Room) s m args below meth c 0 0 (MQ below (va_Qi (fun r u => z = (r, u)) (tmAt tm_shR 13 D cy ad A) A) args s 0 0 A) 3 D cy tm_shR ad 13 [] A z 17 [(0, .ref (ad 0))] [.int s0] v (f_X8_areChecked_17 s0 v) := by
  unfold f_X8_areChecked_17
  refine tg_istore_n [(1, .int s0), (0, .ref (ad 0))] C0 dX8_areChecked_17 rfl (by decide) rfl ?_
  refine tg_iconst (x := 0) C0 dX8_areChecked_18 (by decide) ?_
  refine tg_istore_n [(2, .int 0), (1, .int s0), (0, .ref (ad 0))] C0 dX8_areChecked_19 rfl (by decide) rfl ?_
  refine tg_sub [2, 1, 0] rfl ?_
  refine w_X8_areChecked_20 C0 (fun x5 v6 => ?_) 10000 s0 0 v
  refine tg_iload_n 0 C0 dX8_areChecked_57 rfl rfl ?_
  exact tg_bret C0 dX8_areChecked_58
def f_X8_areChecked (v : tmM) : Option (Int32 × tmM) := tm_g (tm_ix 4 491) ((if (v 1 (4 : Int32).toNatClampNeg) = 32767 then f_X8_areChecked_17 1 v else f_X8_areChecked_17 0 v))
set_option maxRecDepth 100000 in
set_option maxHeartbeats 4000000 in
theorem w_X8_areChecked {p : Program} {l : Launch} {e : Env} {s : State} {m : MethodId} {args : Array Value} {below : List Frame} {meth : Method} {c : Code} {D : va_G} {cy : Nat → ClassId} {ad : Nat → Nat} {A : Nat → Prop} {z : (Int32 × tmM)} (C0 : tmC p s m args meth c cX8_areChecked 3 (some .boolean) RX8 TMW tm_NWR D cy tm_shR ad 13 [] A) (v : tmM) : tmG p l e ({ frames := 4, cells := 0, slots := 0, locals := 92 } : Room) s m args below meth c 0 0 (MQ below (va_Qi (fun r u => z = (r, u)) (tmAt tm_shR 13 D cy ad A) A) args s 0 0 A) 3 D cy tm_shR ad 13 [] A z 0 [(0, .ref (ad 0))] [] v (f_X8_areChecked v) := by
  unfold f_X8_areChecked
  refine tg_aload_n 0 C0 dX8_areChecked_0 rfl rfl ?_
  refine tg_get 0 1 C0 dX8_areChecked_1 (by decide) rfl rfl tu_X8 (by decide) tf_X8_7 rfl rfl rfl ?_
  refine tg_iconst (x := 4) C0 dX8_areChecked_4 (by decide) ?_
  refine tg_iald 1 C0 dX8_areChecked_5 (by decide) rfl (fun _ => ?_)
  refine tg_sipush (x := 32767) C0 dX8_areChecked_6 (by decide) ?_
  refine tg_icmp_ne 16 C0 dX8_areChecked_9 (by decide) (fun _ => ?_) (fun _ => ?_)
  · refine tg_iconst (x := 0) C0 dX8_areChecked_16 (by decide) ?_
    exact w_X8_areChecked_17 C0 0 v
  · refine tg_iconst (x := 1) C0 dX8_areChecked_12 (by decide) ?_
    refine tg_goto 17 C0 dX8_areChecked_13 (by decide) ?_
    exact w_X8_areChecked_17 C0 1 v
theorem c_X8_areChecked (l : Launch) (v : tmM) : tmMi tm_NWR tm_shR 13 l yX8_areChecked (Cond.code yX8_areChecked cX8_areChecked 3 (some .boolean) :: TMW) ({ frames := 4, cells := 0, slots := 0, locals := 92 } : Room) (fun ad => [.ref (ad 0)]) v (f_X8_areChecked v) :=
  tmMi.of (cc := cX8_areChecked) (nL := 3) (by decide +kernel) rfl tm_NWR_ok (fun _ => Nat.le_of_ble_eq_true rfl) (fun p e s m args below meth c A D cy ad z C0 => w_X8_areChecked C0 v)
-- ----- X8_whyLead
theorem dX8_whyLead_0 : decode cX8_whyLead 0 = .ok (.aload_n 0, 1) := by decide +kernel
theorem dX8_whyLead_1 : decode cX8_whyLead 1 = .ok (.getfield 7, 3) := by decide +kernel
theorem dX8_whyLead_4 : decode cX8_whyLead 4 = .ok (.iconst 0, 1) := by decide +kernel
theorem dX8_whyLead_5 : decode cX8_whyLead 5 = .ok (.iaload, 1) := by decide +kernel
theorem dX8_whyLead_6 : decode cX8_whyLead 6 = .ok (.iconst 1, 1) := by decide +kernel
theorem dX8_whyLead_7 : decode cX8_whyLead 7 = .ok (.if_icmp .eq 7, 3) := by decide +kernel
theorem dX8_whyLead_10 : decode cX8_whyLead 10 = .ok (.iconst 2, 1) := by decide +kernel
theorem dX8_whyLead_11 : decode cX8_whyLead 11 = .ok (.goto 74, 3) := by decide +kernel
theorem dX8_whyLead_14 : decode cX8_whyLead 14 = .ok (.aload_n 0, 1) := by decide +kernel
theorem dX8_whyLead_15 : decode cX8_whyLead 15 = .ok (.invokevirtual 180, 3) := by decide +kernel
theorem dX8_whyLead_18 : decode cX8_whyLead 18 = .ok (.ifCond .ne 7, 3) := by decide +kernel
theorem dX8_whyLead_21 : decode cX8_whyLead 21 = .ok (.iconst 1, 1) := by decide +kernel
theorem dX8_whyLead_22 : decode cX8_whyLead 22 = .ok (.goto 63, 3) := by decide +kernel
theorem dX8_whyLead_25 : decode cX8_whyLead 25 = .ok (.aload_n 0, 1) := by decide +kernel
theorem dX8_whyLead_26 : decode cX8_whyLead 26 = .ok (.getfield 7, 3) := by decide +kernel
theorem dX8_whyLead_29 : decode cX8_whyLead 29 = .ok (.iconst 3, 1) := by decide +kernel
theorem dX8_whyLead_30 : decode cX8_whyLead 30 = .ok (.iaload, 1) := by decide +kernel
theorem dX8_whyLead_31 : decode cX8_whyLead 31 = .ok (.sipush 32767, 3) := by decide +kernel
theorem dX8_whyLead_34 : decode cX8_whyLead 34 = .ok (.if_icmp .eq 7, 3) := by decide +kernel
theorem dX8_whyLead_37 : decode cX8_whyLead 37 = .ok (.iconst 3, 1) := by decide +kernel
theorem dX8_whyLead_38 : decode cX8_whyLead 38 = .ok (.goto 47, 3) := by decide +kernel
theorem dX8_whyLead_41 : decode cX8_whyLead 41 = .ok (.aload_n 0, 1) := by decide +kernel
theorem dX8_whyLead_42 : decode cX8_whyLead 42 = .ok (.getfield 7, 3) := by decide +kernel
theorem dX8_whyLead_45 : decode cX8_whyLead 45 = .ok (.bipush 7, 2) := by decide +kernel
theorem dX8_whyLead_47 : decode cX8_whyLead 47 = .ok (.iaload, 1) := by decide +kernel
theorem dX8_whyLead_48 : decode cX8_whyLead 48 = .ok (.ifCond .le 7, 3) := by decide +kernel
theorem dX8_whyLead_51 : decode cX8_whyLead 51 = .ok (.iconst 4, 1) := by decide +kernel
theorem dX8_whyLead_52 : decode cX8_whyLead 52 = .ok (.goto 33, 3) := by decide +kernel
theorem dX8_whyLead_55 : decode cX8_whyLead 55 = .ok (.aload_n 0, 1) := by decide +kernel
theorem dX8_whyLead_56 : decode cX8_whyLead 56 = .ok (.invokevirtual 225, 3) := by decide +kernel
theorem dX8_whyLead_59 : decode cX8_whyLead 59 = .ok (.ifCond .ne 8, 3) := by decide +kernel
theorem dX8_whyLead_62 : decode cX8_whyLead 62 = .ok (.bipush 6, 2) := by decide +kernel
theorem dX8_whyLead_64 : decode cX8_whyLead 64 = .ok (.goto 21, 3) := by decide +kernel
theorem dX8_whyLead_67 : decode cX8_whyLead 67 = .ok (.aload_n 0, 1) := by decide +kernel
theorem dX8_whyLead_68 : decode cX8_whyLead 68 = .ok (.getfield 7, 3) := by decide +kernel
theorem dX8_whyLead_71 : decode cX8_whyLead 71 = .ok (.iconst 5, 1) := by decide +kernel
theorem dX8_whyLead_72 : decode cX8_whyLead 72 = .ok (.iaload, 1) := by decide +kernel
theorem dX8_whyLead_73 : decode cX8_whyLead 73 = .ok (.sipush 255, 3) := by decide +kernel
theorem dX8_whyLead_76 : decode cX8_whyLead 76 = .ok (.if_icmp .eq 8, 3) := by decide +kernel
theorem dX8_whyLead_79 : decode cX8_whyLead 79 = .ok (.bipush 7, 2) := by decide +kernel
theorem dX8_whyLead_81 : decode cX8_whyLead 81 = .ok (.goto 4, 3) := by decide +kernel
theorem dX8_whyLead_84 : decode cX8_whyLead 84 = .ok (.iconst 0, 1) := by decide +kernel
theorem dX8_whyLead_85 : decode cX8_whyLead 85 = .ok (.ireturn, 1) := by decide +kernel
theorem tl_X8_225 : Cond.methodLink RX8 225 yX8_areChecked ∈ TMW := tm_in 1939 (by decide +kernel) (by decide +kernel)
theorem ti_X8_areChecked : Cond.instanceMethod yX8_areChecked ∈ TMW := tm_in 1941 (by decide +kernel) (by decide +kernel)
theorem ts_X8_areChecked : Cond.selects RX8 yX8_areChecked yX8_areChecked ∈ TMW := tm_in 83 (by decide +kernel) (by decide +kernel)
theorem tc_X8_areChecked : Cond.code yX8_areChecked cX8_areChecked 3 (some .boolean) ∈ TMW := tm_in 1942 (by decide +kernel) (by decide +kernel)
def f_X8_whyLead (v : tmM) : Option (Int32 × tmM) := tm_g (tm_ix 0 491) ((if (v 1 (0 : Int32).toNatClampNeg) = 1 then tm_cl (f_X8_areUp v) fun r2 v1 => (if r2 = 0 then some (1, v1) else tm_g (tm_ix 3 491) ((if (v1 1 (3 : Int32).toNatClampNeg) = 32767 then tm_g (tm_ix 7 491) ((if (v1 1 (7 : Int32).toNatClampNeg) ≤ 0 then tm_cl (f_X8_areChecked v1) fun r4 v3 => (if r4 = 0 then some (6, v3) else tm_g (tm_ix 5 491) ((if (v3 1 (5 : Int32).toNatClampNeg) = 255 then some (0, v3) else some (7, v3)))) else some (4, v1))) else some (3, v1)))) else some (2, v)))
set_option maxRecDepth 100000 in
set_option maxHeartbeats 4000000 in
theorem w_X8_whyLead {p : Program} {l : Launch} {e : Env} {s : State} {m : MethodId} {args : Array Value} {below : List Frame} {meth : Method} {c : Code} {D : va_G} {cy : Nat → ClassId} {ad : Nat → Nat} {A : Nat → Prop} {z : (Int32 × tmM)} (C0 : tmC p s m args meth c cX8_whyLead 1 (some .int) RX8 TMW tm_NWR D cy tm_shR ad 13 [] A) (v : tmM) : tmG p l e ({ frames := 5, cells := 0, slots := 0, locals := 114 } : Room) s m args below meth c 0 0 (MQ below (va_Qi (fun r u => z = (r, u)) (tmAt tm_shR 13 D cy ad A) A) args s 0 0 A) 1 D cy tm_shR ad 13 [] A z 0 [(0, .ref (ad 0))] [] v (f_X8_whyLead v) := by
  unfold f_X8_whyLead
  refine tg_aload_n 0 C0 dX8_whyLead_0 rfl rfl ?_
  refine tg_get 0 1 C0 dX8_whyLead_1 (by decide) rfl rfl tu_X8 (by decide) tf_X8_7 rfl rfl rfl ?_
  refine tg_iconst (x := 0) C0 dX8_whyLead_4 (by decide) ?_
  refine tg_iald 1 C0 dX8_whyLead_5 (by decide) rfl (fun _ => ?_)
  refine tg_iconst (x := 1) C0 dX8_whyLead_6 (by decide) ?_
  refine tg_icmp_eq 14 C0 dX8_whyLead_7 (by decide) (fun _ => ?_) (fun _ => ?_)
  · refine tg_aload_n 0 C0 dX8_whyLead_14 rfl rfl ?_
    refine tg_callVi (As := []) 0 0 C0 dX8_whyLead_15 (c_X8_areUp l v) rfl rfl (by decide) rfl rfl (tm_gV tl_X8_180 ti_X8_areUp ts_X8_areUp tn_X8 tc_X8_areUp)  rfl rfl rfl rfl (by decide +kernel) ⟨by decide, by decide⟩ (Nat.le_of_ble_eq_true rfl) ⟨by decide, by decide⟩ (fun r2 v1 _ => ?_)
    refine tg_if_ne 25 C0 dX8_whyLead_18 (by decide) (fun _ => ?_) (fun _ => ?_)
    · refine tg_aload_n 0 C0 dX8_whyLead_25 rfl rfl ?_
      refine tg_get 0 1 C0 dX8_whyLead_26 (by decide) rfl rfl tu_X8 (by decide) tf_X8_7 rfl rfl rfl ?_
      refine tg_iconst (x := 3) C0 dX8_whyLead_29 (by decide) ?_
      refine tg_iald 1 C0 dX8_whyLead_30 (by decide) rfl (fun _ => ?_)
      refine tg_sipush (x := 32767) C0 dX8_whyLead_31 (by decide) ?_
      refine tg_icmp_eq 41 C0 dX8_whyLead_34 (by decide) (fun _ => ?_) (fun _ => ?_)
      · refine tg_aload_n 0 C0 dX8_whyLead_41 rfl rfl ?_
        refine tg_get 0 1 C0 dX8_whyLead_42 (by decide) rfl rfl tu_X8 (by decide) tf_X8_7 rfl rfl rfl ?_
        refine tg_bipush (x := 7) C0 dX8_whyLead_45 (by decide) ?_
        refine tg_iald 1 C0 dX8_whyLead_47 (by decide) rfl (fun _ => ?_)
        refine tg_if_le 55 C0 dX8_whyLead_48 (by decide) (fun _ => ?_) (fun _ => ?_)
        · refine tg_aload_n 0 C0 dX8_whyLead_55 rfl rfl ?_
          refine tg_callVi (As := []) 0 0 C0 dX8_whyLead_56 (c_X8_areChecked l v1) rfl rfl (by decide) rfl rfl (tm_gV tl_X8_225 ti_X8_areChecked ts_X8_areChecked tn_X8 tc_X8_areChecked)  rfl rfl rfl rfl (by decide +kernel) ⟨by decide, by decide⟩ (Nat.le_of_ble_eq_true rfl) ⟨by decide, by decide⟩ (fun r4 v3 _ => ?_)
          refine tg_if_ne 67 C0 dX8_whyLead_59 (by decide) (fun _ => ?_) (fun _ => ?_)
          · refine tg_aload_n 0 C0 dX8_whyLead_67 rfl rfl ?_
            refine tg_get 0 1 C0 dX8_whyLead_68 (by decide) rfl rfl tu_X8 (by decide) tf_X8_7 rfl rfl rfl ?_
            refine tg_iconst (x := 5) C0 dX8_whyLead_71 (by decide) ?_
            refine tg_iald 1 C0 dX8_whyLead_72 (by decide) rfl (fun _ => ?_)
            refine tg_sipush (x := 255) C0 dX8_whyLead_73 (by decide) ?_
            refine tg_icmp_eq 84 C0 dX8_whyLead_76 (by decide) (fun _ => ?_) (fun _ => ?_)
            · refine tg_iconst (x := 0) C0 dX8_whyLead_84 (by decide) ?_
              exact tg_iret C0 dX8_whyLead_85
            · refine tg_bipush (x := 7) C0 dX8_whyLead_79 (by decide) ?_
              refine tg_goto 85 C0 dX8_whyLead_81 (by decide) ?_
              exact tg_iret C0 dX8_whyLead_85
          · refine tg_bipush (x := 6) C0 dX8_whyLead_62 (by decide) ?_
            refine tg_goto 85 C0 dX8_whyLead_64 (by decide) ?_
            exact tg_iret C0 dX8_whyLead_85
        · refine tg_iconst (x := 4) C0 dX8_whyLead_51 (by decide) ?_
          refine tg_goto 85 C0 dX8_whyLead_52 (by decide) ?_
          exact tg_iret C0 dX8_whyLead_85
      · refine tg_iconst (x := 3) C0 dX8_whyLead_37 (by decide) ?_
        refine tg_goto 85 C0 dX8_whyLead_38 (by decide) ?_
        exact tg_iret C0 dX8_whyLead_85
    · refine tg_iconst (x := 1) C0 dX8_whyLead_21 (by decide) ?_
      refine tg_goto 85 C0 dX8_whyLead_22 (by decide) ?_
      exact tg_iret C0 dX8_whyLead_85
  · refine tg_iconst (x := 2) C0 dX8_whyLead_10 (by decide) ?_
    refine tg_goto 85 C0 dX8_whyLead_11 (by decide) ?_
    exact tg_iret C0 dX8_whyLead_85
theorem c_X8_whyLead (l : Launch) (v : tmM) : tmMi tm_NWR tm_shR 13 l yX8_whyLead (Cond.code yX8_whyLead cX8_whyLead 1 (some .int) :: TMW) ({ frames := 5, cells := 0, slots := 0, locals := 114 } : Room) (fun ad => [.ref (ad 0)]) v (f_X8_whyLead v) :=
  tmMi.of (cc := cX8_whyLead) (nL := 1) (by decide +kernel) rfl tm_NWR_ok (fun _ => Nat.le_of_ble_eq_true rfl) (fun p e s m args below meth c A D cy ad z C0 => w_X8_whyLead C0 v)
-- ----- X8_lead
theorem dX8_lead_0 : decode cX8_lead 0 = .ok (.aload_n 0, 1) := by decide +kernel
theorem dX8_lead_1 : decode cX8_lead 1 = .ok (.iconst 0, 1) := by decide +kernel
theorem dX8_lead_2 : decode cX8_lead 2 = .ok (.putfield 56, 3) := by decide +kernel
theorem dX8_lead_5 : decode cX8_lead 5 = .ok (.aload_n 0, 1) := by decide +kernel
theorem dX8_lead_6 : decode cX8_lead 6 = .ok (.invokevirtual 228, 3) := by decide +kernel
theorem dX8_lead_9 : decode cX8_lead 9 = .ok (.ifCond .le 12, 3) := by decide +kernel
theorem dX8_lead_12 : decode cX8_lead 12 = .ok (.aload_n 0, 1) := by decide +kernel
theorem dX8_lead_13 : decode cX8_lead 13 = .ok (.aload_n 0, 1) := by decide +kernel
theorem dX8_lead_14 : decode cX8_lead 14 = .ok (.invokevirtual 228, 3) := by decide +kernel
theorem dX8_lead_17 : decode cX8_lead 17 = .ok (.invokevirtual 165, 3) := by decide +kernel
theorem dX8_lead_20 : decode cX8_lead 20 = .ok (.ireturn, 1) := by decide +kernel
theorem dX8_lead_21 : decode cX8_lead 21 = .ok (.aload_n 0, 1) := by decide +kernel
theorem dX8_lead_22 : decode cX8_lead 22 = .ok (.invokevirtual 147, 3) := by decide +kernel
theorem dX8_lead_25 : decode cX8_lead 25 = .ok (.istore_n 1, 1) := by decide +kernel
theorem dX8_lead_26 : decode cX8_lead 26 = .ok (.aload_n 0, 1) := by decide +kernel
theorem dX8_lead_27 : decode cX8_lead 27 = .ok (.getfield 7, 3) := by decide +kernel
theorem dX8_lead_30 : decode cX8_lead 30 = .ok (.bipush 11, 2) := by decide +kernel
theorem dX8_lead_32 : decode cX8_lead 32 = .ok (.aload_n 0, 1) := by decide +kernel
theorem dX8_lead_33 : decode cX8_lead 33 = .ok (.getfield 7, 3) := by decide +kernel
theorem dX8_lead_36 : decode cX8_lead 36 = .ok (.sipush 191, 3) := by decide +kernel
theorem dX8_lead_39 : decode cX8_lead 39 = .ok (.bipush 60, 2) := by decide +kernel
theorem dX8_lead_41 : decode cX8_lead 41 = .ok (.invokestatic 103, 3) := by decide +kernel
theorem dX8_lead_44 : decode cX8_lead 44 = .ok (.aload_n 0, 1) := by decide +kernel
theorem dX8_lead_45 : decode cX8_lead 45 = .ok (.getfield 7, 3) := by decide +kernel
theorem dX8_lead_48 : decode cX8_lead 48 = .ok (.bipush 71, 2) := by decide +kernel
theorem dX8_lead_50 : decode cX8_lead 50 = .ok (.aload_n 0, 1) := by decide +kernel
theorem dX8_lead_51 : decode cX8_lead 51 = .ok (.getfield 7, 3) := by decide +kernel
theorem dX8_lead_54 : decode cX8_lead 54 = .ok (.sipush 251, 3) := by decide +kernel
theorem dX8_lead_57 : decode cX8_lead 57 = .ok (.bipush 60, 2) := by decide +kernel
theorem dX8_lead_59 : decode cX8_lead 59 = .ok (.invokestatic 103, 3) := by decide +kernel
theorem dX8_lead_62 : decode cX8_lead 62 = .ok (.aload_n 0, 1) := by decide +kernel
theorem dX8_lead_63 : decode cX8_lead 63 = .ok (.getfield 7, 3) := by decide +kernel
theorem dX8_lead_66 : decode cX8_lead 66 = .ok (.bipush 8, 2) := by decide +kernel
theorem dX8_lead_68 : decode cX8_lead 68 = .ok (.iconst 0, 1) := by decide +kernel
theorem dX8_lead_69 : decode cX8_lead 69 = .ok (.iastore, 1) := by decide +kernel
theorem dX8_lead_70 : decode cX8_lead 70 = .ok (.aload_n 0, 1) := by decide +kernel
theorem dX8_lead_71 : decode cX8_lead 71 = .ok (.getfield 7, 3) := by decide +kernel
theorem dX8_lead_74 : decode cX8_lead 74 = .ok (.bipush 9, 2) := by decide +kernel
theorem dX8_lead_76 : decode cX8_lead 76 = .ok (.iconst 0, 1) := by decide +kernel
theorem dX8_lead_77 : decode cX8_lead 77 = .ok (.iastore, 1) := by decide +kernel
theorem dX8_lead_78 : decode cX8_lead 78 = .ok (.aload_n 0, 1) := by decide +kernel
theorem dX8_lead_79 : decode cX8_lead 79 = .ok (.iconst 2, 1) := by decide +kernel
theorem dX8_lead_80 : decode cX8_lead 80 = .ok (.invokevirtual 189, 3) := by decide +kernel
theorem dX8_lead_83 : decode cX8_lead 83 = .ok (.iload_n 1, 1) := by decide +kernel
theorem dX8_lead_84 : decode cX8_lead 84 = .ok (.ireturn, 1) := by decide +kernel
theorem tl_X8_228 : Cond.methodLink RX8 228 yX8_whyLead ∈ TMW := tm_in 1935 (by decide +kernel) (by decide +kernel)
theorem ti_X8_whyLead : Cond.instanceMethod yX8_whyLead ∈ TMW := tm_in 1937 (by decide +kernel) (by decide +kernel)
theorem ts_X8_whyLead : Cond.selects RX8 yX8_whyLead yX8_whyLead ∈ TMW := tm_in 82 (by decide +kernel) (by decide +kernel)
theorem tc_X8_whyLead : Cond.code yX8_whyLead cX8_whyLead 1 (some .int) ∈ TMW := tm_in 1938 (by decide +kernel) (by decide +kernel)
def f_X8_lead (v : tmM) : Option (Int32 × tmM) := tm_lt (tm_up v 0 0 0) fun v1 => tm_cl (f_X8_whyLead v1) fun r3 v2 => (if r3 ≤ 0 then tm_cl (f_X8_does v2) fun r5 v4 => tm_cl (f_X8_copies 1 491 1 491 11 191 60 v4) fun _ v6 => tm_cl (f_X8_copies 1 491 1 491 71 251 60 v6) fun _ v8 => tm_g (tm_ix 8 491) (tm_lt (tm_up v8 1 (8 : Int32).toNatClampNeg 0) fun v10 => tm_g (tm_ix 9 491) (tm_lt (tm_up v10 1 (9 : Int32).toNatClampNeg 0) fun v11 => tm_cl (f_X8_becomesPhase 2 v11) fun _ v12 => some (r5, v12))) else tm_cl (f_X8_whyLead v2) fun r15 v14 => tm_cl (f_X8_refuses r15 v14) fun r17 v16 => some (r17, v16))
set_option maxRecDepth 100000 in
set_option maxHeartbeats 4000000 in
theorem w_X8_lead {p : Program} {l : Launch} {e : Env} {s : State} {m : MethodId} {args : Array Value} {below : List Frame} {meth : Method} {c : Code} {D : va_G} {cy : Nat → ClassId} {ad : Nat → Nat} {A : Nat → Prop} {z : (Int32 × tmM)} (C0 : tmC p s m args meth c cX8_lead 2 (some .int) RX8 TMW tm_NWR D cy tm_shR ad 13 [] A) (v : tmM) : tmG p l e ({ frames := 6, cells := 0, slots := 0, locals := 134 } : Room) s m args below meth c 0 0 (MQ below (va_Qi (fun r u => z = (r, u)) (tmAt tm_shR 13 D cy ad A) A) args s 0 0 A) 2 D cy tm_shR ad 13 [] A z 0 [(0, .ref (ad 0))] [] v (f_X8_lead v) := by
  unfold f_X8_lead
  refine tg_aload_n 0 C0 dX8_lead_0 rfl rfl ?_
  refine tg_iconst (x := 0) C0 dX8_lead_1 (by decide) ?_
  refine tg_put 0 0 C0 dX8_lead_2 (by decide) rfl rfl tu_X8 tyX8_ok nmX8 (by decide) tf_X8_56 rfl rfl rfl rfl rfl rfl ?_
  refine tg_letm (fun v1 _ => ?_)
  refine tg_aload_n 0 C0 dX8_lead_5 rfl rfl ?_
  refine tg_callVi (As := []) 0 0 C0 dX8_lead_6 (c_X8_whyLead l v1) rfl rfl (by decide) rfl rfl (tm_gV tl_X8_228 ti_X8_whyLead ts_X8_whyLead tn_X8 tc_X8_whyLead)  rfl rfl rfl rfl (by decide +kernel) ⟨by decide, by decide⟩ (Nat.le_of_ble_eq_true rfl) ⟨by decide, by decide⟩ (fun r3 v2 _ => ?_)
  refine tg_if_le 21 C0 dX8_lead_9 (by decide) (fun _ => ?_) (fun _ => ?_)
  · refine tg_aload_n 0 C0 dX8_lead_21 rfl rfl ?_
    refine tg_callVi (As := []) 0 0 C0 dX8_lead_22 (c_X8_does l v2) rfl rfl (by decide) rfl rfl (tm_gV tl_X8_147 ti_X8_does ts_X8_does tn_X8 tc_X8_does)  rfl rfl rfl rfl (by decide +kernel) ⟨by decide, by decide⟩ (Nat.le_of_ble_eq_true rfl) ⟨by decide, by decide⟩ (fun r5 v4 _ => ?_)
    refine tg_istore_n [(1, .int r5), (0, .ref (ad 0))] C0 dX8_lead_25 rfl (by decide) rfl ?_
    refine tg_aload_n 1 C0 dX8_lead_26 rfl rfl ?_
    refine tg_get 0 1 C0 dX8_lead_27 (by decide) rfl rfl tu_X8 (by decide) tf_X8_7 rfl rfl rfl ?_
    refine tg_bipush (x := 11) C0 dX8_lead_30 (by decide) ?_
    refine tg_aload_n 1 C0 dX8_lead_32 rfl rfl ?_
    refine tg_get 0 1 C0 dX8_lead_33 (by decide) rfl rfl tu_X8 (by decide) tf_X8_7 rfl rfl rfl ?_
    refine tg_sipush (x := 191) C0 dX8_lead_36 (by decide) ?_
    refine tg_bipush (x := 60) C0 dX8_lead_39 (by decide) ?_
    refine tg_callSv (As := [.ref (ad 1), .int 11, .ref (ad 1), .int 191, .int 60]) 5 C0 dX8_lead_41 (c_X8_copies l 1 491 1 491 ⟨rfl, (by decide)⟩ ⟨rfl, (by decide)⟩ 11 191 60 v4) rfl rfl (tm_gc tc_X8_copies) tl_X8_103 tn_X8 tst_X8_copies  rfl rfl rfl rfl (by decide +kernel) ⟨by decide, by decide⟩ (Nat.le_of_ble_eq_true rfl) ⟨by decide, by decide⟩ (fun v6 _ => ?_)
    refine tg_aload_n 1 C0 dX8_lead_44 rfl rfl ?_
    refine tg_get 0 1 C0 dX8_lead_45 (by decide) rfl rfl tu_X8 (by decide) tf_X8_7 rfl rfl rfl ?_
    refine tg_bipush (x := 71) C0 dX8_lead_48 (by decide) ?_
    refine tg_aload_n 1 C0 dX8_lead_50 rfl rfl ?_
    refine tg_get 0 1 C0 dX8_lead_51 (by decide) rfl rfl tu_X8 (by decide) tf_X8_7 rfl rfl rfl ?_
    refine tg_sipush (x := 251) C0 dX8_lead_54 (by decide) ?_
    refine tg_bipush (x := 60) C0 dX8_lead_57 (by decide) ?_
    refine tg_callSv (As := [.ref (ad 1), .int 71, .ref (ad 1), .int 251, .int 60]) 5 C0 dX8_lead_59 (c_X8_copies l 1 491 1 491 ⟨rfl, (by decide)⟩ ⟨rfl, (by decide)⟩ 71 251 60 v6) rfl rfl (tm_gc tc_X8_copies) tl_X8_103 tn_X8 tst_X8_copies  rfl rfl rfl rfl (by decide +kernel) ⟨by decide, by decide⟩ (Nat.le_of_ble_eq_true rfl) ⟨by decide, by decide⟩ (fun v8 _ => ?_)
    refine tg_aload_n 1 C0 dX8_lead_62 rfl rfl ?_
    refine tg_get 0 1 C0 dX8_lead_63 (by decide) rfl rfl tu_X8 (by decide) tf_X8_7 rfl rfl rfl ?_
    refine tg_bipush (x := 8) C0 dX8_lead_66 (by decide) ?_
    refine tg_iconst (x := 0) C0 dX8_lead_68 (by decide) ?_
    refine tg_iast 1 C0 dX8_lead_69 (by decide) rfl (fun _ => ?_)
    refine tg_letm (fun v10 _ => ?_)
    refine tg_aload_n 1 C0 dX8_lead_70 rfl rfl ?_
    refine tg_get 0 1 C0 dX8_lead_71 (by decide) rfl rfl tu_X8 (by decide) tf_X8_7 rfl rfl rfl ?_
    refine tg_bipush (x := 9) C0 dX8_lead_74 (by decide) ?_
    refine tg_iconst (x := 0) C0 dX8_lead_76 (by decide) ?_
    refine tg_iast 1 C0 dX8_lead_77 (by decide) rfl (fun _ => ?_)
    refine tg_letm (fun v11 _ => ?_)
    refine tg_aload_n 1 C0 dX8_lead_78 rfl rfl ?_
    refine tg_iconst (x := 2) C0 dX8_lead_79 (by decide) ?_
    refine tg_callVv (As := [.int 2]) 0 1 C0 dX8_lead_80 (c_X8_becomesPhase l 2 v11) rfl rfl (by decide) rfl rfl (tm_gV tl_X8_189 ti_X8_becomesPhase ts_X8_becomesPhase tn_X8 tc_X8_becomesPhase)  rfl rfl rfl rfl (by decide +kernel) ⟨by decide, by decide⟩ (Nat.le_of_ble_eq_true rfl) ⟨by decide, by decide⟩ (fun v12 _ => ?_)
    refine tg_iload_n 0 C0 dX8_lead_83 rfl rfl ?_
    exact tg_iret C0 dX8_lead_84
  · refine tg_aload_n 0 C0 dX8_lead_12 rfl rfl ?_
    refine tg_aload_n 0 C0 dX8_lead_13 rfl rfl ?_
    refine tg_callVi (As := []) 0 0 C0 dX8_lead_14 (c_X8_whyLead l v2) rfl rfl (by decide) rfl rfl (tm_gV tl_X8_228 ti_X8_whyLead ts_X8_whyLead tn_X8 tc_X8_whyLead)  rfl rfl rfl rfl (by decide +kernel) ⟨by decide, by decide⟩ (Nat.le_of_ble_eq_true rfl) ⟨by decide, by decide⟩ (fun r15 v14 _ => ?_)
    refine tg_callVi (As := [.int r15]) 0 1 C0 dX8_lead_17 (c_X8_refuses l r15 v14) rfl rfl (by decide) rfl rfl (tm_gV tl_X8_165 ti_X8_refuses ts_X8_refuses tn_X8 tc_X8_refuses)  rfl rfl rfl rfl (by decide +kernel) ⟨by decide, by decide⟩ (Nat.le_of_ble_eq_true rfl) ⟨by decide, by decide⟩ (fun r17 v16 _ => ?_)
    exact tg_iret C0 dX8_lead_20
theorem c_X8_lead (l : Launch) (v : tmM) : tmMi tm_NWR tm_shR 13 l yX8_lead (Cond.code yX8_lead cX8_lead 2 (some .int) :: TMW) ({ frames := 6, cells := 0, slots := 0, locals := 134 } : Room) (fun ad => [.ref (ad 0)]) v (f_X8_lead v) :=
  tmMi.of (cc := cX8_lead) (nL := 2) (by decide +kernel) rfl tm_NWR_ok (fun _ => Nat.le_of_ble_eq_true rfl) (fun p e s m args below meth c A D cy ad z C0 => w_X8_lead C0 v)
-- ----- X8_whyGoBack
theorem dX8_whyGoBack_0 : decode cX8_whyGoBack 0 = .ok (.aload_n 0, 1) := by decide +kernel
theorem dX8_whyGoBack_1 : decode cX8_whyGoBack 1 = .ok (.getfield 7, 3) := by decide +kernel
theorem dX8_whyGoBack_4 : decode cX8_whyGoBack 4 = .ok (.iconst 0, 1) := by decide +kernel
theorem dX8_whyGoBack_5 : decode cX8_whyGoBack 5 = .ok (.iaload, 1) := by decide +kernel
theorem dX8_whyGoBack_6 : decode cX8_whyGoBack 6 = .ok (.iconst 2, 1) := by decide +kernel
theorem dX8_whyGoBack_7 : decode cX8_whyGoBack 7 = .ok (.if_icmp .eq 7, 3) := by decide +kernel
theorem dX8_whyGoBack_10 : decode cX8_whyGoBack 10 = .ok (.iconst 2, 1) := by decide +kernel
theorem dX8_whyGoBack_11 : decode cX8_whyGoBack 11 = .ok (.goto 33, 3) := by decide +kernel
theorem dX8_whyGoBack_14 : decode cX8_whyGoBack 14 = .ok (.aload_n 0, 1) := by decide +kernel
theorem dX8_whyGoBack_15 : decode cX8_whyGoBack 15 = .ok (.invokevirtual 180, 3) := by decide +kernel
theorem dX8_whyGoBack_18 : decode cX8_whyGoBack 18 = .ok (.ifCond .ne 7, 3) := by decide +kernel
theorem dX8_whyGoBack_21 : decode cX8_whyGoBack 21 = .ok (.iconst 1, 1) := by decide +kernel
theorem dX8_whyGoBack_22 : decode cX8_whyGoBack 22 = .ok (.goto 22, 3) := by decide +kernel
theorem dX8_whyGoBack_25 : decode cX8_whyGoBack 25 = .ok (.iload_n 1, 1) := by decide +kernel
theorem dX8_whyGoBack_26 : decode cX8_whyGoBack 26 = .ok (.ifCond .eq 17, 3) := by decide +kernel
theorem dX8_whyGoBack_29 : decode cX8_whyGoBack 29 = .ok (.aload_n 0, 1) := by decide +kernel
theorem dX8_whyGoBack_30 : decode cX8_whyGoBack 30 = .ok (.getfield 7, 3) := by decide +kernel
theorem dX8_whyGoBack_33 : decode cX8_whyGoBack 33 = .ok (.bipush 7, 2) := by decide +kernel
theorem dX8_whyGoBack_35 : decode cX8_whyGoBack 35 = .ok (.iaload, 1) := by decide +kernel
theorem dX8_whyGoBack_36 : decode cX8_whyGoBack 36 = .ok (.ifCond .le 7, 3) := by decide +kernel
theorem dX8_whyGoBack_39 : decode cX8_whyGoBack 39 = .ok (.iconst 4, 1) := by decide +kernel
theorem dX8_whyGoBack_40 : decode cX8_whyGoBack 40 = .ok (.goto 4, 3) := by decide +kernel
theorem dX8_whyGoBack_43 : decode cX8_whyGoBack 43 = .ok (.iconst 0, 1) := by decide +kernel
theorem dX8_whyGoBack_44 : decode cX8_whyGoBack 44 = .ok (.ireturn, 1) := by decide +kernel
def f_X8_whyGoBack (x1 : Int32) (v : tmM) : Option (Int32 × tmM) := tm_g (tm_ix 0 491) ((if (v 1 (0 : Int32).toNatClampNeg) = 2 then tm_cl (f_X8_areUp v) fun r2 v1 => (if r2 = 0 then some (1, v1) else (if x1 = 0 then some (0, v1) else tm_g (tm_ix 7 491) ((if (v1 1 (7 : Int32).toNatClampNeg) ≤ 0 then some (0, v1) else some (4, v1))))) else some (2, v)))
set_option maxRecDepth 100000 in
set_option maxHeartbeats 4000000 in
theorem w_X8_whyGoBack {p : Program} {l : Launch} {e : Env} {s : State} {m : MethodId} {args : Array Value} {below : List Frame} {meth : Method} {c : Code} {D : va_G} {cy : Nat → ClassId} {ad : Nat → Nat} {A : Nat → Prop} {z : (Int32 × tmM)} (C0 : tmC p s m args meth c cX8_whyGoBack 2 (some .int) RX8 TMW tm_NWR D cy tm_shR ad 13 [] A) (x1 : Int32) (v : tmM) : tmG p l e ({ frames := 1, cells := 0, slots := 0, locals := 20 } : Room) s m args below meth c 0 0 (MQ below (va_Qi (fun r u => z = (r, u)) (tmAt tm_shR 13 D cy ad A) A) args s 0 0 A) 2 D cy tm_shR ad 13 [] A z 0 [(0, .ref (ad 0)), (1, .int x1)] [] v (f_X8_whyGoBack x1 v) := by
  unfold f_X8_whyGoBack
  refine tg_aload_n 0 C0 dX8_whyGoBack_0 rfl rfl ?_
  refine tg_get 0 1 C0 dX8_whyGoBack_1 (by decide) rfl rfl tu_X8 (by decide) tf_X8_7 rfl rfl rfl ?_
  refine tg_iconst (x := 0) C0 dX8_whyGoBack_4 (by decide) ?_
  refine tg_iald 1 C0 dX8_whyGoBack_5 (by decide) rfl (fun _ => ?_)
  refine tg_iconst (x := 2) C0 dX8_whyGoBack_6 (by decide) ?_
  refine tg_icmp_eq 14 C0 dX8_whyGoBack_7 (by decide) (fun _ => ?_) (fun _ => ?_)
  · refine tg_aload_n 0 C0 dX8_whyGoBack_14 rfl rfl ?_
    refine tg_callVi (As := []) 0 0 C0 dX8_whyGoBack_15 (c_X8_areUp l v) rfl rfl (by decide) rfl rfl (tm_gV tl_X8_180 ti_X8_areUp ts_X8_areUp tn_X8 tc_X8_areUp)  rfl rfl rfl rfl (by decide +kernel) ⟨by decide, by decide⟩ (Nat.le_of_ble_eq_true rfl) ⟨by decide, by decide⟩ (fun r2 v1 _ => ?_)
    refine tg_if_ne 25 C0 dX8_whyGoBack_18 (by decide) (fun _ => ?_) (fun _ => ?_)
    · refine tg_iload_n 1 C0 dX8_whyGoBack_25 rfl rfl ?_
      refine tg_if_eq 43 C0 dX8_whyGoBack_26 (by decide) (fun _ => ?_) (fun _ => ?_)
      · refine tg_iconst (x := 0) C0 dX8_whyGoBack_43 (by decide) ?_
        exact tg_iret C0 dX8_whyGoBack_44
      · refine tg_aload_n 0 C0 dX8_whyGoBack_29 rfl rfl ?_
        refine tg_get 0 1 C0 dX8_whyGoBack_30 (by decide) rfl rfl tu_X8 (by decide) tf_X8_7 rfl rfl rfl ?_
        refine tg_bipush (x := 7) C0 dX8_whyGoBack_33 (by decide) ?_
        refine tg_iald 1 C0 dX8_whyGoBack_35 (by decide) rfl (fun _ => ?_)
        refine tg_if_le 43 C0 dX8_whyGoBack_36 (by decide) (fun _ => ?_) (fun _ => ?_)
        · refine tg_iconst (x := 0) C0 dX8_whyGoBack_43 (by decide) ?_
          exact tg_iret C0 dX8_whyGoBack_44
        · refine tg_iconst (x := 4) C0 dX8_whyGoBack_39 (by decide) ?_
          refine tg_goto 44 C0 dX8_whyGoBack_40 (by decide) ?_
          exact tg_iret C0 dX8_whyGoBack_44
    · refine tg_iconst (x := 1) C0 dX8_whyGoBack_21 (by decide) ?_
      refine tg_goto 44 C0 dX8_whyGoBack_22 (by decide) ?_
      exact tg_iret C0 dX8_whyGoBack_44
  · refine tg_iconst (x := 2) C0 dX8_whyGoBack_10 (by decide) ?_
    refine tg_goto 44 C0 dX8_whyGoBack_11 (by decide) ?_
    exact tg_iret C0 dX8_whyGoBack_44
theorem c_X8_whyGoBack (l : Launch) (x1 : Int32) (v : tmM) : tmMi tm_NWR tm_shR 13 l yX8_whyGoBack (Cond.code yX8_whyGoBack cX8_whyGoBack 2 (some .int) :: TMW) ({ frames := 1, cells := 0, slots := 0, locals := 20 } : Room) (fun ad => [.ref (ad 0), .int x1]) v (f_X8_whyGoBack x1 v) :=
  tmMi.of (cc := cX8_whyGoBack) (nL := 2) (by decide +kernel) rfl tm_NWR_ok (fun _ => Nat.le_of_ble_eq_true rfl) (fun p e s m args below meth c A D cy ad z C0 => w_X8_whyGoBack C0 x1 v)
-- ----- X8_goesBack
theorem dX8_goesBack_0 : decode cX8_goesBack 0 = .ok (.aload_n 0, 1) := by decide +kernel
theorem dX8_goesBack_1 : decode cX8_goesBack 1 = .ok (.iload_n 1, 1) := by decide +kernel
theorem dX8_goesBack_2 : decode cX8_goesBack 2 = .ok (.invokevirtual 231, 3) := by decide +kernel
theorem dX8_goesBack_5 : decode cX8_goesBack 5 = .ok (.ifCond .le 13, 3) := by decide +kernel
theorem dX8_goesBack_8 : decode cX8_goesBack 8 = .ok (.aload_n 0, 1) := by decide +kernel
theorem dX8_goesBack_9 : decode cX8_goesBack 9 = .ok (.aload_n 0, 1) := by decide +kernel
theorem dX8_goesBack_10 : decode cX8_goesBack 10 = .ok (.iload_n 1, 1) := by decide +kernel
theorem dX8_goesBack_11 : decode cX8_goesBack 11 = .ok (.invokevirtual 231, 3) := by decide +kernel
theorem dX8_goesBack_14 : decode cX8_goesBack 14 = .ok (.invokevirtual 165, 3) := by decide +kernel
theorem dX8_goesBack_17 : decode cX8_goesBack 17 = .ok (.ireturn, 1) := by decide +kernel
theorem dX8_goesBack_18 : decode cX8_goesBack 18 = .ok (.aload_n 0, 1) := by decide +kernel
theorem dX8_goesBack_19 : decode cX8_goesBack 19 = .ok (.invokevirtual 147, 3) := by decide +kernel
theorem dX8_goesBack_22 : decode cX8_goesBack 22 = .ok (.istore_n 2, 1) := by decide +kernel
theorem dX8_goesBack_23 : decode cX8_goesBack 23 = .ok (.iload_n 1, 1) := by decide +kernel
theorem dX8_goesBack_24 : decode cX8_goesBack 24 = .ok (.ifCond .ne 47, 3) := by decide +kernel
theorem dX8_goesBack_27 : decode cX8_goesBack 27 = .ok (.aload_n 0, 1) := by decide +kernel
theorem dX8_goesBack_28 : decode cX8_goesBack 28 = .ok (.getfield 7, 3) := by decide +kernel
theorem dX8_goesBack_31 : decode cX8_goesBack 31 = .ok (.sipush 191, 3) := by decide +kernel
theorem dX8_goesBack_34 : decode cX8_goesBack 34 = .ok (.aload_n 0, 1) := by decide +kernel
theorem dX8_goesBack_35 : decode cX8_goesBack 35 = .ok (.getfield 7, 3) := by decide +kernel
theorem dX8_goesBack_38 : decode cX8_goesBack 38 = .ok (.bipush 11, 2) := by decide +kernel
theorem dX8_goesBack_40 : decode cX8_goesBack 40 = .ok (.bipush 60, 2) := by decide +kernel
theorem dX8_goesBack_42 : decode cX8_goesBack 42 = .ok (.invokestatic 103, 3) := by decide +kernel
theorem dX8_goesBack_45 : decode cX8_goesBack 45 = .ok (.aload_n 0, 1) := by decide +kernel
theorem dX8_goesBack_46 : decode cX8_goesBack 46 = .ok (.getfield 7, 3) := by decide +kernel
theorem dX8_goesBack_49 : decode cX8_goesBack 49 = .ok (.sipush 251, 3) := by decide +kernel
theorem dX8_goesBack_52 : decode cX8_goesBack 52 = .ok (.aload_n 0, 1) := by decide +kernel
theorem dX8_goesBack_53 : decode cX8_goesBack 53 = .ok (.getfield 7, 3) := by decide +kernel
theorem dX8_goesBack_56 : decode cX8_goesBack 56 = .ok (.bipush 71, 2) := by decide +kernel
theorem dX8_goesBack_58 : decode cX8_goesBack 58 = .ok (.bipush 60, 2) := by decide +kernel
theorem dX8_goesBack_60 : decode cX8_goesBack 60 = .ok (.invokestatic 103, 3) := by decide +kernel
theorem dX8_goesBack_63 : decode cX8_goesBack 63 = .ok (.aload_n 0, 1) := by decide +kernel
theorem dX8_goesBack_64 : decode cX8_goesBack 64 = .ok (.getfield 7, 3) := by decide +kernel
theorem dX8_goesBack_67 : decode cX8_goesBack 67 = .ok (.bipush 7, 2) := by decide +kernel
theorem dX8_goesBack_69 : decode cX8_goesBack 69 = .ok (.iconst 0, 1) := by decide +kernel
theorem dX8_goesBack_70 : decode cX8_goesBack 70 = .ok (.iastore, 1) := by decide +kernel
theorem dX8_goesBack_71 : decode cX8_goesBack 71 = .ok (.aload_n 0, 1) := by decide +kernel
theorem dX8_goesBack_72 : decode cX8_goesBack 72 = .ok (.getfield 7, 3) := by decide +kernel
theorem dX8_goesBack_75 : decode cX8_goesBack 75 = .ok (.iconst 4, 1) := by decide +kernel
theorem dX8_goesBack_76 : decode cX8_goesBack 76 = .ok (.iconst 0, 1) := by decide +kernel
theorem dX8_goesBack_77 : decode cX8_goesBack 77 = .ok (.iastore, 1) := by decide +kernel
theorem dX8_goesBack_78 : decode cX8_goesBack 78 = .ok (.aload_n 0, 1) := by decide +kernel
theorem dX8_goesBack_79 : decode cX8_goesBack 79 = .ok (.iconst 1, 1) := by decide +kernel
theorem dX8_goesBack_80 : decode cX8_goesBack 80 = .ok (.invokevirtual 189, 3) := by decide +kernel
theorem dX8_goesBack_83 : decode cX8_goesBack 83 = .ok (.iload_n 2, 1) := by decide +kernel
theorem dX8_goesBack_84 : decode cX8_goesBack 84 = .ok (.ireturn, 1) := by decide +kernel
theorem tl_X8_231 : Cond.methodLink RX8 231 yX8_whyGoBack ∈ TMW := tm_in 1951 (by decide +kernel) (by decide +kernel)
theorem ti_X8_whyGoBack : Cond.instanceMethod yX8_whyGoBack ∈ TMW := tm_in 1953 (by decide +kernel) (by decide +kernel)
theorem ts_X8_whyGoBack : Cond.selects RX8 yX8_whyGoBack yX8_whyGoBack ∈ TMW := tm_in 85 (by decide +kernel) (by decide +kernel)
theorem tc_X8_whyGoBack : Cond.code yX8_whyGoBack cX8_whyGoBack 2 (some .int) ∈ TMW := tm_in 1954 (by decide +kernel) (by decide +kernel)
def f_X8_goesBack_71 (x2 : Int32) (v : tmM) : Option (Int32 × tmM) := tm_g (tm_ix 4 491) (tm_lt (tm_up v 1 (4 : Int32).toNatClampNeg 0) fun v5 => tm_cl (f_X8_becomesPhase 1 v5) fun _ v6 => some (x2, v6))
set_option maxRecDepth 100000 in
set_option maxHeartbeats 4000000 in
theorem w_X8_goesBack_71 {p : Program} {l : Launch} {e : Env} {s : State} {m : MethodId} {args : Array Value} {below : List Frame} {meth : Method} {c : Code} {D : va_G} {cy : Nat → ClassId} {ad : Nat → Nat} {A : Nat → Prop} {z : (Int32 × tmM)} (C0 : tmC p s m args meth c cX8_goesBack 3 (some .int) RX8 TMW tm_NWR D cy tm_shR ad 13 [] A) (x2 : Int32) (v : tmM) : tmG p l e ({ frames := 3, cells := 0, slots := 0, locals := 66 } : Room) s m args below meth c 0 0 (MQ below (va_Qi (fun r u => z = (r, u)) (tmAt tm_shR 13 D cy ad A) A) args s 0 0 A) 3 D cy tm_shR ad 13 [] A z 71 [(0, .ref (ad 0)), (2, .int x2)] [] v (f_X8_goesBack_71 x2 v) := by
  unfold f_X8_goesBack_71
  refine tg_aload_n 0 C0 dX8_goesBack_71 rfl rfl ?_
  refine tg_get 0 1 C0 dX8_goesBack_72 (by decide) rfl rfl tu_X8 (by decide) tf_X8_7 rfl rfl rfl ?_
  refine tg_iconst (x := 4) C0 dX8_goesBack_75 (by decide) ?_
  refine tg_iconst (x := 0) C0 dX8_goesBack_76 (by decide) ?_
  refine tg_iast 1 C0 dX8_goesBack_77 (by decide) rfl (fun _ => ?_)
  refine tg_letm (fun v5 _ => ?_)
  refine tg_aload_n 0 C0 dX8_goesBack_78 rfl rfl ?_
  refine tg_iconst (x := 1) C0 dX8_goesBack_79 (by decide) ?_
  refine tg_callVv (As := [.int 1]) 0 1 C0 dX8_goesBack_80 (c_X8_becomesPhase l 1 v5) rfl rfl (by decide) rfl rfl (tm_gV tl_X8_189 ti_X8_becomesPhase ts_X8_becomesPhase tn_X8 tc_X8_becomesPhase)  rfl rfl rfl rfl (by decide +kernel) ⟨by decide, by decide⟩ (Nat.le_of_ble_eq_true rfl) ⟨by decide, by decide⟩ (fun v6 _ => ?_)
  refine tg_iload_n 1 C0 dX8_goesBack_83 rfl rfl ?_
  exact tg_iret C0 dX8_goesBack_84
def f_X8_goesBack (x1 : Int32) (v : tmM) : Option (Int32 × tmM) := tm_cl (f_X8_whyGoBack x1 v) fun r2 v1 => (if r2 ≤ 0 then tm_cl (f_X8_does v1) fun r4 v3 => (if x1 = 0 then tm_cl (f_X8_copies 1 491 1 491 191 11 60 v3) fun _ v8 => tm_cl (f_X8_copies 1 491 1 491 251 71 60 v8) fun _ v10 => tm_g (tm_ix 7 491) (tm_lt (tm_up v10 1 (7 : Int32).toNatClampNeg 0) fun v12 => f_X8_goesBack_71 r4 v12) else f_X8_goesBack_71 r4 v3) else tm_cl (f_X8_whyGoBack x1 v1) fun r14 v13 => tm_cl (f_X8_refuses r14 v13) fun r16 v15 => some (r16, v15))
set_option maxRecDepth 100000 in
set_option maxHeartbeats 4000000 in
theorem w_X8_goesBack {p : Program} {l : Launch} {e : Env} {s : State} {m : MethodId} {args : Array Value} {below : List Frame} {meth : Method} {c : Code} {D : va_G} {cy : Nat → ClassId} {ad : Nat → Nat} {A : Nat → Prop} {z : (Int32 × tmM)} (C0 : tmC p s m args meth c cX8_goesBack 3 (some .int) RX8 TMW tm_NWR D cy tm_shR ad 13 [] A) (x1 : Int32) (v : tmM) : tmG p l e ({ frames := 3, cells := 0, slots := 0, locals := 66 } : Room) s m args below meth c 0 0 (MQ below (va_Qi (fun r u => z = (r, u)) (tmAt tm_shR 13 D cy ad A) A) args s 0 0 A) 3 D cy tm_shR ad 13 [] A z 0 [(0, .ref (ad 0)), (1, .int x1)] [] v (f_X8_goesBack x1 v) := by
  unfold f_X8_goesBack
  refine tg_aload_n 0 C0 dX8_goesBack_0 rfl rfl ?_
  refine tg_iload_n 1 C0 dX8_goesBack_1 rfl rfl ?_
  refine tg_callVi (As := [.int x1]) 0 1 C0 dX8_goesBack_2 (c_X8_whyGoBack l x1 v) rfl rfl (by decide) rfl rfl (tm_gV tl_X8_231 ti_X8_whyGoBack ts_X8_whyGoBack tn_X8 tc_X8_whyGoBack)  rfl rfl rfl rfl (by decide +kernel) ⟨by decide, by decide⟩ (Nat.le_of_ble_eq_true rfl) ⟨by decide, by decide⟩ (fun r2 v1 _ => ?_)
  refine tg_if_le 18 C0 dX8_goesBack_5 (by decide) (fun _ => ?_) (fun _ => ?_)
  · refine tg_aload_n 0 C0 dX8_goesBack_18 rfl rfl ?_
    refine tg_callVi (As := []) 0 0 C0 dX8_goesBack_19 (c_X8_does l v1) rfl rfl (by decide) rfl rfl (tm_gV tl_X8_147 ti_X8_does ts_X8_does tn_X8 tc_X8_does)  rfl rfl rfl rfl (by decide +kernel) ⟨by decide, by decide⟩ (Nat.le_of_ble_eq_true rfl) ⟨by decide, by decide⟩ (fun r4 v3 _ => ?_)
    refine tg_istore_n [(2, .int r4), (0, .ref (ad 0)), (1, .int x1)] C0 dX8_goesBack_22 rfl (by decide) rfl ?_
    refine tg_iload_n 2 C0 dX8_goesBack_23 rfl rfl ?_
    refine tg_if_ne 71 C0 dX8_goesBack_24 (by decide) (fun _ => ?_) (fun _ => ?_)
    · refine tg_sub [1, 0] rfl ?_
      exact w_X8_goesBack_71 C0 r4 v3
    · refine tg_aload_n 1 C0 dX8_goesBack_27 rfl rfl ?_
      refine tg_get 0 1 C0 dX8_goesBack_28 (by decide) rfl rfl tu_X8 (by decide) tf_X8_7 rfl rfl rfl ?_
      refine tg_sipush (x := 191) C0 dX8_goesBack_31 (by decide) ?_
      refine tg_aload_n 1 C0 dX8_goesBack_34 rfl rfl ?_
      refine tg_get 0 1 C0 dX8_goesBack_35 (by decide) rfl rfl tu_X8 (by decide) tf_X8_7 rfl rfl rfl ?_
      refine tg_bipush (x := 11) C0 dX8_goesBack_38 (by decide) ?_
      refine tg_bipush (x := 60) C0 dX8_goesBack_40 (by decide) ?_
      refine tg_callSv (As := [.ref (ad 1), .int 191, .ref (ad 1), .int 11, .int 60]) 5 C0 dX8_goesBack_42 (c_X8_copies l 1 491 1 491 ⟨rfl, (by decide)⟩ ⟨rfl, (by decide)⟩ 191 11 60 v3) rfl rfl (tm_gc tc_X8_copies) tl_X8_103 tn_X8 tst_X8_copies  rfl rfl rfl rfl (by decide +kernel) ⟨by decide, by decide⟩ (Nat.le_of_ble_eq_true rfl) ⟨by decide, by decide⟩ (fun v8 _ => ?_)
      refine tg_aload_n 1 C0 dX8_goesBack_45 rfl rfl ?_
      refine tg_get 0 1 C0 dX8_goesBack_46 (by decide) rfl rfl tu_X8 (by decide) tf_X8_7 rfl rfl rfl ?_
      refine tg_sipush (x := 251) C0 dX8_goesBack_49 (by decide) ?_
      refine tg_aload_n 1 C0 dX8_goesBack_52 rfl rfl ?_
      refine tg_get 0 1 C0 dX8_goesBack_53 (by decide) rfl rfl tu_X8 (by decide) tf_X8_7 rfl rfl rfl ?_
      refine tg_bipush (x := 71) C0 dX8_goesBack_56 (by decide) ?_
      refine tg_bipush (x := 60) C0 dX8_goesBack_58 (by decide) ?_
      refine tg_callSv (As := [.ref (ad 1), .int 251, .ref (ad 1), .int 71, .int 60]) 5 C0 dX8_goesBack_60 (c_X8_copies l 1 491 1 491 ⟨rfl, (by decide)⟩ ⟨rfl, (by decide)⟩ 251 71 60 v8) rfl rfl (tm_gc tc_X8_copies) tl_X8_103 tn_X8 tst_X8_copies  rfl rfl rfl rfl (by decide +kernel) ⟨by decide, by decide⟩ (Nat.le_of_ble_eq_true rfl) ⟨by decide, by decide⟩ (fun v10 _ => ?_)
      refine tg_aload_n 1 C0 dX8_goesBack_63 rfl rfl ?_
      refine tg_get 0 1 C0 dX8_goesBack_64 (by decide) rfl rfl tu_X8 (by decide) tf_X8_7 rfl rfl rfl ?_
      refine tg_bipush (x := 7) C0 dX8_goesBack_67 (by decide) ?_
      refine tg_iconst (x := 0) C0 dX8_goesBack_69 (by decide) ?_
      refine tg_iast 1 C0 dX8_goesBack_70 (by decide) rfl (fun _ => ?_)
      refine tg_letm (fun v12 _ => ?_)
      refine tg_sub [1, 0] rfl ?_
      exact w_X8_goesBack_71 C0 r4 v12
  · refine tg_aload_n 0 C0 dX8_goesBack_8 rfl rfl ?_
    refine tg_aload_n 0 C0 dX8_goesBack_9 rfl rfl ?_
    refine tg_iload_n 1 C0 dX8_goesBack_10 rfl rfl ?_
    refine tg_callVi (As := [.int x1]) 0 1 C0 dX8_goesBack_11 (c_X8_whyGoBack l x1 v1) rfl rfl (by decide) rfl rfl (tm_gV tl_X8_231 ti_X8_whyGoBack ts_X8_whyGoBack tn_X8 tc_X8_whyGoBack)  rfl rfl rfl rfl (by decide +kernel) ⟨by decide, by decide⟩ (Nat.le_of_ble_eq_true rfl) ⟨by decide, by decide⟩ (fun r14 v13 _ => ?_)
    refine tg_callVi (As := [.int r14]) 0 1 C0 dX8_goesBack_14 (c_X8_refuses l r14 v13) rfl rfl (by decide) rfl rfl (tm_gV tl_X8_165 ti_X8_refuses ts_X8_refuses tn_X8 tc_X8_refuses)  rfl rfl rfl rfl (by decide +kernel) ⟨by decide, by decide⟩ (Nat.le_of_ble_eq_true rfl) ⟨by decide, by decide⟩ (fun r16 v15 _ => ?_)
    exact tg_iret C0 dX8_goesBack_17
theorem c_X8_goesBack (l : Launch) (x1 : Int32) (v : tmM) : tmMi tm_NWR tm_shR 13 l yX8_goesBack (Cond.code yX8_goesBack cX8_goesBack 3 (some .int) :: TMW) ({ frames := 3, cells := 0, slots := 0, locals := 66 } : Room) (fun ad => [.ref (ad 0), .int x1]) v (f_X8_goesBack x1 v) :=
  tmMi.of (cc := cX8_goesBack) (nL := 3) (by decide +kernel) rfl tm_NWR_ok (fun _ => Nat.le_of_ble_eq_true rfl) (fun p e s m args below meth c A D cy ad z C0 => w_X8_goesBack C0 x1 v)
-- ----- X8_goBack
theorem dX8_goBack_0 : decode cX8_goBack 0 = .ok (.aload_n 0, 1) := by decide +kernel
theorem dX8_goBack_1 : decode cX8_goBack 1 = .ok (.iconst 0, 1) := by decide +kernel
theorem dX8_goBack_2 : decode cX8_goBack 2 = .ok (.putfield 56, 3) := by decide +kernel
theorem dX8_goBack_5 : decode cX8_goBack 5 = .ok (.aload_n 0, 1) := by decide +kernel
theorem dX8_goBack_6 : decode cX8_goBack 6 = .ok (.iload_n 1, 1) := by decide +kernel
theorem dX8_goBack_7 : decode cX8_goBack 7 = .ok (.invokevirtual 235, 3) := by decide +kernel
theorem dX8_goBack_10 : decode cX8_goBack 10 = .ok (.ireturn, 1) := by decide +kernel
theorem tl_X8_235 : Cond.methodLink RX8 235 yX8_goesBack ∈ TMW := tm_in 1947 (by decide +kernel) (by decide +kernel)
theorem ti_X8_goesBack : Cond.instanceMethod yX8_goesBack ∈ TMW := tm_in 1949 (by decide +kernel) (by decide +kernel)
theorem ts_X8_goesBack : Cond.selects RX8 yX8_goesBack yX8_goesBack ∈ TMW := tm_in 84 (by decide +kernel) (by decide +kernel)
theorem tc_X8_goesBack : Cond.code yX8_goesBack cX8_goesBack 3 (some .int) ∈ TMW := tm_in 1950 (by decide +kernel) (by decide +kernel)
def f_X8_goBack (x1 : Int32) (v : tmM) : Option (Int32 × tmM) := tm_lt (tm_up v 0 0 0) fun v1 => tm_cl (f_X8_goesBack x1 v1) fun r3 v2 => some (r3, v2)
set_option maxRecDepth 100000 in
set_option maxHeartbeats 4000000 in
theorem w_X8_goBack {p : Program} {l : Launch} {e : Env} {s : State} {m : MethodId} {args : Array Value} {below : List Frame} {meth : Method} {c : Code} {D : va_G} {cy : Nat → ClassId} {ad : Nat → Nat} {A : Nat → Prop} {z : (Int32 × tmM)} (C0 : tmC p s m args meth c cX8_goBack 2 (some .int) RX8 TMW tm_NWR D cy tm_shR ad 13 [] A) (x1 : Int32) (v : tmM) : tmG p l e ({ frames := 4, cells := 0, slots := 0, locals := 88 } : Room) s m args below meth c 0 0 (MQ below (va_Qi (fun r u => z = (r, u)) (tmAt tm_shR 13 D cy ad A) A) args s 0 0 A) 2 D cy tm_shR ad 13 [] A z 0 [(0, .ref (ad 0)), (1, .int x1)] [] v (f_X8_goBack x1 v) := by
  unfold f_X8_goBack
  refine tg_aload_n 0 C0 dX8_goBack_0 rfl rfl ?_
  refine tg_iconst (x := 0) C0 dX8_goBack_1 (by decide) ?_
  refine tg_put 0 0 C0 dX8_goBack_2 (by decide) rfl rfl tu_X8 tyX8_ok nmX8 (by decide) tf_X8_56 rfl rfl rfl rfl rfl rfl ?_
  refine tg_letm (fun v1 _ => ?_)
  refine tg_aload_n 0 C0 dX8_goBack_5 rfl rfl ?_
  refine tg_iload_n 1 C0 dX8_goBack_6 rfl rfl ?_
  refine tg_callVi (As := [.int x1]) 0 1 C0 dX8_goBack_7 (c_X8_goesBack l x1 v1) rfl rfl (by decide) rfl rfl (tm_gV tl_X8_235 ti_X8_goesBack ts_X8_goesBack tn_X8 tc_X8_goesBack)  rfl rfl rfl rfl (by decide +kernel) ⟨by decide, by decide⟩ (Nat.le_of_ble_eq_true rfl) ⟨by decide, by decide⟩ (fun r3 v2 _ => ?_)
  exact tg_iret C0 dX8_goBack_10
theorem c_X8_goBack (l : Launch) (x1 : Int32) (v : tmM) : tmMi tm_NWR tm_shR 13 l yX8_goBack (Cond.code yX8_goBack cX8_goBack 2 (some .int) :: TMW) ({ frames := 4, cells := 0, slots := 0, locals := 88 } : Room) (fun ad => [.ref (ad 0), .int x1]) v (f_X8_goBack x1 v) :=
  tmMi.of (cc := cX8_goBack) (nL := 2) (by decide +kernel) rfl tm_NWR_ok (fun _ => Nat.le_of_ble_eq_true rfl) (fun p e s m args below meth c A D cy ad z C0 => w_X8_goBack C0 x1 v)
-- ----- X8_whyStop
theorem dX8_whyStop_0 : decode cX8_whyStop 0 = .ok (.aload_n 0, 1) := by decide +kernel
theorem dX8_whyStop_1 : decode cX8_whyStop 1 = .ok (.getfield 7, 3) := by decide +kernel
theorem dX8_whyStop_4 : decode cX8_whyStop 4 = .ok (.iconst 0, 1) := by decide +kernel
theorem dX8_whyStop_5 : decode cX8_whyStop 5 = .ok (.iaload, 1) := by decide +kernel
theorem dX8_whyStop_6 : decode cX8_whyStop 6 = .ok (.iconst 1, 1) := by decide +kernel
theorem dX8_whyStop_7 : decode cX8_whyStop 7 = .ok (.if_icmp .eq 7, 3) := by decide +kernel
theorem dX8_whyStop_10 : decode cX8_whyStop 10 = .ok (.iconst 2, 1) := by decide +kernel
theorem dX8_whyStop_11 : decode cX8_whyStop 11 = .ok (.goto 18, 3) := by decide +kernel
theorem dX8_whyStop_14 : decode cX8_whyStop 14 = .ok (.aload_n 0, 1) := by decide +kernel
theorem dX8_whyStop_15 : decode cX8_whyStop 15 = .ok (.getfield 7, 3) := by decide +kernel
theorem dX8_whyStop_18 : decode cX8_whyStop 18 = .ok (.iconst 5, 1) := by decide +kernel
theorem dX8_whyStop_19 : decode cX8_whyStop 19 = .ok (.iaload, 1) := by decide +kernel
theorem dX8_whyStop_20 : decode cX8_whyStop 20 = .ok (.ifCond .eq 8, 3) := by decide +kernel
theorem dX8_whyStop_23 : decode cX8_whyStop 23 = .ok (.bipush 7, 2) := by decide +kernel
theorem dX8_whyStop_25 : decode cX8_whyStop 25 = .ok (.goto 4, 3) := by decide +kernel
theorem dX8_whyStop_28 : decode cX8_whyStop 28 = .ok (.iconst 0, 1) := by decide +kernel
theorem dX8_whyStop_29 : decode cX8_whyStop 29 = .ok (.ireturn, 1) := by decide +kernel
def f_X8_whyStop (v : tmM) : Option (Int32 × tmM) := tm_g (tm_ix 0 491) ((if (v 1 (0 : Int32).toNatClampNeg) = 1 then tm_g (tm_ix 5 491) ((if (v 1 (5 : Int32).toNatClampNeg) = 0 then some (0, v) else some (7, v))) else some (2, v)))
set_option maxRecDepth 100000 in
set_option maxHeartbeats 4000000 in
theorem w_X8_whyStop {p : Program} {l : Launch} {e : Env} {s : State} {m : MethodId} {args : Array Value} {below : List Frame} {meth : Method} {c : Code} {D : va_G} {cy : Nat → ClassId} {ad : Nat → Nat} {A : Nat → Prop} {z : (Int32 × tmM)} (C0 : tmC p s m args meth c cX8_whyStop 1 (some .int) RX8 TMW tm_NWR D cy tm_shR ad 13 [] A) (v : tmM) : tmG p l e ({ frames := 0, cells := 0, slots := 0, locals := 0 } : Room) s m args below meth c 0 0 (MQ below (va_Qi (fun r u => z = (r, u)) (tmAt tm_shR 13 D cy ad A) A) args s 0 0 A) 1 D cy tm_shR ad 13 [] A z 0 [(0, .ref (ad 0))] [] v (f_X8_whyStop v) := by
  unfold f_X8_whyStop
  refine tg_aload_n 0 C0 dX8_whyStop_0 rfl rfl ?_
  refine tg_get 0 1 C0 dX8_whyStop_1 (by decide) rfl rfl tu_X8 (by decide) tf_X8_7 rfl rfl rfl ?_
  refine tg_iconst (x := 0) C0 dX8_whyStop_4 (by decide) ?_
  refine tg_iald 1 C0 dX8_whyStop_5 (by decide) rfl (fun _ => ?_)
  refine tg_iconst (x := 1) C0 dX8_whyStop_6 (by decide) ?_
  refine tg_icmp_eq 14 C0 dX8_whyStop_7 (by decide) (fun _ => ?_) (fun _ => ?_)
  · refine tg_aload_n 0 C0 dX8_whyStop_14 rfl rfl ?_
    refine tg_get 0 1 C0 dX8_whyStop_15 (by decide) rfl rfl tu_X8 (by decide) tf_X8_7 rfl rfl rfl ?_
    refine tg_iconst (x := 5) C0 dX8_whyStop_18 (by decide) ?_
    refine tg_iald 1 C0 dX8_whyStop_19 (by decide) rfl (fun _ => ?_)
    refine tg_if_eq 28 C0 dX8_whyStop_20 (by decide) (fun _ => ?_) (fun _ => ?_)
    · refine tg_iconst (x := 0) C0 dX8_whyStop_28 (by decide) ?_
      exact tg_iret C0 dX8_whyStop_29
    · refine tg_bipush (x := 7) C0 dX8_whyStop_23 (by decide) ?_
      refine tg_goto 29 C0 dX8_whyStop_25 (by decide) ?_
      exact tg_iret C0 dX8_whyStop_29
  · refine tg_iconst (x := 2) C0 dX8_whyStop_10 (by decide) ?_
    refine tg_goto 29 C0 dX8_whyStop_11 (by decide) ?_
    exact tg_iret C0 dX8_whyStop_29
theorem c_X8_whyStop (l : Launch) (v : tmM) : tmMi tm_NWR tm_shR 13 l yX8_whyStop (Cond.code yX8_whyStop cX8_whyStop 1 (some .int) :: TMW) ({ frames := 0, cells := 0, slots := 0, locals := 0 } : Room) (fun ad => [.ref (ad 0)]) v (f_X8_whyStop v) :=
  tmMi.of (cc := cX8_whyStop) (nL := 1) (by decide +kernel) rfl tm_NWR_ok (fun _ => Nat.le_of_ble_eq_true rfl) (fun p e s m args below meth c A D cy ad z C0 => w_X8_whyStop C0 v)
-- ----- X8_stop
theorem dX8_stop_0 : decode cX8_stop 0 = .ok (.aload_n 0, 1) := by decide +kernel
theorem dX8_stop_1 : decode cX8_stop 1 = .ok (.iconst 0, 1) := by decide +kernel
theorem dX8_stop_2 : decode cX8_stop 2 = .ok (.putfield 56, 3) := by decide +kernel
theorem dX8_stop_5 : decode cX8_stop 5 = .ok (.aload_n 0, 1) := by decide +kernel
theorem dX8_stop_6 : decode cX8_stop 6 = .ok (.invokevirtual 238, 3) := by decide +kernel
theorem dX8_stop_9 : decode cX8_stop 9 = .ok (.ifCond .le 12, 3) := by decide +kernel
theorem dX8_stop_12 : decode cX8_stop 12 = .ok (.aload_n 0, 1) := by decide +kernel
theorem dX8_stop_13 : decode cX8_stop 13 = .ok (.aload_n 0, 1) := by decide +kernel
theorem dX8_stop_14 : decode cX8_stop 14 = .ok (.invokevirtual 238, 3) := by decide +kernel
theorem dX8_stop_17 : decode cX8_stop 17 = .ok (.invokevirtual 165, 3) := by decide +kernel
theorem dX8_stop_20 : decode cX8_stop 20 = .ok (.ireturn, 1) := by decide +kernel
theorem dX8_stop_21 : decode cX8_stop 21 = .ok (.aload_n 0, 1) := by decide +kernel
theorem dX8_stop_22 : decode cX8_stop 22 = .ok (.invokevirtual 147, 3) := by decide +kernel
theorem dX8_stop_25 : decode cX8_stop 25 = .ok (.istore_n 1, 1) := by decide +kernel
theorem dX8_stop_26 : decode cX8_stop 26 = .ok (.aload_n 0, 1) := by decide +kernel
theorem dX8_stop_27 : decode cX8_stop 27 = .ok (.bipush 71, 2) := by decide +kernel
theorem dX8_stop_29 : decode cX8_stop 29 = .ok (.invokevirtual 52, 3) := by decide +kernel
theorem dX8_stop_32 : decode cX8_stop 32 = .ok (.aload_n 0, 1) := by decide +kernel
theorem dX8_stop_33 : decode cX8_stop 33 = .ok (.invokevirtual 186, 3) := by decide +kernel
theorem dX8_stop_36 : decode cX8_stop 36 = .ok (.aload_n 0, 1) := by decide +kernel
theorem dX8_stop_37 : decode cX8_stop 37 = .ok (.iconst 0, 1) := by decide +kernel
theorem dX8_stop_38 : decode cX8_stop 38 = .ok (.invokevirtual 189, 3) := by decide +kernel
theorem dX8_stop_41 : decode cX8_stop 41 = .ok (.iload_n 1, 1) := by decide +kernel
theorem dX8_stop_42 : decode cX8_stop 42 = .ok (.ireturn, 1) := by decide +kernel
theorem tl_X8_238 : Cond.methodLink RX8 238 yX8_whyStop ∈ TMW := tm_in 1959 (by decide +kernel) (by decide +kernel)
theorem ti_X8_whyStop : Cond.instanceMethod yX8_whyStop ∈ TMW := tm_in 1961 (by decide +kernel) (by decide +kernel)
theorem ts_X8_whyStop : Cond.selects RX8 yX8_whyStop yX8_whyStop ∈ TMW := tm_in 86 (by decide +kernel) (by decide +kernel)
theorem tc_X8_whyStop : Cond.code yX8_whyStop cX8_whyStop 1 (some .int) ∈ TMW := tm_in 1962 (by decide +kernel) (by decide +kernel)
theorem tl_X8_52 : Cond.methodLink RX8 52 yX8_empties ∈ TMW := tm_in 1547 (by decide +kernel) (by decide +kernel)
theorem ti_X8_empties : Cond.instanceMethod yX8_empties ∈ TMW := tm_in 1549 (by decide +kernel) (by decide +kernel)
theorem ts_X8_empties : Cond.selects RX8 yX8_empties yX8_empties ∈ TMW := tm_in 40 (by decide +kernel) (by decide +kernel)
theorem tc_X8_empties : Cond.code yX8_empties cX8_empties 3 none ∈ TMW := tm_in 1550 (by decide +kernel) (by decide +kernel)
def f_X8_stop (v : tmM) : Option (Int32 × tmM) := tm_lt (tm_up v 0 0 0) fun v1 => tm_cl (f_X8_whyStop v1) fun r3 v2 => (if r3 ≤ 0 then tm_cl (f_X8_does v2) fun r5 v4 => tm_cl (f_X8_empties 71 v4) fun _ v6 => tm_cl (f_X8_endsBoth v6) fun _ v8 => tm_cl (f_X8_becomesPhase 0 v8) fun _ v10 => some (r5, v10) else tm_cl (f_X8_whyStop v2) fun r13 v12 => tm_cl (f_X8_refuses r13 v12) fun r15 v14 => some (r15, v14))
set_option maxRecDepth 100000 in
set_option maxHeartbeats 4000000 in
theorem w_X8_stop {p : Program} {l : Launch} {e : Env} {s : State} {m : MethodId} {args : Array Value} {below : List Frame} {meth : Method} {c : Code} {D : va_G} {cy : Nat → ClassId} {ad : Nat → Nat} {A : Nat → Prop} {z : (Int32 × tmM)} (C0 : tmC p s m args meth c cX8_stop 2 (some .int) RX8 TMW tm_NWR D cy tm_shR ad 13 [] A) (v : tmM) : tmG p l e ({ frames := 3, cells := 0, slots := 0, locals := 66 } : Room) s m args below meth c 0 0 (MQ below (va_Qi (fun r u => z = (r, u)) (tmAt tm_shR 13 D cy ad A) A) args s 0 0 A) 2 D cy tm_shR ad 13 [] A z 0 [(0, .ref (ad 0))] [] v (f_X8_stop v) := by
  unfold f_X8_stop
  refine tg_aload_n 0 C0 dX8_stop_0 rfl rfl ?_
  refine tg_iconst (x := 0) C0 dX8_stop_1 (by decide) ?_
  refine tg_put 0 0 C0 dX8_stop_2 (by decide) rfl rfl tu_X8 tyX8_ok nmX8 (by decide) tf_X8_56 rfl rfl rfl rfl rfl rfl ?_
  refine tg_letm (fun v1 _ => ?_)
  refine tg_aload_n 0 C0 dX8_stop_5 rfl rfl ?_
  refine tg_callVi (As := []) 0 0 C0 dX8_stop_6 (c_X8_whyStop l v1) rfl rfl (by decide) rfl rfl (tm_gV tl_X8_238 ti_X8_whyStop ts_X8_whyStop tn_X8 tc_X8_whyStop)  rfl rfl rfl rfl (by decide +kernel) ⟨by decide, by decide⟩ (Nat.le_of_ble_eq_true rfl) ⟨by decide, by decide⟩ (fun r3 v2 _ => ?_)
  refine tg_if_le 21 C0 dX8_stop_9 (by decide) (fun _ => ?_) (fun _ => ?_)
  · refine tg_aload_n 0 C0 dX8_stop_21 rfl rfl ?_
    refine tg_callVi (As := []) 0 0 C0 dX8_stop_22 (c_X8_does l v2) rfl rfl (by decide) rfl rfl (tm_gV tl_X8_147 ti_X8_does ts_X8_does tn_X8 tc_X8_does)  rfl rfl rfl rfl (by decide +kernel) ⟨by decide, by decide⟩ (Nat.le_of_ble_eq_true rfl) ⟨by decide, by decide⟩ (fun r5 v4 _ => ?_)
    refine tg_istore_n [(1, .int r5), (0, .ref (ad 0))] C0 dX8_stop_25 rfl (by decide) rfl ?_
    refine tg_aload_n 1 C0 dX8_stop_26 rfl rfl ?_
    refine tg_bipush (x := 71) C0 dX8_stop_27 (by decide) ?_
    refine tg_callVv (As := [.int 71]) 0 1 C0 dX8_stop_29 (c_X8_empties l 71 v4) rfl rfl (by decide) rfl rfl (tm_gV tl_X8_52 ti_X8_empties ts_X8_empties tn_X8 tc_X8_empties)  rfl rfl rfl rfl (by decide +kernel) ⟨by decide, by decide⟩ (Nat.le_of_ble_eq_true rfl) ⟨by decide, by decide⟩ (fun v6 _ => ?_)
    refine tg_aload_n 1 C0 dX8_stop_32 rfl rfl ?_
    refine tg_callVv (As := []) 0 0 C0 dX8_stop_33 (c_X8_endsBoth l v6) rfl rfl (by decide) rfl rfl (tm_gV tl_X8_186 ti_X8_endsBoth ts_X8_endsBoth tn_X8 tc_X8_endsBoth)  rfl rfl rfl rfl (by decide +kernel) ⟨by decide, by decide⟩ (Nat.le_of_ble_eq_true rfl) ⟨by decide, by decide⟩ (fun v8 _ => ?_)
    refine tg_aload_n 1 C0 dX8_stop_36 rfl rfl ?_
    refine tg_iconst (x := 0) C0 dX8_stop_37 (by decide) ?_
    refine tg_callVv (As := [.int 0]) 0 1 C0 dX8_stop_38 (c_X8_becomesPhase l 0 v8) rfl rfl (by decide) rfl rfl (tm_gV tl_X8_189 ti_X8_becomesPhase ts_X8_becomesPhase tn_X8 tc_X8_becomesPhase)  rfl rfl rfl rfl (by decide +kernel) ⟨by decide, by decide⟩ (Nat.le_of_ble_eq_true rfl) ⟨by decide, by decide⟩ (fun v10 _ => ?_)
    refine tg_iload_n 0 C0 dX8_stop_41 rfl rfl ?_
    exact tg_iret C0 dX8_stop_42
  · refine tg_aload_n 0 C0 dX8_stop_12 rfl rfl ?_
    refine tg_aload_n 0 C0 dX8_stop_13 rfl rfl ?_
    refine tg_callVi (As := []) 0 0 C0 dX8_stop_14 (c_X8_whyStop l v2) rfl rfl (by decide) rfl rfl (tm_gV tl_X8_238 ti_X8_whyStop ts_X8_whyStop tn_X8 tc_X8_whyStop)  rfl rfl rfl rfl (by decide +kernel) ⟨by decide, by decide⟩ (Nat.le_of_ble_eq_true rfl) ⟨by decide, by decide⟩ (fun r13 v12 _ => ?_)
    refine tg_callVi (As := [.int r13]) 0 1 C0 dX8_stop_17 (c_X8_refuses l r13 v12) rfl rfl (by decide) rfl rfl (tm_gV tl_X8_165 ti_X8_refuses ts_X8_refuses tn_X8 tc_X8_refuses)  rfl rfl rfl rfl (by decide +kernel) ⟨by decide, by decide⟩ (Nat.le_of_ble_eq_true rfl) ⟨by decide, by decide⟩ (fun r15 v14 _ => ?_)
    exact tg_iret C0 dX8_stop_20
theorem c_X8_stop (l : Launch) (v : tmM) : tmMi tm_NWR tm_shR 13 l yX8_stop (Cond.code yX8_stop cX8_stop 2 (some .int) :: TMW) ({ frames := 3, cells := 0, slots := 0, locals := 66 } : Room) (fun ad => [.ref (ad 0)]) v (f_X8_stop v) :=
  tmMi.of (cc := cX8_stop) (nL := 2) (by decide +kernel) rfl tm_NWR_ok (fun _ => Nat.le_of_ble_eq_true rfl) (fun p e s m args below meth c A D cy ad z C0 => w_X8_stop C0 v)
-- ----- X8_whyFinish
theorem dX8_whyFinish_0 : decode cX8_whyFinish 0 = .ok (.aload_n 0, 1) := by decide +kernel
theorem dX8_whyFinish_1 : decode cX8_whyFinish 1 = .ok (.getfield 7, 3) := by decide +kernel
theorem dX8_whyFinish_4 : decode cX8_whyFinish 4 = .ok (.iconst 0, 1) := by decide +kernel
theorem dX8_whyFinish_5 : decode cX8_whyFinish 5 = .ok (.iaload, 1) := by decide +kernel
theorem dX8_whyFinish_6 : decode cX8_whyFinish 6 = .ok (.iconst 2, 1) := by decide +kernel
theorem dX8_whyFinish_7 : decode cX8_whyFinish 7 = .ok (.if_icmp .eq 7, 3) := by decide +kernel
theorem dX8_whyFinish_10 : decode cX8_whyFinish 10 = .ok (.iconst 2, 1) := by decide +kernel
theorem dX8_whyFinish_11 : decode cX8_whyFinish 11 = .ok (.goto 33, 3) := by decide +kernel
theorem dX8_whyFinish_14 : decode cX8_whyFinish 14 = .ok (.aload_n 0, 1) := by decide +kernel
theorem dX8_whyFinish_15 : decode cX8_whyFinish 15 = .ok (.getfield 7, 3) := by decide +kernel
theorem dX8_whyFinish_18 : decode cX8_whyFinish 18 = .ok (.iconst 5, 1) := by decide +kernel
theorem dX8_whyFinish_19 : decode cX8_whyFinish 19 = .ok (.iaload, 1) := by decide +kernel
theorem dX8_whyFinish_20 : decode cX8_whyFinish 20 = .ok (.sipush 255, 3) := by decide +kernel
theorem dX8_whyFinish_23 : decode cX8_whyFinish 23 = .ok (.if_icmp .eq 8, 3) := by decide +kernel
theorem dX8_whyFinish_26 : decode cX8_whyFinish 26 = .ok (.bipush 7, 2) := by decide +kernel
theorem dX8_whyFinish_28 : decode cX8_whyFinish 28 = .ok (.goto 16, 3) := by decide +kernel
theorem dX8_whyFinish_31 : decode cX8_whyFinish 31 = .ok (.aload_n 0, 1) := by decide +kernel
theorem dX8_whyFinish_32 : decode cX8_whyFinish 32 = .ok (.iconst 1, 1) := by decide +kernel
theorem dX8_whyFinish_33 : decode cX8_whyFinish 33 = .ok (.invokevirtual 113, 3) := by decide +kernel
theorem dX8_whyFinish_36 : decode cX8_whyFinish 36 = .ok (.ifCond .ne 7, 3) := by decide +kernel
theorem dX8_whyFinish_39 : decode cX8_whyFinish 39 = .ok (.iconst 1, 1) := by decide +kernel
theorem dX8_whyFinish_40 : decode cX8_whyFinish 40 = .ok (.goto 4, 3) := by decide +kernel
theorem dX8_whyFinish_43 : decode cX8_whyFinish 43 = .ok (.iconst 0, 1) := by decide +kernel
theorem dX8_whyFinish_44 : decode cX8_whyFinish 44 = .ok (.ireturn, 1) := by decide +kernel
def f_X8_whyFinish (v : tmM) : Option (Int32 × tmM) := tm_g (tm_ix 0 491) ((if (v 1 (0 : Int32).toNatClampNeg) = 2 then tm_g (tm_ix 5 491) ((if (v 1 (5 : Int32).toNatClampNeg) = 255 then tm_cl (f_X8_isUp 1 v) fun r2 v1 => (if r2 = 0 then some (1, v1) else some (0, v1)) else some (7, v))) else some (2, v)))
set_option maxRecDepth 100000 in
set_option maxHeartbeats 4000000 in
theorem w_X8_whyFinish {p : Program} {l : Launch} {e : Env} {s : State} {m : MethodId} {args : Array Value} {below : List Frame} {meth : Method} {c : Code} {D : va_G} {cy : Nat → ClassId} {ad : Nat → Nat} {A : Nat → Prop} {z : (Int32 × tmM)} (C0 : tmC p s m args meth c cX8_whyFinish 1 (some .int) RX8 TMW tm_NWR D cy tm_shR ad 13 [] A) (v : tmM) : tmG p l e ({ frames := 2, cells := 0, slots := 0, locals := 42 } : Room) s m args below meth c 0 0 (MQ below (va_Qi (fun r u => z = (r, u)) (tmAt tm_shR 13 D cy ad A) A) args s 0 0 A) 1 D cy tm_shR ad 13 [] A z 0 [(0, .ref (ad 0))] [] v (f_X8_whyFinish v) := by
  unfold f_X8_whyFinish
  refine tg_aload_n 0 C0 dX8_whyFinish_0 rfl rfl ?_
  refine tg_get 0 1 C0 dX8_whyFinish_1 (by decide) rfl rfl tu_X8 (by decide) tf_X8_7 rfl rfl rfl ?_
  refine tg_iconst (x := 0) C0 dX8_whyFinish_4 (by decide) ?_
  refine tg_iald 1 C0 dX8_whyFinish_5 (by decide) rfl (fun _ => ?_)
  refine tg_iconst (x := 2) C0 dX8_whyFinish_6 (by decide) ?_
  refine tg_icmp_eq 14 C0 dX8_whyFinish_7 (by decide) (fun _ => ?_) (fun _ => ?_)
  · refine tg_aload_n 0 C0 dX8_whyFinish_14 rfl rfl ?_
    refine tg_get 0 1 C0 dX8_whyFinish_15 (by decide) rfl rfl tu_X8 (by decide) tf_X8_7 rfl rfl rfl ?_
    refine tg_iconst (x := 5) C0 dX8_whyFinish_18 (by decide) ?_
    refine tg_iald 1 C0 dX8_whyFinish_19 (by decide) rfl (fun _ => ?_)
    refine tg_sipush (x := 255) C0 dX8_whyFinish_20 (by decide) ?_
    refine tg_icmp_eq 31 C0 dX8_whyFinish_23 (by decide) (fun _ => ?_) (fun _ => ?_)
    · refine tg_aload_n 0 C0 dX8_whyFinish_31 rfl rfl ?_
      refine tg_iconst (x := 1) C0 dX8_whyFinish_32 (by decide) ?_
      refine tg_callVi (As := [.int 1]) 0 1 C0 dX8_whyFinish_33 (c_X8_isUp l 1 v) rfl rfl (by decide) rfl rfl (tm_gV tl_X8_113 ti_X8_isUp ts_X8_isUp tn_X8 tc_X8_isUp)  rfl rfl rfl rfl (by decide +kernel) ⟨by decide, by decide⟩ (Nat.le_of_ble_eq_true rfl) ⟨by decide, by decide⟩ (fun r2 v1 _ => ?_)
      refine tg_if_ne 43 C0 dX8_whyFinish_36 (by decide) (fun _ => ?_) (fun _ => ?_)
      · refine tg_iconst (x := 0) C0 dX8_whyFinish_43 (by decide) ?_
        exact tg_iret C0 dX8_whyFinish_44
      · refine tg_iconst (x := 1) C0 dX8_whyFinish_39 (by decide) ?_
        refine tg_goto 44 C0 dX8_whyFinish_40 (by decide) ?_
        exact tg_iret C0 dX8_whyFinish_44
    · refine tg_bipush (x := 7) C0 dX8_whyFinish_26 (by decide) ?_
      refine tg_goto 44 C0 dX8_whyFinish_28 (by decide) ?_
      exact tg_iret C0 dX8_whyFinish_44
  · refine tg_iconst (x := 2) C0 dX8_whyFinish_10 (by decide) ?_
    refine tg_goto 44 C0 dX8_whyFinish_11 (by decide) ?_
    exact tg_iret C0 dX8_whyFinish_44
theorem c_X8_whyFinish (l : Launch) (v : tmM) : tmMi tm_NWR tm_shR 13 l yX8_whyFinish (Cond.code yX8_whyFinish cX8_whyFinish 1 (some .int) :: TMW) ({ frames := 2, cells := 0, slots := 0, locals := 42 } : Room) (fun ad => [.ref (ad 0)]) v (f_X8_whyFinish v) :=
  tmMi.of (cc := cX8_whyFinish) (nL := 1) (by decide +kernel) rfl tm_NWR_ok (fun _ => Nat.le_of_ble_eq_true rfl) (fun p e s m args below meth c A D cy ad z C0 => w_X8_whyFinish C0 v)
-- ----- X8_finish
theorem dX8_finish_0 : decode cX8_finish 0 = .ok (.aload_n 0, 1) := by decide +kernel
theorem dX8_finish_1 : decode cX8_finish 1 = .ok (.iconst 0, 1) := by decide +kernel
theorem dX8_finish_2 : decode cX8_finish 2 = .ok (.putfield 56, 3) := by decide +kernel
theorem dX8_finish_5 : decode cX8_finish 5 = .ok (.aload_n 0, 1) := by decide +kernel
theorem dX8_finish_6 : decode cX8_finish 6 = .ok (.invokevirtual 241, 3) := by decide +kernel
theorem dX8_finish_9 : decode cX8_finish 9 = .ok (.ifCond .le 12, 3) := by decide +kernel
theorem dX8_finish_12 : decode cX8_finish 12 = .ok (.aload_n 0, 1) := by decide +kernel
theorem dX8_finish_13 : decode cX8_finish 13 = .ok (.aload_n 0, 1) := by decide +kernel
theorem dX8_finish_14 : decode cX8_finish 14 = .ok (.invokevirtual 241, 3) := by decide +kernel
theorem dX8_finish_17 : decode cX8_finish 17 = .ok (.invokevirtual 165, 3) := by decide +kernel
theorem dX8_finish_20 : decode cX8_finish 20 = .ok (.ireturn, 1) := by decide +kernel
theorem dX8_finish_21 : decode cX8_finish 21 = .ok (.aload_n 0, 1) := by decide +kernel
theorem dX8_finish_22 : decode cX8_finish 22 = .ok (.invokevirtual 147, 3) := by decide +kernel
theorem dX8_finish_25 : decode cX8_finish 25 = .ok (.istore_n 1, 1) := by decide +kernel
theorem dX8_finish_26 : decode cX8_finish 26 = .ok (.aload_n 0, 1) := by decide +kernel
theorem dX8_finish_27 : decode cX8_finish 27 = .ok (.bipush 11, 2) := by decide +kernel
theorem dX8_finish_29 : decode cX8_finish 29 = .ok (.invokevirtual 52, 3) := by decide +kernel
theorem dX8_finish_32 : decode cX8_finish 32 = .ok (.aload_n 0, 1) := by decide +kernel
theorem dX8_finish_33 : decode cX8_finish 33 = .ok (.invokevirtual 186, 3) := by decide +kernel
theorem dX8_finish_36 : decode cX8_finish 36 = .ok (.aload_n 0, 1) := by decide +kernel
theorem dX8_finish_37 : decode cX8_finish 37 = .ok (.iconst 3, 1) := by decide +kernel
theorem dX8_finish_38 : decode cX8_finish 38 = .ok (.invokevirtual 189, 3) := by decide +kernel
theorem dX8_finish_41 : decode cX8_finish 41 = .ok (.iload_n 1, 1) := by decide +kernel
theorem dX8_finish_42 : decode cX8_finish 42 = .ok (.ireturn, 1) := by decide +kernel
theorem tl_X8_241 : Cond.methodLink RX8 241 yX8_whyFinish ∈ TMW := tm_in 1967 (by decide +kernel) (by decide +kernel)
theorem ti_X8_whyFinish : Cond.instanceMethod yX8_whyFinish ∈ TMW := tm_in 1969 (by decide +kernel) (by decide +kernel)
theorem ts_X8_whyFinish : Cond.selects RX8 yX8_whyFinish yX8_whyFinish ∈ TMW := tm_in 87 (by decide +kernel) (by decide +kernel)
theorem tc_X8_whyFinish : Cond.code yX8_whyFinish cX8_whyFinish 1 (some .int) ∈ TMW := tm_in 1970 (by decide +kernel) (by decide +kernel)
def f_X8_finish (v : tmM) : Option (Int32 × tmM) := tm_lt (tm_up v 0 0 0) fun v1 => tm_cl (f_X8_whyFinish v1) fun r3 v2 => (if r3 ≤ 0 then tm_cl (f_X8_does v2) fun r5 v4 => tm_cl (f_X8_empties 11 v4) fun _ v6 => tm_cl (f_X8_endsBoth v6) fun _ v8 => tm_cl (f_X8_becomesPhase 3 v8) fun _ v10 => some (r5, v10) else tm_cl (f_X8_whyFinish v2) fun r13 v12 => tm_cl (f_X8_refuses r13 v12) fun r15 v14 => some (r15, v14))
set_option maxRecDepth 100000 in
set_option maxHeartbeats 4000000 in
theorem w_X8_finish {p : Program} {l : Launch} {e : Env} {s : State} {m : MethodId} {args : Array Value} {below : List Frame} {meth : Method} {c : Code} {D : va_G} {cy : Nat → ClassId} {ad : Nat → Nat} {A : Nat → Prop} {z : (Int32 × tmM)} (C0 : tmC p s m args meth c cX8_finish 2 (some .int) RX8 TMW tm_NWR D cy tm_shR ad 13 [] A) (v : tmM) : tmG p l e ({ frames := 3, cells := 0, slots := 0, locals := 66 } : Room) s m args below meth c 0 0 (MQ below (va_Qi (fun r u => z = (r, u)) (tmAt tm_shR 13 D cy ad A) A) args s 0 0 A) 2 D cy tm_shR ad 13 [] A z 0 [(0, .ref (ad 0))] [] v (f_X8_finish v) := by
  unfold f_X8_finish
  refine tg_aload_n 0 C0 dX8_finish_0 rfl rfl ?_
  refine tg_iconst (x := 0) C0 dX8_finish_1 (by decide) ?_
  refine tg_put 0 0 C0 dX8_finish_2 (by decide) rfl rfl tu_X8 tyX8_ok nmX8 (by decide) tf_X8_56 rfl rfl rfl rfl rfl rfl ?_
  refine tg_letm (fun v1 _ => ?_)
  refine tg_aload_n 0 C0 dX8_finish_5 rfl rfl ?_
  refine tg_callVi (As := []) 0 0 C0 dX8_finish_6 (c_X8_whyFinish l v1) rfl rfl (by decide) rfl rfl (tm_gV tl_X8_241 ti_X8_whyFinish ts_X8_whyFinish tn_X8 tc_X8_whyFinish)  rfl rfl rfl rfl (by decide +kernel) ⟨by decide, by decide⟩ (Nat.le_of_ble_eq_true rfl) ⟨by decide, by decide⟩ (fun r3 v2 _ => ?_)
  refine tg_if_le 21 C0 dX8_finish_9 (by decide) (fun _ => ?_) (fun _ => ?_)
  · refine tg_aload_n 0 C0 dX8_finish_21 rfl rfl ?_
    refine tg_callVi (As := []) 0 0 C0 dX8_finish_22 (c_X8_does l v2) rfl rfl (by decide) rfl rfl (tm_gV tl_X8_147 ti_X8_does ts_X8_does tn_X8 tc_X8_does)  rfl rfl rfl rfl (by decide +kernel) ⟨by decide, by decide⟩ (Nat.le_of_ble_eq_true rfl) ⟨by decide, by decide⟩ (fun r5 v4 _ => ?_)
    refine tg_istore_n [(1, .int r5), (0, .ref (ad 0))] C0 dX8_finish_25 rfl (by decide) rfl ?_
    refine tg_aload_n 1 C0 dX8_finish_26 rfl rfl ?_
    refine tg_bipush (x := 11) C0 dX8_finish_27 (by decide) ?_
    refine tg_callVv (As := [.int 11]) 0 1 C0 dX8_finish_29 (c_X8_empties l 11 v4) rfl rfl (by decide) rfl rfl (tm_gV tl_X8_52 ti_X8_empties ts_X8_empties tn_X8 tc_X8_empties)  rfl rfl rfl rfl (by decide +kernel) ⟨by decide, by decide⟩ (Nat.le_of_ble_eq_true rfl) ⟨by decide, by decide⟩ (fun v6 _ => ?_)
    refine tg_aload_n 1 C0 dX8_finish_32 rfl rfl ?_
    refine tg_callVv (As := []) 0 0 C0 dX8_finish_33 (c_X8_endsBoth l v6) rfl rfl (by decide) rfl rfl (tm_gV tl_X8_186 ti_X8_endsBoth ts_X8_endsBoth tn_X8 tc_X8_endsBoth)  rfl rfl rfl rfl (by decide +kernel) ⟨by decide, by decide⟩ (Nat.le_of_ble_eq_true rfl) ⟨by decide, by decide⟩ (fun v8 _ => ?_)
    refine tg_aload_n 1 C0 dX8_finish_36 rfl rfl ?_
    refine tg_iconst (x := 3) C0 dX8_finish_37 (by decide) ?_
    refine tg_callVv (As := [.int 3]) 0 1 C0 dX8_finish_38 (c_X8_becomesPhase l 3 v8) rfl rfl (by decide) rfl rfl (tm_gV tl_X8_189 ti_X8_becomesPhase ts_X8_becomesPhase tn_X8 tc_X8_becomesPhase)  rfl rfl rfl rfl (by decide +kernel) ⟨by decide, by decide⟩ (Nat.le_of_ble_eq_true rfl) ⟨by decide, by decide⟩ (fun v10 _ => ?_)
    refine tg_iload_n 0 C0 dX8_finish_41 rfl rfl ?_
    exact tg_iret C0 dX8_finish_42
  · refine tg_aload_n 0 C0 dX8_finish_12 rfl rfl ?_
    refine tg_aload_n 0 C0 dX8_finish_13 rfl rfl ?_
    refine tg_callVi (As := []) 0 0 C0 dX8_finish_14 (c_X8_whyFinish l v2) rfl rfl (by decide) rfl rfl (tm_gV tl_X8_241 ti_X8_whyFinish ts_X8_whyFinish tn_X8 tc_X8_whyFinish)  rfl rfl rfl rfl (by decide +kernel) ⟨by decide, by decide⟩ (Nat.le_of_ble_eq_true rfl) ⟨by decide, by decide⟩ (fun r13 v12 _ => ?_)
    refine tg_callVi (As := [.int r13]) 0 1 C0 dX8_finish_17 (c_X8_refuses l r13 v12) rfl rfl (by decide) rfl rfl (tm_gV tl_X8_165 ti_X8_refuses ts_X8_refuses tn_X8 tc_X8_refuses)  rfl rfl rfl rfl (by decide +kernel) ⟨by decide, by decide⟩ (Nat.le_of_ble_eq_true rfl) ⟨by decide, by decide⟩ (fun r15 v14 _ => ?_)
    exact tg_iret C0 dX8_finish_20
theorem c_X8_finish (l : Launch) (v : tmM) : tmMi tm_NWR tm_shR 13 l yX8_finish (Cond.code yX8_finish cX8_finish 2 (some .int) :: TMW) ({ frames := 3, cells := 0, slots := 0, locals := 66 } : Room) (fun ad => [.ref (ad 0)]) v (f_X8_finish v) :=
  tmMi.of (cc := cX8_finish) (nL := 2) (by decide +kernel) rfl tm_NWR_ok (fun _ => Nat.le_of_ble_eq_true rfl) (fun p e s m args below meth c A D cy ad z C0 => w_X8_finish C0 v)
-- ----- X8_why
theorem dX8_why_0 : decode cX8_why 0 = .ok (.iload_n 1, 1) := by decide +kernel
theorem dX8_why_1 : decode cX8_why 1 = .ok (.iconst 3, 1) := by decide +kernel
theorem dX8_why_2 : decode cX8_why 2 = .ok (.if_icmp .ne 10, 3) := by decide +kernel
theorem dX8_why_5 : decode cX8_why 5 = .ok (.iload_n 2, 1) := by decide +kernel
theorem dX8_why_6 : decode cX8_why 6 = .ok (.invokestatic 131, 3) := by decide +kernel
theorem dX8_why_9 : decode cX8_why 9 = .ok (.goto 25, 3) := by decide +kernel
theorem dX8_why_12 : decode cX8_why 12 = .ok (.iload_n 1, 1) := by decide +kernel
theorem dX8_why_13 : decode cX8_why 13 = .ok (.iconst 4, 1) := by decide +kernel
theorem dX8_why_14 : decode cX8_why 14 = .ok (.if_icmp .eq 8, 3) := by decide +kernel
theorem dX8_why_17 : decode cX8_why 17 = .ok (.iload_n 1, 1) := by decide +kernel
theorem dX8_why_18 : decode cX8_why 18 = .ok (.iconst 5, 1) := by decide +kernel
theorem dX8_why_19 : decode cX8_why 19 = .ok (.if_icmp .ne 10, 3) := by decide +kernel
theorem dX8_why_22 : decode cX8_why 22 = .ok (.iload_n 2, 1) := by decide +kernel
theorem dX8_why_23 : decode cX8_why 23 = .ok (.invokestatic 125, 3) := by decide +kernel
theorem dX8_why_26 : decode cX8_why 26 = .ok (.ifCond .eq 7, 3) := by decide +kernel
theorem dX8_why_29 : decode cX8_why 29 = .ok (.iconst 1, 1) := by decide +kernel
theorem dX8_why_30 : decode cX8_why 30 = .ok (.goto 4, 3) := by decide +kernel
theorem dX8_why_33 : decode cX8_why 33 = .ok (.iconst 0, 1) := by decide +kernel
theorem dX8_why_34 : decode cX8_why 34 = .ok (.istore_n 3, 1) := by decide +kernel
theorem dX8_why_35 : decode cX8_why 35 = .ok (.aload_n 0, 1) := by decide +kernel
theorem dX8_why_36 : decode cX8_why 36 = .ok (.iload_n 1, 1) := by decide +kernel
theorem dX8_why_37 : decode cX8_why 37 = .ok (.iconst 0, 1) := by decide +kernel
theorem dX8_why_38 : decode cX8_why 38 = .ok (.bipush 10, 2) := by decide +kernel
theorem dX8_why_40 : decode cX8_why 40 = .ok (.invokestatic 63, 3) := by decide +kernel
theorem dX8_why_43 : decode cX8_why 43 = .ok (.ifCond .eq 11, 3) := by decide +kernel
theorem dX8_why_46 : decode cX8_why 46 = .ok (.iload_n 3, 1) := by decide +kernel
theorem dX8_why_47 : decode cX8_why 47 = .ok (.ifCond .eq 7, 3) := by decide +kernel
theorem dX8_why_50 : decode cX8_why 50 = .ok (.iconst 0, 1) := by decide +kernel
theorem dX8_why_51 : decode cX8_why 51 = .ok (.goto 4, 3) := by decide +kernel
theorem dX8_why_54 : decode cX8_why 54 = .ok (.iconst 1, 1) := by decide +kernel
theorem dX8_why_55 : decode cX8_why 55 = .ok (.putfield 56, 3) := by decide +kernel
theorem dX8_why_58 : decode cX8_why 58 = .ok (.aload_n 0, 1) := by decide +kernel
theorem dX8_why_59 : decode cX8_why 59 = .ok (.getfield 56, 3) := by decide +kernel
theorem dX8_why_62 : decode cX8_why 62 = .ok (.ifCond .le 7, 3) := by decide +kernel
theorem dX8_why_65 : decode cX8_why 65 = .ok (.iconst (-1), 1) := by decide +kernel
theorem dX8_why_66 : decode cX8_why 66 = .ok (.goto 4, 3) := by decide +kernel
theorem dX8_why_69 : decode cX8_why 69 = .ok (.iload_n 1, 1) := by decide +kernel
theorem dX8_why_70 : decode cX8_why 70 = .ok (.tableswitch 115 (-1) 9 #[58, 60, 65, 70, 75, 81, 87, 93, 98, 104, 110], 58) := by decide +kernel
theorem dX8_why_128 : decode cX8_why 128 = .ok (.iconst 0, 1) := by decide +kernel
theorem dX8_why_129 : decode cX8_why 129 = .ok (.ireturn, 1) := by decide +kernel
theorem dX8_why_130 : decode cX8_why 130 = .ok (.aload_n 0, 1) := by decide +kernel
theorem dX8_why_131 : decode cX8_why 131 = .ok (.invokevirtual 183, 3) := by decide +kernel
theorem dX8_why_134 : decode cX8_why 134 = .ok (.ireturn, 1) := by decide +kernel
theorem dX8_why_135 : decode cX8_why 135 = .ok (.aload_n 0, 1) := by decide +kernel
theorem dX8_why_136 : decode cX8_why 136 = .ok (.invokevirtual 192, 3) := by decide +kernel
theorem dX8_why_139 : decode cX8_why 139 = .ok (.ireturn, 1) := by decide +kernel
theorem dX8_why_140 : decode cX8_why 140 = .ok (.aload_n 0, 1) := by decide +kernel
theorem dX8_why_141 : decode cX8_why 141 = .ok (.invokevirtual 201, 3) := by decide +kernel
theorem dX8_why_144 : decode cX8_why 144 = .ok (.ireturn, 1) := by decide +kernel
theorem dX8_why_145 : decode cX8_why 145 = .ok (.aload_n 0, 1) := by decide +kernel
theorem dX8_why_146 : decode cX8_why 146 = .ok (.iload_n 2, 1) := by decide +kernel
theorem dX8_why_147 : decode cX8_why 147 = .ok (.invokevirtual 207, 3) := by decide +kernel
theorem dX8_why_150 : decode cX8_why 150 = .ok (.ireturn, 1) := by decide +kernel
theorem dX8_why_151 : decode cX8_why 151 = .ok (.aload_n 0, 1) := by decide +kernel
theorem dX8_why_152 : decode cX8_why 152 = .ok (.iload_n 2, 1) := by decide +kernel
theorem dX8_why_153 : decode cX8_why 153 = .ok (.invokevirtual 213, 3) := by decide +kernel
theorem dX8_why_156 : decode cX8_why 156 = .ok (.ireturn, 1) := by decide +kernel
theorem dX8_why_157 : decode cX8_why 157 = .ok (.aload_n 0, 1) := by decide +kernel
theorem dX8_why_158 : decode cX8_why 158 = .ok (.iload_n 2, 1) := by decide +kernel
theorem dX8_why_159 : decode cX8_why 159 = .ok (.invokevirtual 219, 3) := by decide +kernel
theorem dX8_why_162 : decode cX8_why 162 = .ok (.ireturn, 1) := by decide +kernel
theorem dX8_why_163 : decode cX8_why 163 = .ok (.aload_n 0, 1) := by decide +kernel
theorem dX8_why_164 : decode cX8_why 164 = .ok (.invokevirtual 228, 3) := by decide +kernel
theorem dX8_why_167 : decode cX8_why 167 = .ok (.ireturn, 1) := by decide +kernel
theorem dX8_why_168 : decode cX8_why 168 = .ok (.aload_n 0, 1) := by decide +kernel
theorem dX8_why_169 : decode cX8_why 169 = .ok (.iconst 1, 1) := by decide +kernel
theorem dX8_why_170 : decode cX8_why 170 = .ok (.invokevirtual 231, 3) := by decide +kernel
theorem dX8_why_173 : decode cX8_why 173 = .ok (.ireturn, 1) := by decide +kernel
theorem dX8_why_174 : decode cX8_why 174 = .ok (.aload_n 0, 1) := by decide +kernel
theorem dX8_why_175 : decode cX8_why 175 = .ok (.iconst 0, 1) := by decide +kernel
theorem dX8_why_176 : decode cX8_why 176 = .ok (.invokevirtual 231, 3) := by decide +kernel
theorem dX8_why_179 : decode cX8_why 179 = .ok (.ireturn, 1) := by decide +kernel
theorem dX8_why_180 : decode cX8_why 180 = .ok (.aload_n 0, 1) := by decide +kernel
theorem dX8_why_181 : decode cX8_why 181 = .ok (.invokevirtual 238, 3) := by decide +kernel
theorem dX8_why_184 : decode cX8_why 184 = .ok (.ireturn, 1) := by decide +kernel
theorem dX8_why_185 : decode cX8_why 185 = .ok (.aload_n 0, 1) := by decide +kernel
theorem dX8_why_186 : decode cX8_why 186 = .ok (.invokevirtual 241, 3) := by decide +kernel
theorem dX8_why_189 : decode cX8_why 189 = .ok (.ireturn, 1) := by decide +kernel
def f_X8_why_70 (x2 s0 : Int32) (v : tmM) : Option (Int32 × tmM) := (if s0 = (-1) then some (0, v) else if s0 = 0 then tm_cl (f_X8_whyBegin v) fun r8 v7 => some (r8, v7) else if s0 = 1 then tm_cl (f_X8_whyCopy v) fun r11 v10 => some (r11, v10) else if s0 = 2 then tm_cl (f_X8_whyRepair v) fun r14 v13 => some (r14, v13) else if s0 = 3 then tm_cl (f_X8_whyCheck x2 v) fun r17 v16 => some (r17, v16) else if s0 = 4 then tm_cl (f_X8_whySwitch x2 v) fun r20 v19 => some (r20, v19) else if s0 = 5 then tm_cl (f_X8_whyBack x2 v) fun r23 v22 => some (r23, v22) else if s0 = 6 then tm_cl (f_X8_whyLead v) fun r26 v25 => some (r26, v25) else if s0 = 7 then tm_cl (f_X8_whyGoBack 1 v) fun r29 v28 => some (r29, v28) else if s0 = 8 then tm_cl (f_X8_whyGoBack 0 v) fun r32 v31 => some (r32, v31) else if s0 = 9 then tm_cl (f_X8_whyStop v) fun r35 v34 => some (r35, v34) else tm_cl (f_X8_whyFinish v) fun r38 v37 => some (r38, v37))
set_option maxRecDepth 100000 in
set_option maxHeartbeats 4000000 in
theorem w_X8_why_70 {p : Program} {l : Launch} {e : Env} {s : State} {m : MethodId} {args : Array Value} {below : List Frame} {meth : Method} {c : Code} {D : va_G} {cy : Nat → ClassId} {ad : Nat → Nat} {A : Nat → Prop} {z : (Int32 × tmM)} (C0 : tmC p s m args meth c cX8_why 4 (some .int) RX8 TMW tm_NWR D cy tm_shR ad 13 [] A) (x2 s0 : Int32) (v : tmM) : tmG p l e ({ frames := 6, cells := 0, slots := 0, locals := 134 } : Room) s m args below meth c 0 0 (MQ below (va_Qi (fun r u => z = (r, u)) (tmAt tm_shR 13 D cy ad A) A) args s 0 0 A) 4 D cy tm_shR ad 13 [] A z 70 [(0, .ref (ad 0)), (2, .int x2)] [.int s0] v (f_X8_why_70 x2 s0 v) := by
  unfold f_X8_why_70
  refine tg_tab 0 (cst := (-1)) 128 tg_tab0 C0 dX8_why_70 (by decide) rfl (by decide) (by decide) (fun _ => ?_) (fun h6 => ?_)
  · refine tg_iconst (x := 0) C0 dX8_why_128 (by decide) ?_
    exact tg_iret C0 dX8_why_129
  refine tg_tab 1 (cst := 0) 130 h6 C0 dX8_why_70 (by decide) rfl (by decide) (by decide) (fun _ => ?_) (fun h9 => ?_)
  · refine tg_aload_n 0 C0 dX8_why_130 rfl rfl ?_
    refine tg_callVi (As := []) 0 0 C0 dX8_why_131 (c_X8_whyBegin l v) rfl rfl (by decide) rfl rfl (tm_gV tl_X8_183 ti_X8_whyBegin ts_X8_whyBegin tn_X8 tc_X8_whyBegin)  rfl rfl rfl rfl (by decide +kernel) ⟨by decide, by decide⟩ (Nat.le_of_ble_eq_true rfl) ⟨by decide, by decide⟩ (fun r8 v7 _ => ?_)
    exact tg_iret C0 dX8_why_134
  refine tg_tab 2 (cst := 1) 135 h9 C0 dX8_why_70 (by decide) rfl (by decide) (by decide) (fun _ => ?_) (fun h12 => ?_)
  · refine tg_aload_n 0 C0 dX8_why_135 rfl rfl ?_
    refine tg_callVi (As := []) 0 0 C0 dX8_why_136 (c_X8_whyCopy l v) rfl rfl (by decide) rfl rfl (tm_gV tl_X8_192 ti_X8_whyCopy ts_X8_whyCopy tn_X8 tc_X8_whyCopy)  rfl rfl rfl rfl (by decide +kernel) ⟨by decide, by decide⟩ (Nat.le_of_ble_eq_true rfl) ⟨by decide, by decide⟩ (fun r11 v10 _ => ?_)
    exact tg_iret C0 dX8_why_139
  refine tg_tab 3 (cst := 2) 140 h12 C0 dX8_why_70 (by decide) rfl (by decide) (by decide) (fun _ => ?_) (fun h15 => ?_)
  · refine tg_aload_n 0 C0 dX8_why_140 rfl rfl ?_
    refine tg_callVi (As := []) 0 0 C0 dX8_why_141 (c_X8_whyRepair l v) rfl rfl (by decide) rfl rfl (tm_gV tl_X8_201 ti_X8_whyRepair ts_X8_whyRepair tn_X8 tc_X8_whyRepair)  rfl rfl rfl rfl (by decide +kernel) ⟨by decide, by decide⟩ (Nat.le_of_ble_eq_true rfl) ⟨by decide, by decide⟩ (fun r14 v13 _ => ?_)
    exact tg_iret C0 dX8_why_144
  refine tg_tab 4 (cst := 3) 145 h15 C0 dX8_why_70 (by decide) rfl (by decide) (by decide) (fun _ => ?_) (fun h18 => ?_)
  · refine tg_aload_n 0 C0 dX8_why_145 rfl rfl ?_
    refine tg_iload_n 1 C0 dX8_why_146 rfl rfl ?_
    refine tg_callVi (As := [.int x2]) 0 1 C0 dX8_why_147 (c_X8_whyCheck l x2 v) rfl rfl (by decide) rfl rfl (tm_gV tl_X8_207 ti_X8_whyCheck ts_X8_whyCheck tn_X8 tc_X8_whyCheck)  rfl rfl rfl rfl (by decide +kernel) ⟨by decide, by decide⟩ (Nat.le_of_ble_eq_true rfl) ⟨by decide, by decide⟩ (fun r17 v16 _ => ?_)
    exact tg_iret C0 dX8_why_150
  refine tg_tab 5 (cst := 4) 151 h18 C0 dX8_why_70 (by decide) rfl (by decide) (by decide) (fun _ => ?_) (fun h21 => ?_)
  · refine tg_aload_n 0 C0 dX8_why_151 rfl rfl ?_
    refine tg_iload_n 1 C0 dX8_why_152 rfl rfl ?_
    refine tg_callVi (As := [.int x2]) 0 1 C0 dX8_why_153 (c_X8_whySwitch l x2 v) rfl rfl (by decide) rfl rfl (tm_gV tl_X8_213 ti_X8_whySwitch ts_X8_whySwitch tn_X8 tc_X8_whySwitch)  rfl rfl rfl rfl (by decide +kernel) ⟨by decide, by decide⟩ (Nat.le_of_ble_eq_true rfl) ⟨by decide, by decide⟩ (fun r20 v19 _ => ?_)
    exact tg_iret C0 dX8_why_156
  refine tg_tab 6 (cst := 5) 157 h21 C0 dX8_why_70 (by decide) rfl (by decide) (by decide) (fun _ => ?_) (fun h24 => ?_)
  · refine tg_aload_n 0 C0 dX8_why_157 rfl rfl ?_
    refine tg_iload_n 1 C0 dX8_why_158 rfl rfl ?_
    refine tg_callVi (As := [.int x2]) 0 1 C0 dX8_why_159 (c_X8_whyBack l x2 v) rfl rfl (by decide) rfl rfl (tm_gV tl_X8_219 ti_X8_whyBack ts_X8_whyBack tn_X8 tc_X8_whyBack)  rfl rfl rfl rfl (by decide +kernel) ⟨by decide, by decide⟩ (Nat.le_of_ble_eq_true rfl) ⟨by decide, by decide⟩ (fun r23 v22 _ => ?_)
    exact tg_iret C0 dX8_why_162
  refine tg_tab 7 (cst := 6) 163 h24 C0 dX8_why_70 (by decide) rfl (by decide) (by decide) (fun _ => ?_) (fun h27 => ?_)
  · refine tg_aload_n 0 C0 dX8_why_163 rfl rfl ?_
    refine tg_callVi (As := []) 0 0 C0 dX8_why_164 (c_X8_whyLead l v) rfl rfl (by decide) rfl rfl (tm_gV tl_X8_228 ti_X8_whyLead ts_X8_whyLead tn_X8 tc_X8_whyLead)  rfl rfl rfl rfl (by decide +kernel) ⟨by decide, by decide⟩ (Nat.le_of_ble_eq_true rfl) ⟨by decide, by decide⟩ (fun r26 v25 _ => ?_)
    exact tg_iret C0 dX8_why_167
  refine tg_tab 8 (cst := 7) 168 h27 C0 dX8_why_70 (by decide) rfl (by decide) (by decide) (fun _ => ?_) (fun h30 => ?_)
  · refine tg_aload_n 0 C0 dX8_why_168 rfl rfl ?_
    refine tg_iconst (x := 1) C0 dX8_why_169 (by decide) ?_
    refine tg_callVi (As := [.int 1]) 0 1 C0 dX8_why_170 (c_X8_whyGoBack l 1 v) rfl rfl (by decide) rfl rfl (tm_gV tl_X8_231 ti_X8_whyGoBack ts_X8_whyGoBack tn_X8 tc_X8_whyGoBack)  rfl rfl rfl rfl (by decide +kernel) ⟨by decide, by decide⟩ (Nat.le_of_ble_eq_true rfl) ⟨by decide, by decide⟩ (fun r29 v28 _ => ?_)
    exact tg_iret C0 dX8_why_173
  refine tg_tab 9 (cst := 8) 174 h30 C0 dX8_why_70 (by decide) rfl (by decide) (by decide) (fun _ => ?_) (fun h33 => ?_)
  · refine tg_aload_n 0 C0 dX8_why_174 rfl rfl ?_
    refine tg_iconst (x := 0) C0 dX8_why_175 (by decide) ?_
    refine tg_callVi (As := [.int 0]) 0 1 C0 dX8_why_176 (c_X8_whyGoBack l 0 v) rfl rfl (by decide) rfl rfl (tm_gV tl_X8_231 ti_X8_whyGoBack ts_X8_whyGoBack tn_X8 tc_X8_whyGoBack)  rfl rfl rfl rfl (by decide +kernel) ⟨by decide, by decide⟩ (Nat.le_of_ble_eq_true rfl) ⟨by decide, by decide⟩ (fun r32 v31 _ => ?_)
    exact tg_iret C0 dX8_why_179
  refine tg_tab 10 (cst := 9) 180 h33 C0 dX8_why_70 (by decide) rfl (by decide) (by decide) (fun _ => ?_) (fun h36 => ?_)
  · refine tg_aload_n 0 C0 dX8_why_180 rfl rfl ?_
    refine tg_callVi (As := []) 0 0 C0 dX8_why_181 (c_X8_whyStop l v) rfl rfl (by decide) rfl rfl (tm_gV tl_X8_238 ti_X8_whyStop ts_X8_whyStop tn_X8 tc_X8_whyStop)  rfl rfl rfl rfl (by decide +kernel) ⟨by decide, by decide⟩ (Nat.le_of_ble_eq_true rfl) ⟨by decide, by decide⟩ (fun r35 v34 _ => ?_)
    exact tg_iret C0 dX8_why_184
  refine tg_tabO 11 185 h36 C0 dX8_why_70 (by decide) (by decide) ?_
  refine tg_aload_n 0 C0 dX8_why_185 rfl rfl ?_
  refine tg_callVi (As := []) 0 0 C0 dX8_why_186 (c_X8_whyFinish l v) rfl rfl (by decide) rfl rfl (tm_gV tl_X8_241 ti_X8_whyFinish ts_X8_whyFinish tn_X8 tc_X8_whyFinish)  rfl rfl rfl rfl (by decide +kernel) ⟨by decide, by decide⟩ (Nat.le_of_ble_eq_true rfl) ⟨by decide, by decide⟩ (fun r38 v37 _ => ?_)
  exact tg_iret C0 dX8_why_189
def f_X8_why_55 (x1 x2 s0 : Int32) (v : tmM) : Option (Int32 × tmM) := tm_lt (tm_up v 0 0 s0) fun v5 => (if (v5 0 0) ≤ 0 then f_X8_why_70 x2 x1 v5 else f_X8_why_70 x2 (-1) v5)
set_option maxRecDepth 100000 in
set_option maxHeartbeats 4000000 in
theorem w_X8_why_55 {p : Program} {l : Launch} {e : Env} {s : State} {m : MethodId} {args : Array Value} {below : List Frame} {meth : Method} {c : Code} {D : va_G} {cy : Nat → ClassId} {ad : Nat → Nat} {A : Nat → Prop} {z : (Int32 × tmM)} (C0 : tmC p s m args meth c cX8_why 4 (some .int) RX8 TMW tm_NWR D cy tm_shR ad 13 [] A) (x1 x2 s0 : Int32) (v : tmM) : tmG p l e ({ frames := 6, cells := 0, slots := 0, locals := 134 } : Room) s m args below meth c 0 0 (MQ below (va_Qi (fun r u => z = (r, u)) (tmAt tm_shR 13 D cy ad A) A) args s 0 0 A) 4 D cy tm_shR ad 13 [] A z 55 [(0, .ref (ad 0)), (1, .int x1), (2, .int x2)] [.int s0, .ref (ad 0)] v (f_X8_why_55 x1 x2 s0 v) := by
  unfold f_X8_why_55
  refine tg_put 0 0 C0 dX8_why_55 (by decide) rfl rfl tu_X8 tyX8_ok nmX8 (by decide) tf_X8_56 rfl rfl rfl rfl rfl rfl ?_
  refine tg_letm (fun v5 _ => ?_)
  refine tg_aload_n 0 C0 dX8_why_58 rfl rfl ?_
  refine tg_get 0 0 C0 dX8_why_59 (by decide) rfl rfl tu_X8 (by decide) tf_X8_56 rfl rfl rfl ?_
  refine tg_if_le 69 C0 dX8_why_62 (by decide) (fun _ => ?_) (fun _ => ?_)
  · refine tg_iload_n 1 C0 dX8_why_69 rfl rfl ?_
    refine tg_sub [0, 2] rfl ?_
    exact w_X8_why_70 C0 x2 x1 v5
  · refine tg_iconst (x := (-1)) C0 dX8_why_65 (by decide) ?_
    refine tg_goto 70 C0 dX8_why_66 (by decide) ?_
    refine tg_sub [0, 2] rfl ?_
    exact w_X8_why_70 C0 x2 (-1) v5
def f_X8_why_54 (x1 x2 : Int32) (v : tmM) : Option (Int32 × tmM) := f_X8_why_55 x1 x2 1 v
set_option maxRecDepth 100000 in
set_option maxHeartbeats 4000000 in
theorem w_X8_why_54 {p : Program} {l : Launch} {e : Env} {s : State} {m : MethodId} {args : Array Value} {below : List Frame} {meth : Method} {c : Code} {D : va_G} {cy : Nat → ClassId} {ad : Nat → Nat} {A : Nat → Prop} {z : (Int32 × tmM)} (C0 : tmC p s m args meth c cX8_why 4 (some .int) RX8 TMW tm_NWR D cy tm_shR ad 13 [] A) (x1 x2 : Int32) (v : tmM) : tmG p l e ({ frames := 6, cells := 0, slots := 0, locals := 134 } : Room) s m args below meth c 0 0 (MQ below (va_Qi (fun r u => z = (r, u)) (tmAt tm_shR 13 D cy ad A) A) args s 0 0 A) 4 D cy tm_shR ad 13 [] A z 54 [(0, .ref (ad 0)), (1, .int x1), (2, .int x2)] [.ref (ad 0)] v (f_X8_why_54 x1 x2 v) := by
  unfold f_X8_why_54
  refine tg_iconst (x := 1) C0 dX8_why_54 (by decide) ?_
  exact w_X8_why_55 C0 x1 x2 1 v
def f_X8_why_34 (x1 x2 s0 : Int32) (v : tmM) : Option (Int32 × tmM) := tm_cl (f_X8_in x1 0 10 v) fun r4 v3 => (if r4 = 0 then f_X8_why_54 x1 x2 v3 else (if s0 = 0 then f_X8_why_54 x1 x2 v3 else f_X8_why_55 x1 x2 0 v3))
set_option maxRecDepth 100000 in
set_option maxHeartbeats 4000000 in
theorem w_X8_why_34 {p : Program} {l : Launch} {e : Env} {s : State} {m : MethodId} {args : Array Value} {below : List Frame} {meth : Method} {c : Code} {D : va_G} {cy : Nat → ClassId} {ad : Nat → Nat} {A : Nat → Prop} {z : (Int32 × tmM)} (C0 : tmC p s m args meth c cX8_why 4 (some .int) RX8 TMW tm_NWR D cy tm_shR ad 13 [] A) (x1 x2 s0 : Int32) (v : tmM) : tmG p l e ({ frames := 6, cells := 0, slots := 0, locals := 134 } : Room) s m args below meth c 0 0 (MQ below (va_Qi (fun r u => z = (r, u)) (tmAt tm_shR 13 D cy ad A) A) args s 0 0 A) 4 D cy tm_shR ad 13 [] A z 34 [(0, .ref (ad 0)), (1, .int x1), (2, .int x2)] [.int s0] v (f_X8_why_34 x1 x2 s0 v) := by
  unfold f_X8_why_34
  refine tg_istore_n [(3, .int s0), (0, .ref (ad 0)), (1, .int x1), (2, .int x2)] C0 dX8_why_34 rfl (by decide) rfl ?_
  refine tg_aload_n 1 C0 dX8_why_35 rfl rfl ?_
  refine tg_iload_n 2 C0 dX8_why_36 rfl rfl ?_
  refine tg_iconst (x := 0) C0 dX8_why_37 (by decide) ?_
  refine tg_bipush (x := 10) C0 dX8_why_38 (by decide) ?_
  refine tg_callSi (As := [.int x1, .int 0, .int 10]) 3 C0 dX8_why_40 (c_X8_in l x1 0 10 v) rfl rfl (tm_gc tc_X8_in) tl_X8_63 tn_X8 tst_X8_in  rfl rfl rfl rfl (by decide +kernel) ⟨by decide, by decide⟩ (Nat.le_of_ble_eq_true rfl) ⟨by decide, by decide⟩ (fun r4 v3 _ => ?_)
  refine tg_if_eq 54 C0 dX8_why_43 (by decide) (fun _ => ?_) (fun _ => ?_)
  · refine tg_sub [1, 2, 3] rfl ?_
    exact w_X8_why_54 C0 x1 x2 v3
  · refine tg_iload_n 0 C0 dX8_why_46 rfl rfl ?_
    refine tg_if_eq 54 C0 dX8_why_47 (by decide) (fun _ => ?_) (fun _ => ?_)
    · refine tg_sub [1, 2, 3] rfl ?_
      exact w_X8_why_54 C0 x1 x2 v3
    · refine tg_iconst (x := 0) C0 dX8_why_50 (by decide) ?_
      refine tg_goto 55 C0 dX8_why_51 (by decide) ?_
      refine tg_sub [1, 2, 3] rfl ?_
      exact w_X8_why_55 C0 x1 x2 0 v3
def f_X8_why_29 (x1 x2 : Int32) (v : tmM) : Option (Int32 × tmM) := f_X8_why_34 x1 x2 1 v
set_option maxRecDepth 100000 in
set_option maxHeartbeats 4000000 in
theorem w_X8_why_29 {p : Program} {l : Launch} {e : Env} {s : State} {m : MethodId} {args : Array Value} {below : List Frame} {meth : Method} {c : Code} {D : va_G} {cy : Nat → ClassId} {ad : Nat → Nat} {A : Nat → Prop} {z : (Int32 × tmM)} (C0 : tmC p s m args meth c cX8_why 4 (some .int) RX8 TMW tm_NWR D cy tm_shR ad 13 [] A) (x1 x2 : Int32) (v : tmM) : tmG p l e ({ frames := 6, cells := 0, slots := 0, locals := 134 } : Room) s m args below meth c 0 0 (MQ below (va_Qi (fun r u => z = (r, u)) (tmAt tm_shR 13 D cy ad A) A) args s 0 0 A) 4 D cy tm_shR ad 13 [] A z 29 [(0, .ref (ad 0)), (1, .int x1), (2, .int x2)] [] v (f_X8_why_29 x1 x2 v) := by
  unfold f_X8_why_29
  refine tg_iconst (x := 1) C0 dX8_why_29 (by decide) ?_
  refine tg_goto 34 C0 dX8_why_30 (by decide) ?_
  exact w_X8_why_34 C0 x1 x2 1 v
def f_X8_why_22 (x1 x2 : Int32) (v : tmM) : Option (Int32 × tmM) := tm_cl (f_X8_isReader x2 v) fun r2 v1 => (if r2 = 0 then f_X8_why_34 x1 x2 0 v1 else f_X8_why_29 x1 x2 v1)
set_option maxRecDepth 100000 in
set_option maxHeartbeats 4000000 in
theorem w_X8_why_22 {p : Program} {l : Launch} {e : Env} {s : State} {m : MethodId} {args : Array Value} {below : List Frame} {meth : Method} {c : Code} {D : va_G} {cy : Nat → ClassId} {ad : Nat → Nat} {A : Nat → Prop} {z : (Int32 × tmM)} (C0 : tmC p s m args meth c cX8_why 4 (some .int) RX8 TMW tm_NWR D cy tm_shR ad 13 [] A) (x1 x2 : Int32) (v : tmM) : tmG p l e ({ frames := 6, cells := 0, slots := 0, locals := 134 } : Room) s m args below meth c 0 0 (MQ below (va_Qi (fun r u => z = (r, u)) (tmAt tm_shR 13 D cy ad A) A) args s 0 0 A) 4 D cy tm_shR ad 13 [] A z 22 [(0, .ref (ad 0)), (1, .int x1), (2, .int x2)] [] v (f_X8_why_22 x1 x2 v) := by
  unfold f_X8_why_22
  refine tg_iload_n 2 C0 dX8_why_22 rfl rfl ?_
  refine tg_callSi (As := [.int x2]) 1 C0 dX8_why_23 (c_X8_isReader l x2 v) rfl rfl (tm_gc tc_X8_isReader) tl_X8_125 tn_X8 tst_X8_isReader  rfl rfl rfl rfl (by decide +kernel) ⟨by decide, by decide⟩ (Nat.le_of_ble_eq_true rfl) ⟨by decide, by decide⟩ (fun r2 v1 _ => ?_)
  refine tg_if_eq 33 C0 dX8_why_26 (by decide) (fun _ => ?_) (fun _ => ?_)
  · refine tg_iconst (x := 0) C0 dX8_why_33 (by decide) ?_
    exact w_X8_why_34 C0 x1 x2 0 v1
  · exact w_X8_why_29 C0 x1 x2 v1
def f_X8_why (x1 x2 : Int32) (v : tmM) : Option (Int32 × tmM) := (if x1 = 3 then tm_cl (f_X8_isChunk x2 v) fun r40 v39 => f_X8_why_34 x1 x2 r40 v39 else (if x1 = 4 then f_X8_why_22 x1 x2 v else (if x1 = 5 then f_X8_why_22 x1 x2 v else f_X8_why_29 x1 x2 v)))
set_option maxRecDepth 100000 in
set_option maxHeartbeats 4000000 in
theorem w_X8_why {p : Program} {l : Launch} {e : Env} {s : State} {m : MethodId} {args : Array Value} {below : List Frame} {meth : Method} {c : Code} {D : va_G} {cy : Nat → ClassId} {ad : Nat → Nat} {A : Nat → Prop} {z : (Int32 × tmM)} (C0 : tmC p s m args meth c cX8_why 4 (some .int) RX8 TMW tm_NWR D cy tm_shR ad 13 [] A) (x1 x2 : Int32) (v : tmM) : tmG p l e ({ frames := 6, cells := 0, slots := 0, locals := 134 } : Room) s m args below meth c 0 0 (MQ below (va_Qi (fun r u => z = (r, u)) (tmAt tm_shR 13 D cy ad A) A) args s 0 0 A) 4 D cy tm_shR ad 13 [] A z 0 [(0, .ref (ad 0)), (1, .int x1), (2, .int x2)] [] v (f_X8_why x1 x2 v) := by
  unfold f_X8_why
  refine tg_iload_n 1 C0 dX8_why_0 rfl rfl ?_
  refine tg_iconst (x := 3) C0 dX8_why_1 (by decide) ?_
  refine tg_icmp_ne 12 C0 dX8_why_2 (by decide) (fun _ => ?_) (fun _ => ?_)
  · refine tg_iload_n 1 C0 dX8_why_12 rfl rfl ?_
    refine tg_iconst (x := 4) C0 dX8_why_13 (by decide) ?_
    refine tg_icmp_eq 22 C0 dX8_why_14 (by decide) (fun _ => ?_) (fun _ => ?_)
    · exact w_X8_why_22 C0 x1 x2 v
    · refine tg_iload_n 1 C0 dX8_why_17 rfl rfl ?_
      refine tg_iconst (x := 5) C0 dX8_why_18 (by decide) ?_
      refine tg_icmp_ne 29 C0 dX8_why_19 (by decide) (fun _ => ?_) (fun _ => ?_)
      · exact w_X8_why_29 C0 x1 x2 v
      · exact w_X8_why_22 C0 x1 x2 v
  · refine tg_iload_n 2 C0 dX8_why_5 rfl rfl ?_
    refine tg_callSi (As := [.int x2]) 1 C0 dX8_why_6 (c_X8_isChunk l x2 v) rfl rfl (tm_gc tc_X8_isChunk) tl_X8_131 tn_X8 tst_X8_isChunk  rfl rfl rfl rfl (by decide +kernel) ⟨by decide, by decide⟩ (Nat.le_of_ble_eq_true rfl) ⟨by decide, by decide⟩ (fun r40 v39 _ => ?_)
    refine tg_goto 34 C0 dX8_why_9 (by decide) ?_
    exact w_X8_why_34 C0 x1 x2 r40 v39
theorem c_X8_why (l : Launch) (x1 x2 : Int32) (v : tmM) : tmMi tm_NWR tm_shR 13 l yX8_why (Cond.code yX8_why cX8_why 4 (some .int) :: TMW) ({ frames := 6, cells := 0, slots := 0, locals := 134 } : Room) (fun ad => [.ref (ad 0), .int x1, .int x2]) v (f_X8_why x1 x2 v) :=
  tmMi.of (cc := cX8_why) (nL := 4) (by decide +kernel) rfl tm_NWR_ok (fun _ => Nat.le_of_ble_eq_true rfl) (fun p e s m args below meth c A D cy ad z C0 => w_X8_why C0 x1 x2 v)
-- ----- X8_lowestOut
theorem dX8_lowestOut_0 : decode cX8_lowestOut 0 = .ok (.iconst 0, 1) := by decide +kernel
theorem dX8_lowestOut_1 : decode cX8_lowestOut 1 = .ok (.istore_n 1, 1) := by decide +kernel
theorem dX8_lowestOut_2 : decode cX8_lowestOut 2 = .ok (.iload_n 0, 1) := by decide +kernel
theorem dX8_lowestOut_3 : decode cX8_lowestOut 3 = .ok (.iload_n 1, 1) := by decide +kernel
theorem dX8_lowestOut_4 : decode cX8_lowestOut 4 = .ok (.invokestatic 59, 3) := by decide +kernel
theorem dX8_lowestOut_7 : decode cX8_lowestOut 7 = .ok (.ifCond .eq 9, 3) := by decide +kernel
theorem dX8_lowestOut_10 : decode cX8_lowestOut 10 = .ok (.iinc 1 1, 3) := by decide +kernel
theorem dX8_lowestOut_13 : decode cX8_lowestOut 13 = .ok (.goto (-11), 3) := by decide +kernel
theorem dX8_lowestOut_16 : decode cX8_lowestOut 16 = .ok (.iload_n 1, 1) := by decide +kernel
theorem dX8_lowestOut_17 : decode cX8_lowestOut 17 = .ok (.ireturn, 1) := by decide +kernel
def f_X8_lowestOut_2b (K0 : Int32 → tmM → Option (Int32 × tmM)) (L : Int32 → Int32 → tmM → Option (Int32 × tmM)) (x0 x1 : Int32) (v : tmM) : Option (Int32 × tmM) := tm_cl (f_X8_has x0 x1 v) fun r2 v1 => (if r2 = 0 then K0 x1 v1 else L x0 (x1 + 1) v1)
set_option maxRecDepth 100000 in
set_option maxHeartbeats 4000000 in
theorem w_X8_lowestOut_2b {p : Program} {l : Launch} {e : Env} {s : State} {m : MethodId} {args : Array Value} {below : List Frame} {meth : Method} {c : Code} {D : va_G} {cy : Nat → ClassId} {ad : Nat → Nat} {A : Nat → Prop} {z : (Int32 × tmM)} {K0 : Int32 → tmM → Option (Int32 × tmM)} {L : Int32 → Int32 → tmM → Option (Int32 × tmM)} (C0 : tmC p s m args meth c cX8_lowestOut 2 (some .int) RX8 TMW tm_NWR D cy tm_shR ad 13 [] A) (hK0 : ∀ (a1 : Int32) (w : tmM), tmG p l e ({ frames := 1, cells := 0, slots := 0, locals := 21 } : Room) s m args below meth c 0 0 (MQ below (va_Qi (fun r u => z = (r, u)) (tmAt tm_shR 13 D cy ad A) A) args s 0 0 A) 2 D cy tm_shR ad 13 [] A z 16 [(1, .int a1)] [] w (K0 a1 w)) (hL : ∀ (a0 a1 : Int32) (w : tmM), tmG p l e ({ frames := 1, cells := 0, slots := 0, locals := 21 } : Room) s m args below meth c 0 0 (MQ below (va_Qi (fun r u => z = (r, u)) (tmAt tm_shR 13 D cy ad A) A) args s 0 0 A) 2 D cy tm_shR ad 13 [] A z 2 [(0, .int a0), (1, .int a1)] [] w (L a0 a1 w)) (x0 x1 : Int32) (v : tmM) : tmG p l e ({ frames := 1, cells := 0, slots := 0, locals := 21 } : Room) s m args below meth c 0 0 (MQ below (va_Qi (fun r u => z = (r, u)) (tmAt tm_shR 13 D cy ad A) A) args s 0 0 A) 2 D cy tm_shR ad 13 [] A z 2 [(0, .int x0), (1, .int x1)] [] v (f_X8_lowestOut_2b K0 L x0 x1 v) := by
  unfold f_X8_lowestOut_2b
  refine tg_iload_n 0 C0 dX8_lowestOut_2 rfl rfl ?_
  refine tg_iload_n 1 C0 dX8_lowestOut_3 rfl rfl ?_
  refine tg_callSi (As := [.int x0, .int x1]) 2 C0 dX8_lowestOut_4 (c_X8_has l x0 x1 v) rfl rfl (tm_gc tc_X8_has) tl_X8_59 tn_X8 tst_X8_has  rfl rfl rfl rfl (by decide +kernel) ⟨by decide, by decide⟩ (Nat.le_of_ble_eq_true rfl) ⟨by decide, by decide⟩ (fun r2 v1 _ => ?_)
  refine tg_if_eq 16 C0 dX8_lowestOut_7 (by decide) (fun _ => ?_) (fun _ => ?_)
  · refine tg_sub [1] rfl ?_
    exact hK0 x1 v1
  · refine tg_iinc [(1, .int (x1 + 1)), (0, .int x0)] 1 C0 dX8_lowestOut_10 rfl rfl (by decide) rfl ?_
    refine tg_goto 2 C0 dX8_lowestOut_13 (by decide) ?_
    refine tg_sub [1, 0] rfl ?_
    exact hL x0 (x1 + 1) v1
def f_X8_lowestOut_2 (K0 : Int32 → tmM → Option (Int32 × tmM)) : Nat → Int32 → Int32 → tmM → Option (Int32 × tmM)
  | 0 => fun _ _ _ => none
  | n + 1 => f_X8_lowestOut_2b K0 (f_X8_lowestOut_2 K0 n)
theorem w_X8_lowestOut_2 {p : Program} {l : Launch} {e : Env} {s : State} {m : MethodId} {args : Array Value} {below : List Frame} {meth : Method} {c : Code} {D : va_G} {cy : Nat → ClassId} {ad : Nat → Nat} {A : Nat → Prop} {z : (Int32 × tmM)} {K0 : Int32 → tmM → Option (Int32 × tmM)} (C0 : tmC p s m args meth c cX8_lowestOut 2 (some .int) RX8 TMW tm_NWR D cy tm_shR ad 13 [] A) (hK0 : ∀ (a1 : Int32) (w : tmM), tmG p l e ({ frames := 1, cells := 0, slots := 0, locals := 21 } : Room) s m args below meth c 0 0 (MQ below (va_Qi (fun r u => z = (r, u)) (tmAt tm_shR 13 D cy ad A) A) args s 0 0 A) 2 D cy tm_shR ad 13 [] A z 16 [(1, .int a1)] [] w (K0 a1 w)) (nn : Nat) : ∀ (x0 x1 : Int32) (v : tmM), tmG p l e ({ frames := 1, cells := 0, slots := 0, locals := 21 } : Room) s m args below meth c 0 0 (MQ below (va_Qi (fun r u => z = (r, u)) (tmAt tm_shR 13 D cy ad A) A) args s 0 0 A) 2 D cy tm_shR ad 13 [] A z 2 [(0, .int x0), (1, .int x1)] [] v (f_X8_lowestOut_2 K0 nn x0 x1 v) := by
  induction nn with
  | zero => intro _ _ _; exact tg_none
  | succ n ih => intro x0 x1 v; exact w_X8_lowestOut_2b C0 hK0 ih x0 x1 v
def f_X8_lowestOut (x0 : Int32) (v : tmM) : Option (Int32 × tmM) := f_X8_lowestOut_2 (fun x3 v4 => some (x3, v4)) 10000 x0 0 v
set_option maxRecDepth 100000 in
set_option maxHeartbeats 4000000 in
theorem w_X8_lowestOut {p : Program} {l : Launch} {e : Env} {s : State} {m : MethodId} {args : Array Value} {below : List Frame} {meth : Method} {c : Code} {D : va_G} {cy : Nat → ClassId} {ad : Nat → Nat} {A : Nat → Prop} {z : (Int32 × tmM)} (C0 : tmC p s m args meth c cX8_lowestOut 2 (some .int) RX8 TMW tm_NWR D cy tm_shR ad 13 [] A) (x0 : Int32) (v : tmM) : tmG p l e ({ frames := 1, cells := 0, slots := 0, locals := 21 } : Room) s m args below meth c 0 0 (MQ below (va_Qi (fun r u => z = (r, u)) (tmAt tm_shR 13 D cy ad A) A) args s 0 0 A) 2 D cy tm_shR ad 13 [] A z 0 [(0, .int x0)] [] v (f_X8_lowestOut x0 v) := by
  unfold f_X8_lowestOut
  refine tg_iconst (x := 0) C0 dX8_lowestOut_0 (by decide) ?_
  refine tg_istore_n [(1, .int 0), (0, .int x0)] C0 dX8_lowestOut_1 rfl (by decide) rfl ?_
  refine tg_sub [1, 0] rfl ?_
  refine w_X8_lowestOut_2 C0 (fun x3 v4 => ?_) 10000 x0 0 v
  refine tg_iload_n 0 C0 dX8_lowestOut_16 rfl rfl ?_
  exact tg_iret C0 dX8_lowestOut_17
theorem c_X8_lowestOut (l : Launch) (x0 : Int32) (v : tmM) : tmMi tm_NWR tm_shR 13 l yX8_lowestOut (Cond.code yX8_lowestOut cX8_lowestOut 2 (some .int) :: TMW) ({ frames := 1, cells := 0, slots := 0, locals := 21 } : Room) (fun ad => [.int x0]) v (f_X8_lowestOut x0 v) :=
  tmMi.of (cc := cX8_lowestOut) (nL := 2) (by decide +kernel) rfl tm_NWR_ok (fun _ => Nat.le_of_ble_eq_true rfl) (fun p e s m args below meth c A D cy ad z C0 => w_X8_lowestOut C0 x0 v)
