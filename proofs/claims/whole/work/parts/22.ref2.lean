-- ----- X8_nextDouble
theorem dX8_nextDouble_0 : decode cX8_nextDouble 0 = .ok (.aload_n 0, 1) := by decide +kernel
theorem dX8_nextDouble_1 : decode cX8_nextDouble 1 = .ok (.getfield 7, 3) := by decide +kernel
theorem dX8_nextDouble_4 : decode cX8_nextDouble 4 = .ok (.bipush 7, 2) := by decide +kernel
theorem dX8_nextDouble_6 : decode cX8_nextDouble 6 = .ok (.iaload, 1) := by decide +kernel
theorem dX8_nextDouble_7 : decode cX8_nextDouble 7 = .ok (.ifCond .le 7, 3) := by decide +kernel
theorem dX8_nextDouble_10 : decode cX8_nextDouble 10 = .ok (.iconst 2, 1) := by decide +kernel
theorem dX8_nextDouble_11 : decode cX8_nextDouble 11 = .ok (.goto 53, 3) := by decide +kernel
theorem dX8_nextDouble_14 : decode cX8_nextDouble 14 = .ok (.aload_n 0, 1) := by decide +kernel
theorem dX8_nextDouble_15 : decode cX8_nextDouble 15 = .ok (.getfield 7, 3) := by decide +kernel
theorem dX8_nextDouble_18 : decode cX8_nextDouble 18 = .ok (.iconst 3, 1) := by decide +kernel
theorem dX8_nextDouble_19 : decode cX8_nextDouble 19 = .ok (.iaload, 1) := by decide +kernel
theorem dX8_nextDouble_20 : decode cX8_nextDouble 20 = .ok (.sipush 32767, 3) := by decide +kernel
theorem dX8_nextDouble_23 : decode cX8_nextDouble 23 = .ok (.if_icmp .eq 7, 3) := by decide +kernel
theorem dX8_nextDouble_26 : decode cX8_nextDouble 26 = .ok (.iconst 1, 1) := by decide +kernel
theorem dX8_nextDouble_27 : decode cX8_nextDouble 27 = .ok (.goto 37, 3) := by decide +kernel
theorem dX8_nextDouble_30 : decode cX8_nextDouble 30 = .ok (.aload_n 0, 1) := by decide +kernel
theorem dX8_nextDouble_31 : decode cX8_nextDouble 31 = .ok (.getfield 7, 3) := by decide +kernel
theorem dX8_nextDouble_34 : decode cX8_nextDouble 34 = .ok (.iconst 4, 1) := by decide +kernel
theorem dX8_nextDouble_35 : decode cX8_nextDouble 35 = .ok (.iaload, 1) := by decide +kernel
theorem dX8_nextDouble_36 : decode cX8_nextDouble 36 = .ok (.sipush 32767, 3) := by decide +kernel
theorem dX8_nextDouble_39 : decode cX8_nextDouble 39 = .ok (.if_icmp .eq 7, 3) := by decide +kernel
theorem dX8_nextDouble_42 : decode cX8_nextDouble 42 = .ok (.iconst 3, 1) := by decide +kernel
theorem dX8_nextDouble_43 : decode cX8_nextDouble 43 = .ok (.goto 21, 3) := by decide +kernel
theorem dX8_nextDouble_46 : decode cX8_nextDouble 46 = .ok (.aload_n 0, 1) := by decide +kernel
theorem dX8_nextDouble_47 : decode cX8_nextDouble 47 = .ok (.getfield 7, 3) := by decide +kernel
theorem dX8_nextDouble_50 : decode cX8_nextDouble 50 = .ok (.iconst 5, 1) := by decide +kernel
theorem dX8_nextDouble_51 : decode cX8_nextDouble 51 = .ok (.iaload, 1) := by decide +kernel
theorem dX8_nextDouble_52 : decode cX8_nextDouble 52 = .ok (.sipush 255, 3) := by decide +kernel
theorem dX8_nextDouble_55 : decode cX8_nextDouble 55 = .ok (.if_icmp .eq 7, 3) := by decide +kernel
theorem dX8_nextDouble_58 : decode cX8_nextDouble 58 = .ok (.iconst 4, 1) := by decide +kernel
theorem dX8_nextDouble_59 : decode cX8_nextDouble 59 = .ok (.goto 5, 3) := by decide +kernel
theorem dX8_nextDouble_62 : decode cX8_nextDouble 62 = .ok (.bipush 6, 2) := by decide +kernel
theorem dX8_nextDouble_64 : decode cX8_nextDouble 64 = .ok (.ireturn, 1) := by decide +kernel
def f_X8_nextDouble (v : tmM) : Option (Int32 × tmM) := tm_g (tm_ix 7 491) ((if (v 1 (7 : Int32).toNatClampNeg) ≤ 0 then tm_g (tm_ix 3 491) ((if (v 1 (3 : Int32).toNatClampNeg) = 32767 then tm_g (tm_ix 4 491) ((if (v 1 (4 : Int32).toNatClampNeg) = 32767 then tm_g (tm_ix 5 491) ((if (v 1 (5 : Int32).toNatClampNeg) = 255 then some (6, v) else some (4, v))) else some (3, v))) else some (1, v))) else some (2, v)))
set_option maxRecDepth 100000 in
set_option maxHeartbeats 4000000 in
theorem w_X8_nextDouble {p : Program} {l : Launch} {e : Env} {s : State} {m : MethodId} {args : Array Value} {below : List Frame} {meth : Method} {c : Code} {D : va_G} {cy : Nat → ClassId} {ad : Nat → Nat} {A : Nat → Prop} {z : (Int32 × tmM)} (C0 : tmC p s m args meth c cX8_nextDouble 1 (some .int) RX8 TMW tm_NWR D cy tm_shR ad 13 [] A) (v : tmM) : tmG p l e ({ frames := 0, cells := 0, slots := 0, locals := 0 } : Room) s m args below meth c 0 0 (MQ below (va_Qi (fun r u => z = (r, u)) (tmAt tm_shR 13 D cy ad A) A) args s 0 0 A) 1 D cy tm_shR ad 13 [] A z 0 [(0, .ref (ad 0))] [] v (f_X8_nextDouble v) := by
  unfold f_X8_nextDouble
  refine tg_aload_n 0 C0 dX8_nextDouble_0 rfl rfl ?_
  refine tg_get 0 1 C0 dX8_nextDouble_1 (by decide) rfl rfl tu_X8 (by decide) tf_X8_7 rfl rfl rfl ?_
  refine tg_bipush (x := 7) C0 dX8_nextDouble_4 (by decide) ?_
  refine tg_iald 1 C0 dX8_nextDouble_6 (by decide) rfl (fun _ => ?_)
  refine tg_if_le 14 C0 dX8_nextDouble_7 (by decide) (fun _ => ?_) (fun _ => ?_)
  · refine tg_aload_n 0 C0 dX8_nextDouble_14 rfl rfl ?_
    refine tg_get 0 1 C0 dX8_nextDouble_15 (by decide) rfl rfl tu_X8 (by decide) tf_X8_7 rfl rfl rfl ?_
    refine tg_iconst (x := 3) C0 dX8_nextDouble_18 (by decide) ?_
    refine tg_iald 1 C0 dX8_nextDouble_19 (by decide) rfl (fun _ => ?_)
    refine tg_sipush (x := 32767) C0 dX8_nextDouble_20 (by decide) ?_
    refine tg_icmp_eq 30 C0 dX8_nextDouble_23 (by decide) (fun _ => ?_) (fun _ => ?_)
    · refine tg_aload_n 0 C0 dX8_nextDouble_30 rfl rfl ?_
      refine tg_get 0 1 C0 dX8_nextDouble_31 (by decide) rfl rfl tu_X8 (by decide) tf_X8_7 rfl rfl rfl ?_
      refine tg_iconst (x := 4) C0 dX8_nextDouble_34 (by decide) ?_
      refine tg_iald 1 C0 dX8_nextDouble_35 (by decide) rfl (fun _ => ?_)
      refine tg_sipush (x := 32767) C0 dX8_nextDouble_36 (by decide) ?_
      refine tg_icmp_eq 46 C0 dX8_nextDouble_39 (by decide) (fun _ => ?_) (fun _ => ?_)
      · refine tg_aload_n 0 C0 dX8_nextDouble_46 rfl rfl ?_
        refine tg_get 0 1 C0 dX8_nextDouble_47 (by decide) rfl rfl tu_X8 (by decide) tf_X8_7 rfl rfl rfl ?_
        refine tg_iconst (x := 5) C0 dX8_nextDouble_50 (by decide) ?_
        refine tg_iald 1 C0 dX8_nextDouble_51 (by decide) rfl (fun _ => ?_)
        refine tg_sipush (x := 255) C0 dX8_nextDouble_52 (by decide) ?_
        refine tg_icmp_eq 62 C0 dX8_nextDouble_55 (by decide) (fun _ => ?_) (fun _ => ?_)
        · refine tg_bipush (x := 6) C0 dX8_nextDouble_62 (by decide) ?_
          exact tg_iret C0 dX8_nextDouble_64
        · refine tg_iconst (x := 4) C0 dX8_nextDouble_58 (by decide) ?_
          refine tg_goto 64 C0 dX8_nextDouble_59 (by decide) ?_
          exact tg_iret C0 dX8_nextDouble_64
      · refine tg_iconst (x := 3) C0 dX8_nextDouble_42 (by decide) ?_
        refine tg_goto 64 C0 dX8_nextDouble_43 (by decide) ?_
        exact tg_iret C0 dX8_nextDouble_64
    · refine tg_iconst (x := 1) C0 dX8_nextDouble_26 (by decide) ?_
      refine tg_goto 64 C0 dX8_nextDouble_27 (by decide) ?_
      exact tg_iret C0 dX8_nextDouble_64
  · refine tg_iconst (x := 2) C0 dX8_nextDouble_10 (by decide) ?_
    refine tg_goto 64 C0 dX8_nextDouble_11 (by decide) ?_
    exact tg_iret C0 dX8_nextDouble_64
theorem c_X8_nextDouble (l : Launch) (v : tmM) : tmMi tm_NWR tm_shR 13 l yX8_nextDouble (Cond.code yX8_nextDouble cX8_nextDouble 1 (some .int) :: TMW) ({ frames := 0, cells := 0, slots := 0, locals := 0 } : Room) (fun ad => [.ref (ad 0)]) v (f_X8_nextDouble v) :=
  tmMi.of (cc := cX8_nextDouble) (nL := 1) (by decide +kernel) rfl tm_NWR_ok (fun _ => Nat.le_of_ble_eq_true rfl) (fun p e s m args below meth c A D cy ad z C0 => w_X8_nextDouble C0 v)
-- ----- X8_nextAct
theorem dX8_nextAct_0 : decode cX8_nextAct 0 = .ok (.aload_n 0, 1) := by decide +kernel
theorem dX8_nextAct_1 : decode cX8_nextAct 1 = .ok (.getfield 7, 3) := by decide +kernel
theorem dX8_nextAct_4 : decode cX8_nextAct 4 = .ok (.iconst 0, 1) := by decide +kernel
theorem dX8_nextAct_5 : decode cX8_nextAct 5 = .ok (.iaload, 1) := by decide +kernel
theorem dX8_nextAct_6 : decode cX8_nextAct 6 = .ok (.tableswitch 50 0 2 #[26, 28, 33], 26) := by decide +kernel
theorem dX8_nextAct_32 : decode cX8_nextAct 32 = .ok (.iconst 0, 1) := by decide +kernel
theorem dX8_nextAct_33 : decode cX8_nextAct 33 = .ok (.ireturn, 1) := by decide +kernel
theorem dX8_nextAct_34 : decode cX8_nextAct 34 = .ok (.aload_n 0, 1) := by decide +kernel
theorem dX8_nextAct_35 : decode cX8_nextAct 35 = .ok (.invokevirtual 244, 3) := by decide +kernel
theorem dX8_nextAct_38 : decode cX8_nextAct 38 = .ok (.ireturn, 1) := by decide +kernel
theorem dX8_nextAct_39 : decode cX8_nextAct 39 = .ok (.aload_n 0, 1) := by decide +kernel
theorem dX8_nextAct_40 : decode cX8_nextAct 40 = .ok (.getfield 7, 3) := by decide +kernel
theorem dX8_nextAct_43 : decode cX8_nextAct 43 = .ok (.bipush 7, 2) := by decide +kernel
theorem dX8_nextAct_45 : decode cX8_nextAct 45 = .ok (.iaload, 1) := by decide +kernel
theorem dX8_nextAct_46 : decode cX8_nextAct 46 = .ok (.ifCond .le 7, 3) := by decide +kernel
theorem dX8_nextAct_49 : decode cX8_nextAct 49 = .ok (.iconst 2, 1) := by decide +kernel
theorem dX8_nextAct_50 : decode cX8_nextAct 50 = .ok (.goto 5, 3) := by decide +kernel
theorem dX8_nextAct_53 : decode cX8_nextAct 53 = .ok (.bipush 10, 2) := by decide +kernel
theorem dX8_nextAct_55 : decode cX8_nextAct 55 = .ok (.ireturn, 1) := by decide +kernel
theorem dX8_nextAct_56 : decode cX8_nextAct 56 = .ok (.iconst (-1), 1) := by decide +kernel
theorem dX8_nextAct_57 : decode cX8_nextAct 57 = .ok (.ireturn, 1) := by decide +kernel
theorem tl_X8_244 : Cond.methodLink RX8 244 yX8_nextDouble ∈ TMW := tm_in 1983 (by decide +kernel) (by decide +kernel)
theorem ti_X8_nextDouble : Cond.instanceMethod yX8_nextDouble ∈ TMW := tm_in 1985 (by decide +kernel) (by decide +kernel)
theorem ts_X8_nextDouble : Cond.selects RX8 yX8_nextDouble yX8_nextDouble ∈ TMW := tm_in 89 (by decide +kernel) (by decide +kernel)
theorem tc_X8_nextDouble : Cond.code yX8_nextDouble cX8_nextDouble 1 (some .int) ∈ TMW := tm_in 1986 (by decide +kernel) (by decide +kernel)
def f_X8_nextAct (v : tmM) : Option (Int32 × tmM) := tm_g (tm_ix 0 491) (tm_lt (v 1 (0 : Int32).toNatClampNeg) fun y1 => (if y1 = 0 then some (0, v) else if y1 = 1 then tm_cl (f_X8_nextDouble v) fun r4 v3 => some (r4, v3) else if y1 = 2 then tm_g (tm_ix 7 491) ((if (v 1 (7 : Int32).toNatClampNeg) ≤ 0 then some (10, v) else some (2, v))) else some ((-1), v)))
set_option maxRecDepth 100000 in
set_option maxHeartbeats 4000000 in
theorem w_X8_nextAct {p : Program} {l : Launch} {e : Env} {s : State} {m : MethodId} {args : Array Value} {below : List Frame} {meth : Method} {c : Code} {D : va_G} {cy : Nat → ClassId} {ad : Nat → Nat} {A : Nat → Prop} {z : (Int32 × tmM)} (C0 : tmC p s m args meth c cX8_nextAct 1 (some .int) RX8 TMW tm_NWR D cy tm_shR ad 13 [] A) (v : tmM) : tmG p l e ({ frames := 1, cells := 0, slots := 0, locals := 20 } : Room) s m args below meth c 0 0 (MQ below (va_Qi (fun r u => z = (r, u)) (tmAt tm_shR 13 D cy ad A) A) args s 0 0 A) 1 D cy tm_shR ad 13 [] A z 0 [(0, .ref (ad 0))] [] v (f_X8_nextAct v) := by
  unfold f_X8_nextAct
  refine tg_aload_n 0 C0 dX8_nextAct_0 rfl rfl ?_
  refine tg_get 0 1 C0 dX8_nextAct_1 (by decide) rfl rfl tu_X8 (by decide) tf_X8_7 rfl rfl rfl ?_
  refine tg_iconst (x := 0) C0 dX8_nextAct_4 (by decide) ?_
  refine tg_iald 1 C0 dX8_nextAct_5 (by decide) rfl (fun _ => ?_)
  refine tg_leti (fun y1 _ => ?_)
  refine tg_tab 0 (cst := 0) 32 tg_tab0 C0 dX8_nextAct_6 (by decide) rfl (by decide) (by decide) (fun _ => ?_) (fun h2 => ?_)
  · refine tg_iconst (x := 0) C0 dX8_nextAct_32 (by decide) ?_
    exact tg_iret C0 dX8_nextAct_33
  refine tg_tab 1 (cst := 1) 34 h2 C0 dX8_nextAct_6 (by decide) rfl (by decide) (by decide) (fun _ => ?_) (fun h5 => ?_)
  · refine tg_aload_n 0 C0 dX8_nextAct_34 rfl rfl ?_
    refine tg_callVi (As := []) 0 0 C0 dX8_nextAct_35 (c_X8_nextDouble l v) rfl rfl (by decide) rfl rfl (tm_gV tl_X8_244 ti_X8_nextDouble ts_X8_nextDouble tn_X8 tc_X8_nextDouble)  rfl rfl rfl rfl (by decide +kernel) ⟨by decide, by decide⟩ (Nat.le_of_ble_eq_true rfl) ⟨by decide, by decide⟩ (fun r4 v3 _ => ?_)
    exact tg_iret C0 dX8_nextAct_38
  refine tg_tab 2 (cst := 2) 39 h5 C0 dX8_nextAct_6 (by decide) rfl (by decide) (by decide) (fun _ => ?_) (fun h6 => ?_)
  · refine tg_aload_n 0 C0 dX8_nextAct_39 rfl rfl ?_
    refine tg_get 0 1 C0 dX8_nextAct_40 (by decide) rfl rfl tu_X8 (by decide) tf_X8_7 rfl rfl rfl ?_
    refine tg_bipush (x := 7) C0 dX8_nextAct_43 (by decide) ?_
    refine tg_iald 1 C0 dX8_nextAct_45 (by decide) rfl (fun _ => ?_)
    refine tg_if_le 53 C0 dX8_nextAct_46 (by decide) (fun _ => ?_) (fun _ => ?_)
    · refine tg_bipush (x := 10) C0 dX8_nextAct_53 (by decide) ?_
      exact tg_iret C0 dX8_nextAct_55
    · refine tg_iconst (x := 2) C0 dX8_nextAct_49 (by decide) ?_
      refine tg_goto 55 C0 dX8_nextAct_50 (by decide) ?_
      exact tg_iret C0 dX8_nextAct_55
  refine tg_tabO 3 56 h6 C0 dX8_nextAct_6 (by decide) (by decide) ?_
  refine tg_iconst (x := (-1)) C0 dX8_nextAct_56 (by decide) ?_
  exact tg_iret C0 dX8_nextAct_57
theorem c_X8_nextAct (l : Launch) (v : tmM) : tmMi tm_NWR tm_shR 13 l yX8_nextAct (Cond.code yX8_nextAct cX8_nextAct 1 (some .int) :: TMW) ({ frames := 1, cells := 0, slots := 0, locals := 20 } : Room) (fun ad => [.ref (ad 0)]) v (f_X8_nextAct v) :=
  tmMi.of (cc := cX8_nextAct) (nL := 1) (by decide +kernel) rfl tm_NWR_ok (fun _ => Nat.le_of_ble_eq_true rfl) (fun p e s m args below meth c A D cy ad z C0 => w_X8_nextAct C0 v)
-- ----- X8_nextNumber
theorem dX8_nextNumber_0 : decode cX8_nextNumber 0 = .ok (.aload_n 0, 1) := by decide +kernel
theorem dX8_nextNumber_1 : decode cX8_nextNumber 1 = .ok (.invokevirtual 247, 3) := by decide +kernel
theorem dX8_nextNumber_4 : decode cX8_nextNumber 4 = .ok (.iconst 3, 1) := by decide +kernel
theorem dX8_nextNumber_5 : decode cX8_nextNumber 5 = .ok (.if_icmp .ne 15, 3) := by decide +kernel
theorem dX8_nextNumber_8 : decode cX8_nextNumber 8 = .ok (.aload_n 0, 1) := by decide +kernel
theorem dX8_nextNumber_9 : decode cX8_nextNumber 9 = .ok (.getfield 7, 3) := by decide +kernel
theorem dX8_nextNumber_12 : decode cX8_nextNumber 12 = .ok (.iconst 4, 1) := by decide +kernel
theorem dX8_nextNumber_13 : decode cX8_nextNumber 13 = .ok (.iaload, 1) := by decide +kernel
theorem dX8_nextNumber_14 : decode cX8_nextNumber 14 = .ok (.invokestatic 250, 3) := by decide +kernel
theorem dX8_nextNumber_17 : decode cX8_nextNumber 17 = .ok (.goto 24, 3) := by decide +kernel
theorem dX8_nextNumber_20 : decode cX8_nextNumber 20 = .ok (.aload_n 0, 1) := by decide +kernel
theorem dX8_nextNumber_21 : decode cX8_nextNumber 21 = .ok (.invokevirtual 247, 3) := by decide +kernel
theorem dX8_nextNumber_24 : decode cX8_nextNumber 24 = .ok (.iconst 4, 1) := by decide +kernel
theorem dX8_nextNumber_25 : decode cX8_nextNumber 25 = .ok (.if_icmp .ne 15, 3) := by decide +kernel
theorem dX8_nextNumber_28 : decode cX8_nextNumber 28 = .ok (.aload_n 0, 1) := by decide +kernel
theorem dX8_nextNumber_29 : decode cX8_nextNumber 29 = .ok (.getfield 7, 3) := by decide +kernel
theorem dX8_nextNumber_32 : decode cX8_nextNumber 32 = .ok (.iconst 5, 1) := by decide +kernel
theorem dX8_nextNumber_33 : decode cX8_nextNumber 33 = .ok (.iaload, 1) := by decide +kernel
theorem dX8_nextNumber_34 : decode cX8_nextNumber 34 = .ok (.invokestatic 250, 3) := by decide +kernel
theorem dX8_nextNumber_37 : decode cX8_nextNumber 37 = .ok (.goto 4, 3) := by decide +kernel
theorem dX8_nextNumber_40 : decode cX8_nextNumber 40 = .ok (.iconst 0, 1) := by decide +kernel
theorem dX8_nextNumber_41 : decode cX8_nextNumber 41 = .ok (.ireturn, 1) := by decide +kernel
theorem tl_X8_247 : Cond.methodLink RX8 247 yX8_nextAct ∈ TMW := tm_in 1979 (by decide +kernel) (by decide +kernel)
theorem ti_X8_nextAct : Cond.instanceMethod yX8_nextAct ∈ TMW := tm_in 1981 (by decide +kernel) (by decide +kernel)
theorem ts_X8_nextAct : Cond.selects RX8 yX8_nextAct yX8_nextAct ∈ TMW := tm_in 88 (by decide +kernel) (by decide +kernel)
theorem tc_X8_nextAct : Cond.code yX8_nextAct cX8_nextAct 1 (some .int) ∈ TMW := tm_in 1982 (by decide +kernel) (by decide +kernel)
theorem tc_X8_lowestOut : Cond.code yX8_lowestOut cX8_lowestOut 2 (some .int) ∈ TMW := tm_in 1993 (by decide +kernel) (by decide +kernel)
theorem tl_X8_250 : Cond.methodLink RX8 250 yX8_lowestOut ∈ TMW := tm_in 1991 (by decide +kernel) (by decide +kernel)
theorem tst_X8_lowestOut : Cond.static yX8_lowestOut ∈ TMW := tm_in 1992 (by decide +kernel) (by decide +kernel)
def f_X8_nextNumber (v : tmM) : Option (Int32 × tmM) := tm_cl (f_X8_nextAct v) fun r2 v1 => (if r2 = 3 then tm_g (tm_ix 4 491) (tm_cl (f_X8_lowestOut (v1 1 (4 : Int32).toNatClampNeg) v1) fun r8 v7 => some (r8, v7)) else tm_cl (f_X8_nextAct v1) fun r4 v3 => (if r4 = 4 then tm_g (tm_ix 5 491) (tm_cl (f_X8_lowestOut (v3 1 (5 : Int32).toNatClampNeg) v3) fun r6 v5 => some (r6, v5)) else some (0, v3)))
set_option maxRecDepth 100000 in
set_option maxHeartbeats 4000000 in
theorem w_X8_nextNumber {p : Program} {l : Launch} {e : Env} {s : State} {m : MethodId} {args : Array Value} {below : List Frame} {meth : Method} {c : Code} {D : va_G} {cy : Nat → ClassId} {ad : Nat → Nat} {A : Nat → Prop} {z : (Int32 × tmM)} (C0 : tmC p s m args meth c cX8_nextNumber 1 (some .int) RX8 TMW tm_NWR D cy tm_shR ad 13 [] A) (v : tmM) : tmG p l e ({ frames := 2, cells := 0, slots := 0, locals := 42 } : Room) s m args below meth c 0 0 (MQ below (va_Qi (fun r u => z = (r, u)) (tmAt tm_shR 13 D cy ad A) A) args s 0 0 A) 1 D cy tm_shR ad 13 [] A z 0 [(0, .ref (ad 0))] [] v (f_X8_nextNumber v) := by
  unfold f_X8_nextNumber
  refine tg_aload_n 0 C0 dX8_nextNumber_0 rfl rfl ?_
  refine tg_callVi (As := []) 0 0 C0 dX8_nextNumber_1 (c_X8_nextAct l v) rfl rfl (by decide) rfl rfl (tm_gV tl_X8_247 ti_X8_nextAct ts_X8_nextAct tn_X8 tc_X8_nextAct)  rfl rfl rfl rfl (by decide +kernel) ⟨by decide, by decide⟩ (Nat.le_of_ble_eq_true rfl) ⟨by decide, by decide⟩ (fun r2 v1 _ => ?_)
  refine tg_iconst (x := 3) C0 dX8_nextNumber_4 (by decide) ?_
  refine tg_icmp_ne 20 C0 dX8_nextNumber_5 (by decide) (fun _ => ?_) (fun _ => ?_)
  · refine tg_aload_n 0 C0 dX8_nextNumber_20 rfl rfl ?_
    refine tg_callVi (As := []) 0 0 C0 dX8_nextNumber_21 (c_X8_nextAct l v1) rfl rfl (by decide) rfl rfl (tm_gV tl_X8_247 ti_X8_nextAct ts_X8_nextAct tn_X8 tc_X8_nextAct)  rfl rfl rfl rfl (by decide +kernel) ⟨by decide, by decide⟩ (Nat.le_of_ble_eq_true rfl) ⟨by decide, by decide⟩ (fun r4 v3 _ => ?_)
    refine tg_iconst (x := 4) C0 dX8_nextNumber_24 (by decide) ?_
    refine tg_icmp_ne 40 C0 dX8_nextNumber_25 (by decide) (fun _ => ?_) (fun _ => ?_)
    · refine tg_iconst (x := 0) C0 dX8_nextNumber_40 (by decide) ?_
      exact tg_iret C0 dX8_nextNumber_41
    · refine tg_aload_n 0 C0 dX8_nextNumber_28 rfl rfl ?_
      refine tg_get 0 1 C0 dX8_nextNumber_29 (by decide) rfl rfl tu_X8 (by decide) tf_X8_7 rfl rfl rfl ?_
      refine tg_iconst (x := 5) C0 dX8_nextNumber_32 (by decide) ?_
      refine tg_iald 1 C0 dX8_nextNumber_33 (by decide) rfl (fun _ => ?_)
      refine tg_callSi (As := [.int (v3 1 (5 : Int32).toNatClampNeg)]) 1 C0 dX8_nextNumber_34 (c_X8_lowestOut l (v3 1 (5 : Int32).toNatClampNeg) v3) rfl rfl (tm_gc tc_X8_lowestOut) tl_X8_250 tn_X8 tst_X8_lowestOut  rfl rfl rfl rfl (by decide +kernel) ⟨by decide, by decide⟩ (Nat.le_of_ble_eq_true rfl) ⟨by decide, by decide⟩ (fun r6 v5 _ => ?_)
      refine tg_goto 41 C0 dX8_nextNumber_37 (by decide) ?_
      exact tg_iret C0 dX8_nextNumber_41
  · refine tg_aload_n 0 C0 dX8_nextNumber_8 rfl rfl ?_
    refine tg_get 0 1 C0 dX8_nextNumber_9 (by decide) rfl rfl tu_X8 (by decide) tf_X8_7 rfl rfl rfl ?_
    refine tg_iconst (x := 4) C0 dX8_nextNumber_12 (by decide) ?_
    refine tg_iald 1 C0 dX8_nextNumber_13 (by decide) rfl (fun _ => ?_)
    refine tg_callSi (As := [.int (v1 1 (4 : Int32).toNatClampNeg)]) 1 C0 dX8_nextNumber_14 (c_X8_lowestOut l (v1 1 (4 : Int32).toNatClampNeg) v1) rfl rfl (tm_gc tc_X8_lowestOut) tl_X8_250 tn_X8 tst_X8_lowestOut  rfl rfl rfl rfl (by decide +kernel) ⟨by decide, by decide⟩ (Nat.le_of_ble_eq_true rfl) ⟨by decide, by decide⟩ (fun r8 v7 _ => ?_)
    refine tg_goto 41 C0 dX8_nextNumber_17 (by decide) ?_
    exact tg_iret C0 dX8_nextNumber_41
theorem c_X8_nextNumber (l : Launch) (v : tmM) : tmMi tm_NWR tm_shR 13 l yX8_nextNumber (Cond.code yX8_nextNumber cX8_nextNumber 1 (some .int) :: TMW) ({ frames := 2, cells := 0, slots := 0, locals := 42 } : Room) (fun ad => [.ref (ad 0)]) v (f_X8_nextNumber v) :=
  tmMi.of (cc := cX8_nextNumber) (nL := 1) (by decide +kernel) rfl tm_NWR_ok (fun _ => Nat.le_of_ble_eq_true rfl) (fun p e s m args below meth c A D cy ad z C0 => w_X8_nextNumber C0 v)
-- ----- X8_next
theorem dX8_next_0 : decode cX8_next 0 = .ok (.aload_n 0, 1) := by decide +kernel
theorem dX8_next_1 : decode cX8_next 1 = .ok (.iload_n 1, 1) := by decide +kernel
theorem dX8_next_2 : decode cX8_next 2 = .ok (.iconst 0, 1) := by decide +kernel
theorem dX8_next_3 : decode cX8_next 3 = .ok (.iconst 1, 1) := by decide +kernel
theorem dX8_next_4 : decode cX8_next 4 = .ok (.invokestatic 63, 3) := by decide +kernel
theorem dX8_next_7 : decode cX8_next 7 = .ok (.ifCond .eq 7, 3) := by decide +kernel
theorem dX8_next_10 : decode cX8_next 10 = .ok (.iconst 0, 1) := by decide +kernel
theorem dX8_next_11 : decode cX8_next 11 = .ok (.goto 4, 3) := by decide +kernel
theorem dX8_next_14 : decode cX8_next 14 = .ok (.iconst 1, 1) := by decide +kernel
theorem dX8_next_15 : decode cX8_next 15 = .ok (.putfield 56, 3) := by decide +kernel
theorem dX8_next_18 : decode cX8_next 18 = .ok (.aload_n 0, 1) := by decide +kernel
theorem dX8_next_19 : decode cX8_next 19 = .ok (.getfield 56, 3) := by decide +kernel
theorem dX8_next_22 : decode cX8_next 22 = .ok (.ifCond .le 7, 3) := by decide +kernel
theorem dX8_next_25 : decode cX8_next 25 = .ok (.iconst 0, 1) := by decide +kernel
theorem dX8_next_26 : decode cX8_next 26 = .ok (.goto 26, 3) := by decide +kernel
theorem dX8_next_29 : decode cX8_next 29 = .ok (.iload_n 1, 1) := by decide +kernel
theorem dX8_next_30 : decode cX8_next 30 = .ok (.ifCond .eq 11, 3) := by decide +kernel
theorem dX8_next_33 : decode cX8_next 33 = .ok (.aload_n 0, 1) := by decide +kernel
theorem dX8_next_34 : decode cX8_next 34 = .ok (.invokevirtual 247, 3) := by decide +kernel
theorem dX8_next_37 : decode cX8_next 37 = .ok (.iconst (-1), 1) := by decide +kernel
theorem dX8_next_38 : decode cX8_next 38 = .ok (.if_icmp .ne 10, 3) := by decide +kernel
theorem dX8_next_41 : decode cX8_next 41 = .ok (.aload_n 0, 1) := by decide +kernel
theorem dX8_next_42 : decode cX8_next 42 = .ok (.invokevirtual 247, 3) := by decide +kernel
theorem dX8_next_45 : decode cX8_next 45 = .ok (.goto 7, 3) := by decide +kernel
theorem dX8_next_48 : decode cX8_next 48 = .ok (.aload_n 0, 1) := by decide +kernel
theorem dX8_next_49 : decode cX8_next 49 = .ok (.invokevirtual 253, 3) := by decide +kernel
theorem dX8_next_52 : decode cX8_next 52 = .ok (.ireturn, 1) := by decide +kernel
theorem tl_X8_253 : Cond.methodLink RX8 253 yX8_nextNumber ∈ TMW := tm_in 1987 (by decide +kernel) (by decide +kernel)
theorem ti_X8_nextNumber : Cond.instanceMethod yX8_nextNumber ∈ TMW := tm_in 1989 (by decide +kernel) (by decide +kernel)
theorem ts_X8_nextNumber : Cond.selects RX8 yX8_nextNumber yX8_nextNumber ∈ TMW := tm_in 90 (by decide +kernel) (by decide +kernel)
theorem tc_X8_nextNumber : Cond.code yX8_nextNumber cX8_nextNumber 1 (some .int) ∈ TMW := tm_in 1990 (by decide +kernel) (by decide +kernel)
def f_X8_next_41 (v : tmM) : Option (Int32 × tmM) := tm_cl (f_X8_nextAct v) fun r5 v4 => some (r5, v4)
set_option maxRecDepth 100000 in
set_option maxHeartbeats 4000000 in
theorem w_X8_next_41 {p : Program} {l : Launch} {e : Env} {s : State} {m : MethodId} {args : Array Value} {below : List Frame} {meth : Method} {c : Code} {D : va_G} {cy : Nat → ClassId} {ad : Nat → Nat} {A : Nat → Prop} {z : (Int32 × tmM)} (C0 : tmC p s m args meth c cX8_next 2 (some .int) RX8 TMW tm_NWR D cy tm_shR ad 13 [] A) (v : tmM) : tmG p l e ({ frames := 3, cells := 0, slots := 0, locals := 62 } : Room) s m args below meth c 0 0 (MQ below (va_Qi (fun r u => z = (r, u)) (tmAt tm_shR 13 D cy ad A) A) args s 0 0 A) 2 D cy tm_shR ad 13 [] A z 41 [(0, .ref (ad 0))] [] v (f_X8_next_41 v) := by
  unfold f_X8_next_41
  refine tg_aload_n 0 C0 dX8_next_41 rfl rfl ?_
  refine tg_callVi (As := []) 0 0 C0 dX8_next_42 (c_X8_nextAct l v) rfl rfl (by decide) rfl rfl (tm_gV tl_X8_247 ti_X8_nextAct ts_X8_nextAct tn_X8 tc_X8_nextAct)  rfl rfl rfl rfl (by decide +kernel) ⟨by decide, by decide⟩ (Nat.le_of_ble_eq_true rfl) ⟨by decide, by decide⟩ (fun r5 v4 _ => ?_)
  refine tg_goto 52 C0 dX8_next_45 (by decide) ?_
  exact tg_iret C0 dX8_next_52
def f_X8_next_15 (x1 s0 : Int32) (v : tmM) : Option (Int32 × tmM) := tm_lt (tm_up v 0 0 s0) fun v3 => (if (v3 0 0) ≤ 0 then (if x1 = 0 then f_X8_next_41 v3 else tm_cl (f_X8_nextAct v3) fun r7 v6 => (if r7 = (-1) then f_X8_next_41 v6 else tm_cl (f_X8_nextNumber v6) fun r9 v8 => some (r9, v8))) else some (0, v3))
set_option maxRecDepth 100000 in
set_option maxHeartbeats 4000000 in
theorem w_X8_next_15 {p : Program} {l : Launch} {e : Env} {s : State} {m : MethodId} {args : Array Value} {below : List Frame} {meth : Method} {c : Code} {D : va_G} {cy : Nat → ClassId} {ad : Nat → Nat} {A : Nat → Prop} {z : (Int32 × tmM)} (C0 : tmC p s m args meth c cX8_next 2 (some .int) RX8 TMW tm_NWR D cy tm_shR ad 13 [] A) (x1 s0 : Int32) (v : tmM) : tmG p l e ({ frames := 3, cells := 0, slots := 0, locals := 62 } : Room) s m args below meth c 0 0 (MQ below (va_Qi (fun r u => z = (r, u)) (tmAt tm_shR 13 D cy ad A) A) args s 0 0 A) 2 D cy tm_shR ad 13 [] A z 15 [(0, .ref (ad 0)), (1, .int x1)] [.int s0, .ref (ad 0)] v (f_X8_next_15 x1 s0 v) := by
  unfold f_X8_next_15
  refine tg_put 0 0 C0 dX8_next_15 (by decide) rfl rfl tu_X8 tyX8_ok nmX8 (by decide) tf_X8_56 rfl rfl rfl rfl rfl rfl ?_
  refine tg_letm (fun v3 _ => ?_)
  refine tg_aload_n 0 C0 dX8_next_18 rfl rfl ?_
  refine tg_get 0 0 C0 dX8_next_19 (by decide) rfl rfl tu_X8 (by decide) tf_X8_56 rfl rfl rfl ?_
  refine tg_if_le 29 C0 dX8_next_22 (by decide) (fun _ => ?_) (fun _ => ?_)
  · refine tg_iload_n 1 C0 dX8_next_29 rfl rfl ?_
    refine tg_if_eq 41 C0 dX8_next_30 (by decide) (fun _ => ?_) (fun _ => ?_)
    · refine tg_sub [0] rfl ?_
      exact w_X8_next_41 C0 v3
    · refine tg_aload_n 0 C0 dX8_next_33 rfl rfl ?_
      refine tg_callVi (As := []) 0 0 C0 dX8_next_34 (c_X8_nextAct l v3) rfl rfl (by decide) rfl rfl (tm_gV tl_X8_247 ti_X8_nextAct ts_X8_nextAct tn_X8 tc_X8_nextAct)  rfl rfl rfl rfl (by decide +kernel) ⟨by decide, by decide⟩ (Nat.le_of_ble_eq_true rfl) ⟨by decide, by decide⟩ (fun r7 v6 _ => ?_)
      refine tg_iconst (x := (-1)) C0 dX8_next_37 (by decide) ?_
      refine tg_icmp_ne 48 C0 dX8_next_38 (by decide) (fun _ => ?_) (fun _ => ?_)
      · refine tg_aload_n 0 C0 dX8_next_48 rfl rfl ?_
        refine tg_callVi (As := []) 0 0 C0 dX8_next_49 (c_X8_nextNumber l v6) rfl rfl (by decide) rfl rfl (tm_gV tl_X8_253 ti_X8_nextNumber ts_X8_nextNumber tn_X8 tc_X8_nextNumber)  rfl rfl rfl rfl (by decide +kernel) ⟨by decide, by decide⟩ (Nat.le_of_ble_eq_true rfl) ⟨by decide, by decide⟩ (fun r9 v8 _ => ?_)
        exact tg_iret C0 dX8_next_52
      · refine tg_sub [0] rfl ?_
        exact w_X8_next_41 C0 v6
  · refine tg_iconst (x := 0) C0 dX8_next_25 (by decide) ?_
    refine tg_goto 52 C0 dX8_next_26 (by decide) ?_
    exact tg_iret C0 dX8_next_52
def f_X8_next (x1 : Int32) (v : tmM) : Option (Int32 × tmM) := tm_cl (f_X8_in x1 0 1 v) fun r2 v1 => (if r2 = 0 then f_X8_next_15 x1 1 v1 else f_X8_next_15 x1 0 v1)
set_option maxRecDepth 100000 in
set_option maxHeartbeats 4000000 in
theorem w_X8_next {p : Program} {l : Launch} {e : Env} {s : State} {m : MethodId} {args : Array Value} {below : List Frame} {meth : Method} {c : Code} {D : va_G} {cy : Nat → ClassId} {ad : Nat → Nat} {A : Nat → Prop} {z : (Int32 × tmM)} (C0 : tmC p s m args meth c cX8_next 2 (some .int) RX8 TMW tm_NWR D cy tm_shR ad 13 [] A) (x1 : Int32) (v : tmM) : tmG p l e ({ frames := 3, cells := 0, slots := 0, locals := 62 } : Room) s m args below meth c 0 0 (MQ below (va_Qi (fun r u => z = (r, u)) (tmAt tm_shR 13 D cy ad A) A) args s 0 0 A) 2 D cy tm_shR ad 13 [] A z 0 [(0, .ref (ad 0)), (1, .int x1)] [] v (f_X8_next x1 v) := by
  unfold f_X8_next
  refine tg_aload_n 0 C0 dX8_next_0 rfl rfl ?_
  refine tg_iload_n 1 C0 dX8_next_1 rfl rfl ?_
  refine tg_iconst (x := 0) C0 dX8_next_2 (by decide) ?_
  refine tg_iconst (x := 1) C0 dX8_next_3 (by decide) ?_
  refine tg_callSi (As := [.int x1, .int 0, .int 1]) 3 C0 dX8_next_4 (c_X8_in l x1 0 1 v) rfl rfl (tm_gc tc_X8_in) tl_X8_63 tn_X8 tst_X8_in  rfl rfl rfl rfl (by decide +kernel) ⟨by decide, by decide⟩ (Nat.le_of_ble_eq_true rfl) ⟨by decide, by decide⟩ (fun r2 v1 _ => ?_)
  refine tg_if_eq 14 C0 dX8_next_7 (by decide) (fun _ => ?_) (fun _ => ?_)
  · refine tg_iconst (x := 1) C0 dX8_next_14 (by decide) ?_
    exact w_X8_next_15 C0 x1 1 v1
  · refine tg_iconst (x := 0) C0 dX8_next_10 (by decide) ?_
    refine tg_goto 15 C0 dX8_next_11 (by decide) ?_
    exact w_X8_next_15 C0 x1 0 v1
theorem c_X8_next (l : Launch) (x1 : Int32) (v : tmM) : tmMi tm_NWR tm_shR 13 l yX8_next (Cond.code yX8_next cX8_next 2 (some .int) :: TMW) ({ frames := 3, cells := 0, slots := 0, locals := 62 } : Room) (fun ad => [.ref (ad 0), .int x1]) v (f_X8_next x1 v) :=
  tmMi.of (cc := cX8_next) (nL := 2) (by decide +kernel) rfl tm_NWR_ok (fun _ => Nat.le_of_ble_eq_true rfl) (fun p e s m args below meth c A D cy ad z C0 => w_X8_next C0 x1 v)
-- ----- X8_doesNext
theorem dX8_doesNext_0 : decode cX8_doesNext 0 = .ok (.aload_n 0, 1) := by decide +kernel
theorem dX8_doesNext_1 : decode cX8_doesNext 1 = .ok (.invokevirtual 247, 3) := by decide +kernel
theorem dX8_doesNext_4 : decode cX8_doesNext 4 = .ok (.tableswitch 84 0 6 #[44, 49, 55, 61, 70, 84, 79], 44) := by decide +kernel
theorem dX8_doesNext_48 : decode cX8_doesNext 48 = .ok (.aload_n 0, 1) := by decide +kernel
theorem dX8_doesNext_49 : decode cX8_doesNext 49 = .ok (.invokevirtual 256, 3) := by decide +kernel
theorem dX8_doesNext_52 : decode cX8_doesNext 52 = .ok (.ireturn, 1) := by decide +kernel
theorem dX8_doesNext_53 : decode cX8_doesNext 53 = .ok (.aload_n 0, 1) := by decide +kernel
theorem dX8_doesNext_54 : decode cX8_doesNext 54 = .ok (.iconst 1, 1) := by decide +kernel
theorem dX8_doesNext_55 : decode cX8_doesNext 55 = .ok (.invokevirtual 198, 3) := by decide +kernel
theorem dX8_doesNext_58 : decode cX8_doesNext 58 = .ok (.ireturn, 1) := by decide +kernel
theorem dX8_doesNext_59 : decode cX8_doesNext 59 = .ok (.aload_n 0, 1) := by decide +kernel
theorem dX8_doesNext_60 : decode cX8_doesNext 60 = .ok (.iconst 1, 1) := by decide +kernel
theorem dX8_doesNext_61 : decode cX8_doesNext 61 = .ok (.invokevirtual 204, 3) := by decide +kernel
theorem dX8_doesNext_64 : decode cX8_doesNext 64 = .ok (.ireturn, 1) := by decide +kernel
theorem dX8_doesNext_65 : decode cX8_doesNext 65 = .ok (.aload_n 0, 1) := by decide +kernel
theorem dX8_doesNext_66 : decode cX8_doesNext 66 = .ok (.aload_n 0, 1) := by decide +kernel
theorem dX8_doesNext_67 : decode cX8_doesNext 67 = .ok (.invokevirtual 253, 3) := by decide +kernel
theorem dX8_doesNext_70 : decode cX8_doesNext 70 = .ok (.invokevirtual 210, 3) := by decide +kernel
theorem dX8_doesNext_73 : decode cX8_doesNext 73 = .ok (.ireturn, 1) := by decide +kernel
theorem dX8_doesNext_74 : decode cX8_doesNext 74 = .ok (.aload_n 0, 1) := by decide +kernel
theorem dX8_doesNext_75 : decode cX8_doesNext 75 = .ok (.aload_n 0, 1) := by decide +kernel
theorem dX8_doesNext_76 : decode cX8_doesNext 76 = .ok (.invokevirtual 253, 3) := by decide +kernel
theorem dX8_doesNext_79 : decode cX8_doesNext 79 = .ok (.invokevirtual 216, 3) := by decide +kernel
theorem dX8_doesNext_82 : decode cX8_doesNext 82 = .ok (.ireturn, 1) := by decide +kernel
theorem dX8_doesNext_83 : decode cX8_doesNext 83 = .ok (.aload_n 0, 1) := by decide +kernel
theorem dX8_doesNext_84 : decode cX8_doesNext 84 = .ok (.invokevirtual 259, 3) := by decide +kernel
theorem dX8_doesNext_87 : decode cX8_doesNext 87 = .ok (.ireturn, 1) := by decide +kernel
theorem dX8_doesNext_88 : decode cX8_doesNext 88 = .ok (.aload_n 0, 1) := by decide +kernel
theorem dX8_doesNext_89 : decode cX8_doesNext 89 = .ok (.invokevirtual 262, 3) := by decide +kernel
theorem dX8_doesNext_92 : decode cX8_doesNext 92 = .ok (.ireturn, 1) := by decide +kernel
theorem tl_X8_256 : Cond.methodLink RX8 256 yX8_begin ∈ TMW := tm_in 2002 (by decide +kernel) (by decide +kernel)
theorem ti_X8_begin : Cond.instanceMethod yX8_begin ∈ TMW := tm_in 1849 (by decide +kernel) (by decide +kernel)
theorem ts_X8_begin : Cond.selects RX8 yX8_begin yX8_begin ∈ TMW := tm_in 1850 (by decide +kernel) (by decide +kernel)
theorem tc_X8_begin : Cond.code yX8_begin cX8_begin 2 (some .int) ∈ TMW := tm_in 1851 (by decide +kernel) (by decide +kernel)
theorem tl_X8_262 : Cond.methodLink RX8 262 yX8_finish ∈ TMW := tm_in 2004 (by decide +kernel) (by decide +kernel)
theorem ti_X8_finish : Cond.instanceMethod yX8_finish ∈ TMW := tm_in 1964 (by decide +kernel) (by decide +kernel)
theorem ts_X8_finish : Cond.selects RX8 yX8_finish yX8_finish ∈ TMW := tm_in 1965 (by decide +kernel) (by decide +kernel)
theorem tc_X8_finish : Cond.code yX8_finish cX8_finish 2 (some .int) ∈ TMW := tm_in 1966 (by decide +kernel) (by decide +kernel)
theorem tl_X8_259 : Cond.methodLink RX8 259 yX8_lead ∈ TMW := tm_in 2003 (by decide +kernel) (by decide +kernel)
theorem ti_X8_lead : Cond.instanceMethod yX8_lead ∈ TMW := tm_in 1932 (by decide +kernel) (by decide +kernel)
theorem ts_X8_lead : Cond.selects RX8 yX8_lead yX8_lead ∈ TMW := tm_in 1933 (by decide +kernel) (by decide +kernel)
theorem tc_X8_lead : Cond.code yX8_lead cX8_lead 2 (some .int) ∈ TMW := tm_in 1934 (by decide +kernel) (by decide +kernel)
def f_X8_doesNext (v : tmM) : Option (Int32 × tmM) := tm_cl (f_X8_nextAct v) fun r2 v1 => (if r2 = 0 then tm_cl (f_X8_begin v1) fun r4 v3 => some (r4, v3) else if r2 = 1 then tm_cl (f_X8_copiesChunks 1 v1) fun r7 v6 => some (r7, v6) else if r2 = 2 then tm_cl (f_X8_repairs 1 v1) fun r10 v9 => some (r10, v9) else if r2 = 3 then tm_cl (f_X8_nextNumber v1) fun r13 v12 => tm_cl (f_X8_checks r13 v12) fun r15 v14 => some (r15, v14) else if r2 = 4 then tm_cl (f_X8_nextNumber v1) fun r18 v17 => tm_cl (f_X8_switches r18 v17) fun r20 v19 => some (r20, v19) else if r2 = 5 then tm_cl (f_X8_finish v1) fun r23 v22 => some (r23, v22) else if r2 = 6 then tm_cl (f_X8_lead v1) fun r26 v25 => some (r26, v25) else tm_cl (f_X8_finish v1) fun r29 v28 => some (r29, v28))
set_option maxRecDepth 100000 in
set_option maxHeartbeats 4000000 in
theorem w_X8_doesNext {p : Program} {l : Launch} {e : Env} {s : State} {m : MethodId} {args : Array Value} {below : List Frame} {meth : Method} {c : Code} {D : va_G} {cy : Nat → ClassId} {ad : Nat → Nat} {A : Nat → Prop} {z : (Int32 × tmM)} (C0 : tmC p s m args meth c cX8_doesNext 1 (some .int) RX8 TMW tm_NWR D cy tm_shR ad 13 [] A) (v : tmM) : tmG p l e ({ frames := 7, cells := 0, slots := 0, locals := 155 } : Room) s m args below meth c 0 0 (MQ below (va_Qi (fun r u => z = (r, u)) (tmAt tm_shR 13 D cy ad A) A) args s 0 0 A) 1 D cy tm_shR ad 13 [] A z 0 [(0, .ref (ad 0))] [] v (f_X8_doesNext v) := by
  unfold f_X8_doesNext
  refine tg_aload_n 0 C0 dX8_doesNext_0 rfl rfl ?_
  refine tg_callVi (As := []) 0 0 C0 dX8_doesNext_1 (c_X8_nextAct l v) rfl rfl (by decide) rfl rfl (tm_gV tl_X8_247 ti_X8_nextAct ts_X8_nextAct tn_X8 tc_X8_nextAct)  rfl rfl rfl rfl (by decide +kernel) ⟨by decide, by decide⟩ (Nat.le_of_ble_eq_true rfl) ⟨by decide, by decide⟩ (fun r2 v1 _ => ?_)
  refine tg_tab 0 (cst := 0) 48 tg_tab0 C0 dX8_doesNext_4 (by decide) rfl (by decide) (by decide) (fun _ => ?_) (fun h5 => ?_)
  · refine tg_aload_n 0 C0 dX8_doesNext_48 rfl rfl ?_
    refine tg_callVi (As := []) 0 0 C0 dX8_doesNext_49 (c_X8_begin l v1) rfl rfl (by decide) rfl rfl (tm_gV tl_X8_256 ti_X8_begin ts_X8_begin tn_X8 tc_X8_begin)  rfl rfl rfl rfl (by decide +kernel) ⟨by decide, by decide⟩ (Nat.le_of_ble_eq_true rfl) ⟨by decide, by decide⟩ (fun r4 v3 _ => ?_)
    exact tg_iret C0 dX8_doesNext_52
  refine tg_tab 1 (cst := 1) 53 h5 C0 dX8_doesNext_4 (by decide) rfl (by decide) (by decide) (fun _ => ?_) (fun h8 => ?_)
  · refine tg_aload_n 0 C0 dX8_doesNext_53 rfl rfl ?_
    refine tg_iconst (x := 1) C0 dX8_doesNext_54 (by decide) ?_
    refine tg_callVi (As := [.int 1]) 0 1 C0 dX8_doesNext_55 (c_X8_copiesChunks l 1 v1) rfl rfl (by decide) rfl rfl (tm_gV tl_X8_198 ti_X8_copiesChunks ts_X8_copiesChunks tn_X8 tc_X8_copiesChunks)  rfl rfl rfl rfl (by decide +kernel) ⟨by decide, by decide⟩ (Nat.le_of_ble_eq_true rfl) ⟨by decide, by decide⟩ (fun r7 v6 _ => ?_)
    exact tg_iret C0 dX8_doesNext_58
  refine tg_tab 2 (cst := 2) 59 h8 C0 dX8_doesNext_4 (by decide) rfl (by decide) (by decide) (fun _ => ?_) (fun h11 => ?_)
  · refine tg_aload_n 0 C0 dX8_doesNext_59 rfl rfl ?_
    refine tg_iconst (x := 1) C0 dX8_doesNext_60 (by decide) ?_
    refine tg_callVi (As := [.int 1]) 0 1 C0 dX8_doesNext_61 (c_X8_repairs l 1 v1) rfl rfl (by decide) rfl rfl (tm_gV tl_X8_204 ti_X8_repairs ts_X8_repairs tn_X8 tc_X8_repairs)  rfl rfl rfl rfl (by decide +kernel) ⟨by decide, by decide⟩ (Nat.le_of_ble_eq_true rfl) ⟨by decide, by decide⟩ (fun r10 v9 _ => ?_)
    exact tg_iret C0 dX8_doesNext_64
  refine tg_tab 3 (cst := 3) 65 h11 C0 dX8_doesNext_4 (by decide) rfl (by decide) (by decide) (fun _ => ?_) (fun h16 => ?_)
  · refine tg_aload_n 0 C0 dX8_doesNext_65 rfl rfl ?_
    refine tg_aload_n 0 C0 dX8_doesNext_66 rfl rfl ?_
    refine tg_callVi (As := []) 0 0 C0 dX8_doesNext_67 (c_X8_nextNumber l v1) rfl rfl (by decide) rfl rfl (tm_gV tl_X8_253 ti_X8_nextNumber ts_X8_nextNumber tn_X8 tc_X8_nextNumber)  rfl rfl rfl rfl (by decide +kernel) ⟨by decide, by decide⟩ (Nat.le_of_ble_eq_true rfl) ⟨by decide, by decide⟩ (fun r13 v12 _ => ?_)
    refine tg_callVi (As := [.int r13]) 0 1 C0 dX8_doesNext_70 (c_X8_checks l r13 v12) rfl rfl (by decide) rfl rfl (tm_gV tl_X8_210 ti_X8_checks ts_X8_checks tn_X8 tc_X8_checks)  rfl rfl rfl rfl (by decide +kernel) ⟨by decide, by decide⟩ (Nat.le_of_ble_eq_true rfl) ⟨by decide, by decide⟩ (fun r15 v14 _ => ?_)
    exact tg_iret C0 dX8_doesNext_73
  refine tg_tab 4 (cst := 4) 74 h16 C0 dX8_doesNext_4 (by decide) rfl (by decide) (by decide) (fun _ => ?_) (fun h21 => ?_)
  · refine tg_aload_n 0 C0 dX8_doesNext_74 rfl rfl ?_
    refine tg_aload_n 0 C0 dX8_doesNext_75 rfl rfl ?_
    refine tg_callVi (As := []) 0 0 C0 dX8_doesNext_76 (c_X8_nextNumber l v1) rfl rfl (by decide) rfl rfl (tm_gV tl_X8_253 ti_X8_nextNumber ts_X8_nextNumber tn_X8 tc_X8_nextNumber)  rfl rfl rfl rfl (by decide +kernel) ⟨by decide, by decide⟩ (Nat.le_of_ble_eq_true rfl) ⟨by decide, by decide⟩ (fun r18 v17 _ => ?_)
    refine tg_callVi (As := [.int r18]) 0 1 C0 dX8_doesNext_79 (c_X8_switches l r18 v17) rfl rfl (by decide) rfl rfl (tm_gV tl_X8_216 ti_X8_switches ts_X8_switches tn_X8 tc_X8_switches)  rfl rfl rfl rfl (by decide +kernel) ⟨by decide, by decide⟩ (Nat.le_of_ble_eq_true rfl) ⟨by decide, by decide⟩ (fun r20 v19 _ => ?_)
    exact tg_iret C0 dX8_doesNext_82
  refine tg_tab 5 (cst := 5) 88 h21 C0 dX8_doesNext_4 (by decide) rfl (by decide) (by decide) (fun _ => ?_) (fun h24 => ?_)
  · refine tg_aload_n 0 C0 dX8_doesNext_88 rfl rfl ?_
    refine tg_callVi (As := []) 0 0 C0 dX8_doesNext_89 (c_X8_finish l v1) rfl rfl (by decide) rfl rfl (tm_gV tl_X8_262 ti_X8_finish ts_X8_finish tn_X8 tc_X8_finish)  rfl rfl rfl rfl (by decide +kernel) ⟨by decide, by decide⟩ (Nat.le_of_ble_eq_true rfl) ⟨by decide, by decide⟩ (fun r23 v22 _ => ?_)
    exact tg_iret C0 dX8_doesNext_92
  refine tg_tab 6 (cst := 6) 83 h24 C0 dX8_doesNext_4 (by decide) rfl (by decide) (by decide) (fun _ => ?_) (fun h27 => ?_)
  · refine tg_aload_n 0 C0 dX8_doesNext_83 rfl rfl ?_
    refine tg_callVi (As := []) 0 0 C0 dX8_doesNext_84 (c_X8_lead l v1) rfl rfl (by decide) rfl rfl (tm_gV tl_X8_259 ti_X8_lead ts_X8_lead tn_X8 tc_X8_lead)  rfl rfl rfl rfl (by decide +kernel) ⟨by decide, by decide⟩ (Nat.le_of_ble_eq_true rfl) ⟨by decide, by decide⟩ (fun r26 v25 _ => ?_)
    exact tg_iret C0 dX8_doesNext_87
  refine tg_tabO 7 88 h27 C0 dX8_doesNext_4 (by decide) (by decide) ?_
  refine tg_aload_n 0 C0 dX8_doesNext_88 rfl rfl ?_
  refine tg_callVi (As := []) 0 0 C0 dX8_doesNext_89 (c_X8_finish l v1) rfl rfl (by decide) rfl rfl (tm_gV tl_X8_262 ti_X8_finish ts_X8_finish tn_X8 tc_X8_finish)  rfl rfl rfl rfl (by decide +kernel) ⟨by decide, by decide⟩ (Nat.le_of_ble_eq_true rfl) ⟨by decide, by decide⟩ (fun r29 v28 _ => ?_)
  exact tg_iret C0 dX8_doesNext_92
theorem c_X8_doesNext (l : Launch) (v : tmM) : tmMi tm_NWR tm_shR 13 l yX8_doesNext (Cond.code yX8_doesNext cX8_doesNext 1 (some .int) :: TMW) ({ frames := 7, cells := 0, slots := 0, locals := 155 } : Room) (fun ad => [.ref (ad 0)]) v (f_X8_doesNext v) :=
  tmMi.of (cc := cX8_doesNext) (nL := 1) (by decide +kernel) rfl tm_NWR_ok (fun _ => Nat.le_of_ble_eq_true rfl) (fun p e s m args below meth c A D cy ad z C0 => w_X8_doesNext C0 v)
-- ----- X8_advance
theorem dX8_advance_0 : decode cX8_advance 0 = .ok (.aload_n 0, 1) := by decide +kernel
theorem dX8_advance_1 : decode cX8_advance 1 = .ok (.iload_n 1, 1) := by decide +kernel
theorem dX8_advance_2 : decode cX8_advance 2 = .ok (.iconst 1, 1) := by decide +kernel
theorem dX8_advance_3 : decode cX8_advance 3 = .ok (.bipush 60, 2) := by decide +kernel
theorem dX8_advance_5 : decode cX8_advance 5 = .ok (.invokestatic 63, 3) := by decide +kernel
theorem dX8_advance_8 : decode cX8_advance 8 = .ok (.ifCond .eq 7, 3) := by decide +kernel
theorem dX8_advance_11 : decode cX8_advance 11 = .ok (.iconst 0, 1) := by decide +kernel
theorem dX8_advance_12 : decode cX8_advance 12 = .ok (.goto 4, 3) := by decide +kernel
theorem dX8_advance_15 : decode cX8_advance 15 = .ok (.iconst 1, 1) := by decide +kernel
theorem dX8_advance_16 : decode cX8_advance 16 = .ok (.putfield 56, 3) := by decide +kernel
theorem dX8_advance_19 : decode cX8_advance 19 = .ok (.aload_n 0, 1) := by decide +kernel
theorem dX8_advance_20 : decode cX8_advance 20 = .ok (.getfield 56, 3) := by decide +kernel
theorem dX8_advance_23 : decode cX8_advance 23 = .ok (.ifCond .le 5, 3) := by decide +kernel
theorem dX8_advance_26 : decode cX8_advance 26 = .ok (.iconst 0, 1) := by decide +kernel
theorem dX8_advance_27 : decode cX8_advance 27 = .ok (.ireturn, 1) := by decide +kernel
theorem dX8_advance_28 : decode cX8_advance 28 = .ok (.iconst 0, 1) := by decide +kernel
theorem dX8_advance_29 : decode cX8_advance 29 = .ok (.istore_n 2, 1) := by decide +kernel
theorem dX8_advance_30 : decode cX8_advance 30 = .ok (.iload_n 2, 1) := by decide +kernel
theorem dX8_advance_31 : decode cX8_advance 31 = .ok (.iload_n 1, 1) := by decide +kernel
theorem dX8_advance_32 : decode cX8_advance 32 = .ok (.if_icmp .ge 24, 3) := by decide +kernel
theorem dX8_advance_35 : decode cX8_advance 35 = .ok (.aload_n 0, 1) := by decide +kernel
theorem dX8_advance_36 : decode cX8_advance 36 = .ok (.invokevirtual 247, 3) := by decide +kernel
theorem dX8_advance_39 : decode cX8_advance 39 = .ok (.iconst (-1), 1) := by decide +kernel
theorem dX8_advance_40 : decode cX8_advance 40 = .ok (.if_icmp .eq 16, 3) := by decide +kernel
theorem dX8_advance_43 : decode cX8_advance 43 = .ok (.aload_n 0, 1) := by decide +kernel
theorem dX8_advance_44 : decode cX8_advance 44 = .ok (.invokevirtual 265, 3) := by decide +kernel
theorem dX8_advance_47 : decode cX8_advance 47 = .ok (.ifCond .ne 9, 3) := by decide +kernel
theorem dX8_advance_50 : decode cX8_advance 50 = .ok (.iinc 2 1, 3) := by decide +kernel
theorem dX8_advance_53 : decode cX8_advance 53 = .ok (.goto (-23), 3) := by decide +kernel
theorem dX8_advance_56 : decode cX8_advance 56 = .ok (.iload_n 2, 1) := by decide +kernel
theorem dX8_advance_57 : decode cX8_advance 57 = .ok (.ireturn, 1) := by decide +kernel
theorem tl_X8_265 : Cond.methodLink RX8 265 yX8_doesNext ∈ TMW := tm_in 1998 (by decide +kernel) (by decide +kernel)
theorem ti_X8_doesNext : Cond.instanceMethod yX8_doesNext ∈ TMW := tm_in 2000 (by decide +kernel) (by decide +kernel)
theorem ts_X8_doesNext : Cond.selects RX8 yX8_doesNext yX8_doesNext ∈ TMW := tm_in 91 (by decide +kernel) (by decide +kernel)
theorem tc_X8_doesNext : Cond.code yX8_doesNext cX8_doesNext 1 (some .int) ∈ TMW := tm_in 2001 (by decide +kernel) (by decide +kernel)
def f_X8_advance_30b (K0 : Int32 → tmM → Option (Int32 × tmM)) (L : Int32 → Int32 → tmM → Option (Int32 × tmM)) (x1 x2 : Int32) (v : tmM) : Option (Int32 × tmM) := (if x1 ≤ x2 then K0 x2 v else tm_cl (f_X8_nextAct v) fun r5 v4 => (if r5 = (-1) then K0 x2 v4 else tm_cl (f_X8_doesNext v4) fun r7 v6 => (if r7 = 0 then L x1 (x2 + 1) v6 else K0 x2 v6)))
set_option maxRecDepth 100000 in
set_option maxHeartbeats 4000000 in
theorem w_X8_advance_30b {p : Program} {l : Launch} {e : Env} {s : State} {m : MethodId} {args : Array Value} {below : List Frame} {meth : Method} {c : Code} {D : va_G} {cy : Nat → ClassId} {ad : Nat → Nat} {A : Nat → Prop} {z : (Int32 × tmM)} {K0 : Int32 → tmM → Option (Int32 × tmM)} {L : Int32 → Int32 → tmM → Option (Int32 × tmM)} (C0 : tmC p s m args meth c cX8_advance 3 (some .int) RX8 TMW tm_NWR D cy tm_shR ad 13 [] A) (hK0 : ∀ (a2 : Int32) (w : tmM), tmG p l e ({ frames := 8, cells := 0, slots := 0, locals := 175 } : Room) s m args below meth c 0 0 (MQ below (va_Qi (fun r u => z = (r, u)) (tmAt tm_shR 13 D cy ad A) A) args s 0 0 A) 3 D cy tm_shR ad 13 [] A z 56 [(2, .int a2)] [] w (K0 a2 w)) (hL : ∀ (a1 a2 : Int32) (w : tmM), tmG p l e ({ frames := 8, cells := 0, slots := 0, locals := 175 } : Room) s m args below meth c 0 0 (MQ below (va_Qi (fun r u => z = (r, u)) (tmAt tm_shR 13 D cy ad A) A) args s 0 0 A) 3 D cy tm_shR ad 13 [] A z 30 [(0, .ref (ad 0)), (1, .int a1), (2, .int a2)] [] w (L a1 a2 w)) (x1 x2 : Int32) (v : tmM) : tmG p l e ({ frames := 8, cells := 0, slots := 0, locals := 175 } : Room) s m args below meth c 0 0 (MQ below (va_Qi (fun r u => z = (r, u)) (tmAt tm_shR 13 D cy ad A) A) args s 0 0 A) 3 D cy tm_shR ad 13 [] A z 30 [(0, .ref (ad 0)), (1, .int x1), (2, .int x2)] [] v (f_X8_advance_30b K0 L x1 x2 v) := by
  unfold f_X8_advance_30b
  refine tg_iload_n 2 C0 dX8_advance_30 rfl rfl ?_
  refine tg_iload_n 1 C0 dX8_advance_31 rfl rfl ?_
  refine tg_icmp_ge 56 C0 dX8_advance_32 (by decide) (fun _ => ?_) (fun _ => ?_)
  · refine tg_sub [2] rfl ?_
    exact hK0 x2 v
  · refine tg_aload_n 0 C0 dX8_advance_35 rfl rfl ?_
    refine tg_callVi (As := []) 0 0 C0 dX8_advance_36 (c_X8_nextAct l v) rfl rfl (by decide) rfl rfl (tm_gV tl_X8_247 ti_X8_nextAct ts_X8_nextAct tn_X8 tc_X8_nextAct)  rfl rfl rfl rfl (by decide +kernel) ⟨by decide, by decide⟩ (Nat.le_of_ble_eq_true rfl) ⟨by decide, by decide⟩ (fun r5 v4 _ => ?_)
    refine tg_iconst (x := (-1)) C0 dX8_advance_39 (by decide) ?_
    refine tg_icmp_eq 56 C0 dX8_advance_40 (by decide) (fun _ => ?_) (fun _ => ?_)
    · refine tg_sub [2] rfl ?_
      exact hK0 x2 v4
    · refine tg_aload_n 0 C0 dX8_advance_43 rfl rfl ?_
      refine tg_callVi (As := []) 0 0 C0 dX8_advance_44 (c_X8_doesNext l v4) rfl rfl (by decide) rfl rfl (tm_gV tl_X8_265 ti_X8_doesNext ts_X8_doesNext tn_X8 tc_X8_doesNext)  rfl rfl rfl rfl (by decide +kernel) ⟨by decide, by decide⟩ (Nat.le_of_ble_eq_true rfl) ⟨by decide, by decide⟩ (fun r7 v6 _ => ?_)
      refine tg_if_ne 56 C0 dX8_advance_47 (by decide) (fun _ => ?_) (fun _ => ?_)
      · refine tg_sub [2] rfl ?_
        exact hK0 x2 v6
      · refine tg_iinc [(2, .int (x2 + 1)), (0, .ref (ad 0)), (1, .int x1)] 2 C0 dX8_advance_50 rfl rfl (by decide) rfl ?_
        refine tg_goto 30 C0 dX8_advance_53 (by decide) ?_
        refine tg_sub [1, 2, 0] rfl ?_
        exact hL x1 (x2 + 1) v6
def f_X8_advance_30 (K0 : Int32 → tmM → Option (Int32 × tmM)) : Nat → Int32 → Int32 → tmM → Option (Int32 × tmM)
  | 0 => fun _ _ _ => none
  | n + 1 => f_X8_advance_30b K0 (f_X8_advance_30 K0 n)
theorem w_X8_advance_30 {p : Program} {l : Launch} {e : Env} {s : State} {m : MethodId} {args : Array Value} {below : List Frame} {meth : Method} {c : Code} {D : va_G} {cy : Nat → ClassId} {ad : Nat → Nat} {A : Nat → Prop} {z : (Int32 × tmM)} {K0 : Int32 → tmM → Option (Int32 × tmM)} (C0 : tmC p s m args meth c cX8_advance 3 (some .int) RX8 TMW tm_NWR D cy tm_shR ad 13 [] A) (hK0 : ∀ (a2 : Int32) (w : tmM), tmG p l e ({ frames := 8, cells := 0, slots := 0, locals := 175 } : Room) s m args below meth c 0 0 (MQ below (va_Qi (fun r u => z = (r, u)) (tmAt tm_shR 13 D cy ad A) A) args s 0 0 A) 3 D cy tm_shR ad 13 [] A z 56 [(2, .int a2)] [] w (K0 a2 w)) (nn : Nat) : ∀ (x1 x2 : Int32) (v : tmM), tmG p l e ({ frames := 8, cells := 0, slots := 0, locals := 175 } : Room) s m args below meth c 0 0 (MQ below (va_Qi (fun r u => z = (r, u)) (tmAt tm_shR 13 D cy ad A) A) args s 0 0 A) 3 D cy tm_shR ad 13 [] A z 30 [(0, .ref (ad 0)), (1, .int x1), (2, .int x2)] [] v (f_X8_advance_30 K0 nn x1 x2 v) := by
  induction nn with
  | zero => intro _ _ _; exact tg_none
  | succ n ih => intro x1 x2 v; exact w_X8_advance_30b C0 hK0 ih x1 x2 v
def f_X8_advance_16 (x1 s0 : Int32) (v : tmM) : Option (Int32 × tmM) := tm_lt (tm_up v 0 0 s0) fun v3 => (if (v3 0 0) ≤ 0 then f_X8_advance_30 (fun x8 v9 => some (x8, v9)) 10000 x1 0 v3 else some (0, v3))
set_option maxRecDepth 100000 in
set_option maxHeartbeats 4000000 in
theorem w_X8_advance_16 {p : Program} {l : Launch} {e : Env} {s : State} {m : MethodId} {args : Array Value} {below : List Frame} {meth : Method} {c : Code} {D : va_G} {cy : Nat → ClassId} {ad : Nat → Nat} {A : Nat → Prop} {z : (Int32 × tmM)} (C0 : tmC p s m args meth c cX8_advance 3 (some .int) RX8 TMW tm_NWR D cy tm_shR ad 13 [] A) (x1 s0 : Int32) (v : tmM) : tmG p l e ({ frames := 8, cells := 0, slots := 0, locals := 175 } : Room) s m args below meth c 0 0 (MQ below (va_Qi (fun r u => z = (r, u)) (tmAt tm_shR 13 D cy ad A) A) args s 0 0 A) 3 D cy tm_shR ad 13 [] A z 16 [(0, .ref (ad 0)), (1, .int x1)] [.int s0, .ref (ad 0)] v (f_X8_advance_16 x1 s0 v) := by
  unfold f_X8_advance_16
  refine tg_put 0 0 C0 dX8_advance_16 (by decide) rfl rfl tu_X8 tyX8_ok nmX8 (by decide) tf_X8_56 rfl rfl rfl rfl rfl rfl ?_
  refine tg_letm (fun v3 _ => ?_)
  refine tg_aload_n 0 C0 dX8_advance_19 rfl rfl ?_
  refine tg_get 0 0 C0 dX8_advance_20 (by decide) rfl rfl tu_X8 (by decide) tf_X8_56 rfl rfl rfl ?_
  refine tg_if_le 28 C0 dX8_advance_23 (by decide) (fun _ => ?_) (fun _ => ?_)
  · refine tg_iconst (x := 0) C0 dX8_advance_28 (by decide) ?_
    refine tg_istore_n [(2, .int 0), (0, .ref (ad 0)), (1, .int x1)] C0 dX8_advance_29 rfl (by decide) rfl ?_
    refine tg_sub [1, 2, 0] rfl ?_
    refine w_X8_advance_30 C0 (fun x8 v9 => ?_) 10000 x1 0 v3
    refine tg_iload_n 0 C0 dX8_advance_56 rfl rfl ?_
    exact tg_iret C0 dX8_advance_57
  · refine tg_iconst (x := 0) C0 dX8_advance_26 (by decide) ?_
    exact tg_iret C0 dX8_advance_27
def f_X8_advance (x1 : Int32) (v : tmM) : Option (Int32 × tmM) := tm_cl (f_X8_in x1 1 60 v) fun r2 v1 => (if r2 = 0 then f_X8_advance_16 x1 1 v1 else f_X8_advance_16 x1 0 v1)
set_option maxRecDepth 100000 in
set_option maxHeartbeats 4000000 in
theorem w_X8_advance {p : Program} {l : Launch} {e : Env} {s : State} {m : MethodId} {args : Array Value} {below : List Frame} {meth : Method} {c : Code} {D : va_G} {cy : Nat → ClassId} {ad : Nat → Nat} {A : Nat → Prop} {z : (Int32 × tmM)} (C0 : tmC p s m args meth c cX8_advance 3 (some .int) RX8 TMW tm_NWR D cy tm_shR ad 13 [] A) (x1 : Int32) (v : tmM) : tmG p l e ({ frames := 8, cells := 0, slots := 0, locals := 175 } : Room) s m args below meth c 0 0 (MQ below (va_Qi (fun r u => z = (r, u)) (tmAt tm_shR 13 D cy ad A) A) args s 0 0 A) 3 D cy tm_shR ad 13 [] A z 0 [(0, .ref (ad 0)), (1, .int x1)] [] v (f_X8_advance x1 v) := by
  unfold f_X8_advance
  refine tg_aload_n 0 C0 dX8_advance_0 rfl rfl ?_
  refine tg_iload_n 1 C0 dX8_advance_1 rfl rfl ?_
  refine tg_iconst (x := 1) C0 dX8_advance_2 (by decide) ?_
  refine tg_bipush (x := 60) C0 dX8_advance_3 (by decide) ?_
  refine tg_callSi (As := [.int x1, .int 1, .int 60]) 3 C0 dX8_advance_5 (c_X8_in l x1 1 60 v) rfl rfl (tm_gc tc_X8_in) tl_X8_63 tn_X8 tst_X8_in  rfl rfl rfl rfl (by decide +kernel) ⟨by decide, by decide⟩ (Nat.le_of_ble_eq_true rfl) ⟨by decide, by decide⟩ (fun r2 v1 _ => ?_)
  refine tg_if_eq 15 C0 dX8_advance_8 (by decide) (fun _ => ?_) (fun _ => ?_)
  · refine tg_iconst (x := 1) C0 dX8_advance_15 (by decide) ?_
    exact w_X8_advance_16 C0 x1 1 v1
  · refine tg_iconst (x := 0) C0 dX8_advance_11 (by decide) ?_
    refine tg_goto 16 C0 dX8_advance_12 (by decide) ?_
    exact w_X8_advance_16 C0 x1 0 v1
theorem c_X8_advance (l : Launch) (x1 : Int32) (v : tmM) : tmMi tm_NWR tm_shR 13 l yX8_advance (Cond.code yX8_advance cX8_advance 3 (some .int) :: TMW) ({ frames := 8, cells := 0, slots := 0, locals := 175 } : Room) (fun ad => [.ref (ad 0), .int x1]) v (f_X8_advance x1 v) :=
  tmMi.of (cc := cX8_advance) (nL := 3) (by decide +kernel) rfl tm_NWR_ok (fun _ => Nat.le_of_ble_eq_true rfl) (fun p e s m args below meth c A D cy ad z C0 => w_X8_advance C0 x1 v)
-- ----- X8_differing
theorem dX8_differing_0 : decode cX8_differing 0 = .ok (.aload_n 0, 1) := by decide +kernel
theorem dX8_differing_1 : decode cX8_differing 1 = .ok (.iload_n 1, 1) := by decide +kernel
theorem dX8_differing_2 : decode cX8_differing 2 = .ok (.ifCond .lt 7, 3) := by decide +kernel
theorem dX8_differing_5 : decode cX8_differing 5 = .ok (.iconst 0, 1) := by decide +kernel
theorem dX8_differing_6 : decode cX8_differing 6 = .ok (.goto 4, 3) := by decide +kernel
theorem dX8_differing_9 : decode cX8_differing 9 = .ok (.iconst 1, 1) := by decide +kernel
theorem dX8_differing_10 : decode cX8_differing 10 = .ok (.putfield 56, 3) := by decide +kernel
theorem dX8_differing_13 : decode cX8_differing 13 = .ok (.iload_n 1, 1) := by decide +kernel
theorem dX8_differing_14 : decode cX8_differing 14 = .ok (.istore_n 2, 1) := by decide +kernel
theorem dX8_differing_15 : decode cX8_differing 15 = .ok (.iconst 0, 1) := by decide +kernel
theorem dX8_differing_16 : decode cX8_differing 16 = .ok (.istore_n 3, 1) := by decide +kernel
theorem dX8_differing_17 : decode cX8_differing 17 = .ok (.iload_n 3, 1) := by decide +kernel
theorem dX8_differing_18 : decode cX8_differing 18 = .ok (.bipush 60, 2) := by decide +kernel
theorem dX8_differing_20 : decode cX8_differing 20 = .ok (.if_icmp .ge 53, 3) := by decide +kernel
theorem dX8_differing_23 : decode cX8_differing 23 = .ok (.aload_n 0, 1) := by decide +kernel
theorem dX8_differing_24 : decode cX8_differing 24 = .ok (.getfield 56, 3) := by decide +kernel
theorem dX8_differing_27 : decode cX8_differing 27 = .ok (.ifCond .ne 46, 3) := by decide +kernel
theorem dX8_differing_30 : decode cX8_differing 30 = .ok (.aload_n 0, 1) := by decide +kernel
theorem dX8_differing_31 : decode cX8_differing 31 = .ok (.invokevirtual 140, 3) := by decide +kernel
theorem dX8_differing_34 : decode cX8_differing 34 = .ok (.ifCond .eq 39, 3) := by decide +kernel
theorem dX8_differing_37 : decode cX8_differing 37 = .ok (.aload_n 0, 1) := by decide +kernel
theorem dX8_differing_38 : decode cX8_differing 38 = .ok (.iload_n 3, 1) := by decide +kernel
theorem dX8_differing_39 : decode cX8_differing 39 = .ok (.invokevirtual 78, 3) := by decide +kernel
theorem dX8_differing_42 : decode cX8_differing 42 = .ok (.ifCond .eq 9, 3) := by decide +kernel
theorem dX8_differing_45 : decode cX8_differing 45 = .ok (.iload_n 2, 1) := by decide +kernel
theorem dX8_differing_46 : decode cX8_differing 46 = .ok (.ifCond .ne 5, 3) := by decide +kernel
theorem dX8_differing_49 : decode cX8_differing 49 = .ok (.iload_n 3, 1) := by decide +kernel
theorem dX8_differing_50 : decode cX8_differing 50 = .ok (.ireturn, 1) := by decide +kernel
theorem dX8_differing_51 : decode cX8_differing 51 = .ok (.iload_n 2, 1) := by decide +kernel
theorem dX8_differing_52 : decode cX8_differing 52 = .ok (.aload_n 0, 1) := by decide +kernel
theorem dX8_differing_53 : decode cX8_differing 53 = .ok (.iload_n 3, 1) := by decide +kernel
theorem dX8_differing_54 : decode cX8_differing 54 = .ok (.invokevirtual 78, 3) := by decide +kernel
theorem dX8_differing_57 : decode cX8_differing 57 = .ok (.ifCond .eq 7, 3) := by decide +kernel
theorem dX8_differing_60 : decode cX8_differing 60 = .ok (.iconst 1, 1) := by decide +kernel
theorem dX8_differing_61 : decode cX8_differing 61 = .ok (.goto 4, 3) := by decide +kernel
theorem dX8_differing_64 : decode cX8_differing 64 = .ok (.iconst 0, 1) := by decide +kernel
theorem dX8_differing_65 : decode cX8_differing 65 = .ok (.isub, 1) := by decide +kernel
theorem dX8_differing_66 : decode cX8_differing 66 = .ok (.istore_n 2, 1) := by decide +kernel
theorem dX8_differing_67 : decode cX8_differing 67 = .ok (.iinc 3 1, 3) := by decide +kernel
theorem dX8_differing_70 : decode cX8_differing 70 = .ok (.goto (-53), 3) := by decide +kernel
theorem dX8_differing_73 : decode cX8_differing 73 = .ok (.aload_n 0, 1) := by decide +kernel
theorem dX8_differing_74 : decode cX8_differing 74 = .ok (.getfield 56, 3) := by decide +kernel
theorem dX8_differing_77 : decode cX8_differing 77 = .ok (.ifCond .le 7, 3) := by decide +kernel
theorem dX8_differing_80 : decode cX8_differing 80 = .ok (.iconst 0, 1) := by decide +kernel
theorem dX8_differing_81 : decode cX8_differing 81 = .ok (.goto 4, 3) := by decide +kernel
theorem dX8_differing_84 : decode cX8_differing 84 = .ok (.iconst (-1), 1) := by decide +kernel
theorem dX8_differing_85 : decode cX8_differing 85 = .ok (.ireturn, 1) := by decide +kernel
def f_X8_differing_65 (K0 : tmM → Option (Int32 × tmM)) (L : Int32 → Int32 → tmM → Option (Int32 × tmM)) (x3 s0 s1 : Int32) (v : tmM) : Option (Int32 × tmM) := tm_lt (s1 - s0) fun y8 => L y8 (x3 + 1) v
set_option maxRecDepth 100000 in
set_option maxHeartbeats 4000000 in
theorem w_X8_differing_65 {p : Program} {l : Launch} {e : Env} {s : State} {m : MethodId} {args : Array Value} {below : List Frame} {meth : Method} {c : Code} {D : va_G} {cy : Nat → ClassId} {ad : Nat → Nat} {A : Nat → Prop} {z : (Int32 × tmM)} {K0 : tmM → Option (Int32 × tmM)} {L : Int32 → Int32 → tmM → Option (Int32 × tmM)} (C0 : tmC p s m args meth c cX8_differing 4 (some .int) RX8 TMW tm_NWR D cy tm_shR ad 13 [] A) (hK0 : ∀ (w : tmM), tmG p l e ({ frames := 4, cells := 0, slots := 0, locals := 88 } : Room) s m args below meth c 0 0 (MQ below (va_Qi (fun r u => z = (r, u)) (tmAt tm_shR 13 D cy ad A) A) args s 0 0 A) 4 D cy tm_shR ad 13 [] A z 73 [(0, .ref (ad 0))] [] w (K0 w)) (hL : ∀ (a2 a3 : Int32) (w : tmM), tmG p l e ({ frames := 4, cells := 0, slots := 0, locals := 88 } : Room) s m args below meth c 0 0 (MQ below (va_Qi (fun r u => z = (r, u)) (tmAt tm_shR 13 D cy ad A) A) args s 0 0 A) 4 D cy tm_shR ad 13 [] A z 17 [(0, .ref (ad 0)), (2, .int a2), (3, .int a3)] [] w (L a2 a3 w)) (x3 s0 s1 : Int32) (v : tmM) : tmG p l e ({ frames := 4, cells := 0, slots := 0, locals := 88 } : Room) s m args below meth c 0 0 (MQ below (va_Qi (fun r u => z = (r, u)) (tmAt tm_shR 13 D cy ad A) A) args s 0 0 A) 4 D cy tm_shR ad 13 [] A z 65 [(0, .ref (ad 0)), (3, .int x3)] [.int s0, .int s1] v (f_X8_differing_65 K0 L x3 s0 s1 v) := by
  unfold f_X8_differing_65
  refine tg_isub C0 dX8_differing_65 ?_
  refine tg_leti (fun y8 _ => ?_)
  refine tg_istore_n [(2, .int y8), (0, .ref (ad 0)), (3, .int x3)] C0 dX8_differing_66 rfl (by decide) rfl ?_
  refine tg_iinc [(3, .int (x3 + 1)), (2, .int y8), (0, .ref (ad 0))] 2 C0 dX8_differing_67 rfl rfl (by decide) rfl ?_
  refine tg_goto 17 C0 dX8_differing_70 (by decide) ?_
  refine tg_sub [2, 1, 0] rfl ?_
  exact hL y8 (x3 + 1) v
def f_X8_differing_51 (K0 : tmM → Option (Int32 × tmM)) (L : Int32 → Int32 → tmM → Option (Int32 × tmM)) (x2 x3 : Int32) (v : tmM) : Option (Int32 × tmM) := tm_cl (f_X8_differs x3 v) fun r7 v6 => (if r7 = 0 then f_X8_differing_65 K0 L x3 0 x2 v6 else f_X8_differing_65 K0 L x3 1 x2 v6)
set_option maxRecDepth 100000 in
set_option maxHeartbeats 4000000 in
theorem w_X8_differing_51 {p : Program} {l : Launch} {e : Env} {s : State} {m : MethodId} {args : Array Value} {below : List Frame} {meth : Method} {c : Code} {D : va_G} {cy : Nat → ClassId} {ad : Nat → Nat} {A : Nat → Prop} {z : (Int32 × tmM)} {K0 : tmM → Option (Int32 × tmM)} {L : Int32 → Int32 → tmM → Option (Int32 × tmM)} (C0 : tmC p s m args meth c cX8_differing 4 (some .int) RX8 TMW tm_NWR D cy tm_shR ad 13 [] A) (hK0 : ∀ (w : tmM), tmG p l e ({ frames := 4, cells := 0, slots := 0, locals := 88 } : Room) s m args below meth c 0 0 (MQ below (va_Qi (fun r u => z = (r, u)) (tmAt tm_shR 13 D cy ad A) A) args s 0 0 A) 4 D cy tm_shR ad 13 [] A z 73 [(0, .ref (ad 0))] [] w (K0 w)) (hL : ∀ (a2 a3 : Int32) (w : tmM), tmG p l e ({ frames := 4, cells := 0, slots := 0, locals := 88 } : Room) s m args below meth c 0 0 (MQ below (va_Qi (fun r u => z = (r, u)) (tmAt tm_shR 13 D cy ad A) A) args s 0 0 A) 4 D cy tm_shR ad 13 [] A z 17 [(0, .ref (ad 0)), (2, .int a2), (3, .int a3)] [] w (L a2 a3 w)) (x2 x3 : Int32) (v : tmM) : tmG p l e ({ frames := 4, cells := 0, slots := 0, locals := 88 } : Room) s m args below meth c 0 0 (MQ below (va_Qi (fun r u => z = (r, u)) (tmAt tm_shR 13 D cy ad A) A) args s 0 0 A) 4 D cy tm_shR ad 13 [] A z 51 [(0, .ref (ad 0)), (2, .int x2), (3, .int x3)] [] v (f_X8_differing_51 K0 L x2 x3 v) := by
  unfold f_X8_differing_51
  refine tg_iload_n 1 C0 dX8_differing_51 rfl rfl ?_
  refine tg_aload_n 0 C0 dX8_differing_52 rfl rfl ?_
  refine tg_iload_n 2 C0 dX8_differing_53 rfl rfl ?_
  refine tg_callVi (As := [.int x3]) 0 1 C0 dX8_differing_54 (c_X8_differs l x3 v) rfl rfl (by decide) rfl rfl (tm_gV tl_X8_78 ti_X8_differs ts_X8_differs tn_X8 tc_X8_differs)  rfl rfl rfl rfl (by decide +kernel) ⟨by decide, by decide⟩ (Nat.le_of_ble_eq_true rfl) ⟨by decide, by decide⟩ (fun r7 v6 _ => ?_)
  refine tg_if_eq 64 C0 dX8_differing_57 (by decide) (fun _ => ?_) (fun _ => ?_)
  · refine tg_iconst (x := 0) C0 dX8_differing_64 (by decide) ?_
    refine tg_sub [0, 2] rfl ?_
    exact w_X8_differing_65 C0 hK0 hL x3 0 x2 v6
  · refine tg_iconst (x := 1) C0 dX8_differing_60 (by decide) ?_
    refine tg_goto 65 C0 dX8_differing_61 (by decide) ?_
    refine tg_sub [0, 2] rfl ?_
    exact w_X8_differing_65 C0 hK0 hL x3 1 x2 v6
def f_X8_differing_17b (K0 : tmM → Option (Int32 × tmM)) (L : Int32 → Int32 → tmM → Option (Int32 × tmM)) (x2 x3 : Int32) (v : tmM) : Option (Int32 × tmM) := (if 60 ≤ x3 then K0 v else (if (v 0 0) = 0 then tm_cl (f_X8_isBoth v) fun r3 v2 => (if r3 = 0 then K0 v2 else tm_cl (f_X8_differs x3 v2) fun r5 v4 => (if r5 = 0 then f_X8_differing_51 K0 L x2 x3 v4 else (if x2 = 0 then some (x3, v4) else f_X8_differing_51 K0 L x2 x3 v4))) else K0 v))
set_option maxRecDepth 100000 in
set_option maxHeartbeats 4000000 in
theorem w_X8_differing_17b {p : Program} {l : Launch} {e : Env} {s : State} {m : MethodId} {args : Array Value} {below : List Frame} {meth : Method} {c : Code} {D : va_G} {cy : Nat → ClassId} {ad : Nat → Nat} {A : Nat → Prop} {z : (Int32 × tmM)} {K0 : tmM → Option (Int32 × tmM)} {L : Int32 → Int32 → tmM → Option (Int32 × tmM)} (C0 : tmC p s m args meth c cX8_differing 4 (some .int) RX8 TMW tm_NWR D cy tm_shR ad 13 [] A) (hK0 : ∀ (w : tmM), tmG p l e ({ frames := 4, cells := 0, slots := 0, locals := 88 } : Room) s m args below meth c 0 0 (MQ below (va_Qi (fun r u => z = (r, u)) (tmAt tm_shR 13 D cy ad A) A) args s 0 0 A) 4 D cy tm_shR ad 13 [] A z 73 [(0, .ref (ad 0))] [] w (K0 w)) (hL : ∀ (a2 a3 : Int32) (w : tmM), tmG p l e ({ frames := 4, cells := 0, slots := 0, locals := 88 } : Room) s m args below meth c 0 0 (MQ below (va_Qi (fun r u => z = (r, u)) (tmAt tm_shR 13 D cy ad A) A) args s 0 0 A) 4 D cy tm_shR ad 13 [] A z 17 [(0, .ref (ad 0)), (2, .int a2), (3, .int a3)] [] w (L a2 a3 w)) (x2 x3 : Int32) (v : tmM) : tmG p l e ({ frames := 4, cells := 0, slots := 0, locals := 88 } : Room) s m args below meth c 0 0 (MQ below (va_Qi (fun r u => z = (r, u)) (tmAt tm_shR 13 D cy ad A) A) args s 0 0 A) 4 D cy tm_shR ad 13 [] A z 17 [(0, .ref (ad 0)), (2, .int x2), (3, .int x3)] [] v (f_X8_differing_17b K0 L x2 x3 v) := by
  unfold f_X8_differing_17b
  refine tg_iload_n 2 C0 dX8_differing_17 rfl rfl ?_
  refine tg_bipush (x := 60) C0 dX8_differing_18 (by decide) ?_
  refine tg_icmp_ge 73 C0 dX8_differing_20 (by decide) (fun _ => ?_) (fun _ => ?_)
  · refine tg_sub [0] rfl ?_
    exact hK0 v
  · refine tg_aload_n 0 C0 dX8_differing_23 rfl rfl ?_
    refine tg_get 0 0 C0 dX8_differing_24 (by decide) rfl rfl tu_X8 (by decide) tf_X8_56 rfl rfl rfl ?_
    refine tg_if_ne 73 C0 dX8_differing_27 (by decide) (fun _ => ?_) (fun _ => ?_)
    · refine tg_sub [0] rfl ?_
      exact hK0 v
    · refine tg_aload_n 0 C0 dX8_differing_30 rfl rfl ?_
      refine tg_callVi (As := []) 0 0 C0 dX8_differing_31 (c_X8_isBoth l v) rfl rfl (by decide) rfl rfl (tm_gV tl_X8_140 ti_X8_isBoth ts_X8_isBoth tn_X8 tc_X8_isBoth)  rfl rfl rfl rfl (by decide +kernel) ⟨by decide, by decide⟩ (Nat.le_of_ble_eq_true rfl) ⟨by decide, by decide⟩ (fun r3 v2 _ => ?_)
      refine tg_if_eq 73 C0 dX8_differing_34 (by decide) (fun _ => ?_) (fun _ => ?_)
      · refine tg_sub [0] rfl ?_
        exact hK0 v2
      · refine tg_aload_n 0 C0 dX8_differing_37 rfl rfl ?_
        refine tg_iload_n 2 C0 dX8_differing_38 rfl rfl ?_
        refine tg_callVi (As := [.int x3]) 0 1 C0 dX8_differing_39 (c_X8_differs l x3 v2) rfl rfl (by decide) rfl rfl (tm_gV tl_X8_78 ti_X8_differs ts_X8_differs tn_X8 tc_X8_differs)  rfl rfl rfl rfl (by decide +kernel) ⟨by decide, by decide⟩ (Nat.le_of_ble_eq_true rfl) ⟨by decide, by decide⟩ (fun r5 v4 _ => ?_)
        refine tg_if_eq 51 C0 dX8_differing_42 (by decide) (fun _ => ?_) (fun _ => ?_)
        · exact w_X8_differing_51 C0 hK0 hL x2 x3 v4
        · refine tg_iload_n 1 C0 dX8_differing_45 rfl rfl ?_
          refine tg_if_ne 51 C0 dX8_differing_46 (by decide) (fun _ => ?_) (fun _ => ?_)
          · exact w_X8_differing_51 C0 hK0 hL x2 x3 v4
          · refine tg_iload_n 2 C0 dX8_differing_49 rfl rfl ?_
            exact tg_iret C0 dX8_differing_50
def f_X8_differing_17 (K0 : tmM → Option (Int32 × tmM)) : Nat → Int32 → Int32 → tmM → Option (Int32 × tmM)
  | 0 => fun _ _ _ => none
  | n + 1 => f_X8_differing_17b K0 (f_X8_differing_17 K0 n)
theorem w_X8_differing_17 {p : Program} {l : Launch} {e : Env} {s : State} {m : MethodId} {args : Array Value} {below : List Frame} {meth : Method} {c : Code} {D : va_G} {cy : Nat → ClassId} {ad : Nat → Nat} {A : Nat → Prop} {z : (Int32 × tmM)} {K0 : tmM → Option (Int32 × tmM)} (C0 : tmC p s m args meth c cX8_differing 4 (some .int) RX8 TMW tm_NWR D cy tm_shR ad 13 [] A) (hK0 : ∀ (w : tmM), tmG p l e ({ frames := 4, cells := 0, slots := 0, locals := 88 } : Room) s m args below meth c 0 0 (MQ below (va_Qi (fun r u => z = (r, u)) (tmAt tm_shR 13 D cy ad A) A) args s 0 0 A) 4 D cy tm_shR ad 13 [] A z 73 [(0, .ref (ad 0))] [] w (K0 w)) (nn : Nat) : ∀ (x2 x3 : Int32) (v : tmM), tmG p l e ({ frames := 4, cells := 0, slots := 0, locals := 88 } : Room) s m args below meth c 0 0 (MQ below (va_Qi (fun r u => z = (r, u)) (tmAt tm_shR 13 D cy ad A) A) args s 0 0 A) 4 D cy tm_shR ad 13 [] A z 17 [(0, .ref (ad 0)), (2, .int x2), (3, .int x3)] [] v (f_X8_differing_17 K0 nn x2 x3 v) := by
  induction nn with
  | zero => intro _ _ _; exact tg_none
  | succ n ih => intro x2 x3 v; exact w_X8_differing_17b C0 hK0 ih x2 x3 v
def f_X8_differing_73 (v : tmM) : Option (Int32 × tmM) := (if (v 0 0) ≤ 0 then some ((-1), v) else some (0, v))
set_option maxRecDepth 100000 in
set_option maxHeartbeats 4000000 in
theorem w_X8_differing_73 {p : Program} {l : Launch} {e : Env} {s : State} {m : MethodId} {args : Array Value} {below : List Frame} {meth : Method} {c : Code} {D : va_G} {cy : Nat → ClassId} {ad : Nat → Nat} {A : Nat → Prop} {z : (Int32 × tmM)} (C0 : tmC p s m args meth c cX8_differing 4 (some .int) RX8 TMW tm_NWR D cy tm_shR ad 13 [] A) (v : tmM) : tmG p l e ({ frames := 4, cells := 0, slots := 0, locals := 88 } : Room) s m args below meth c 0 0 (MQ below (va_Qi (fun r u => z = (r, u)) (tmAt tm_shR 13 D cy ad A) A) args s 0 0 A) 4 D cy tm_shR ad 13 [] A z 73 [(0, .ref (ad 0))] [] v (f_X8_differing_73 v) := by
  unfold f_X8_differing_73
  refine tg_aload_n 0 C0 dX8_differing_73 rfl rfl ?_
  refine tg_get 0 0 C0 dX8_differing_74 (by decide) rfl rfl tu_X8 (by decide) tf_X8_56 rfl rfl rfl ?_
  refine tg_if_le 84 C0 dX8_differing_77 (by decide) (fun _ => ?_) (fun _ => ?_)
  · refine tg_iconst (x := (-1)) C0 dX8_differing_84 (by decide) ?_
    exact tg_iret C0 dX8_differing_85
  · refine tg_iconst (x := 0) C0 dX8_differing_80 (by decide) ?_
    refine tg_goto 85 C0 dX8_differing_81 (by decide) ?_
    exact tg_iret C0 dX8_differing_85
def f_X8_differing_10 (x1 s0 : Int32) (v : tmM) : Option (Int32 × tmM) := tm_lt (tm_up v 0 0 s0) fun v1 => f_X8_differing_17 (fun v9 => f_X8_differing_73 v9) 10000 x1 0 v1
set_option maxRecDepth 100000 in
set_option maxHeartbeats 4000000 in
theorem w_X8_differing_10 {p : Program} {l : Launch} {e : Env} {s : State} {m : MethodId} {args : Array Value} {below : List Frame} {meth : Method} {c : Code} {D : va_G} {cy : Nat → ClassId} {ad : Nat → Nat} {A : Nat → Prop} {z : (Int32 × tmM)} (C0 : tmC p s m args meth c cX8_differing 4 (some .int) RX8 TMW tm_NWR D cy tm_shR ad 13 [] A) (x1 s0 : Int32) (v : tmM) : tmG p l e ({ frames := 4, cells := 0, slots := 0, locals := 88 } : Room) s m args below meth c 0 0 (MQ below (va_Qi (fun r u => z = (r, u)) (tmAt tm_shR 13 D cy ad A) A) args s 0 0 A) 4 D cy tm_shR ad 13 [] A z 10 [(0, .ref (ad 0)), (1, .int x1)] [.int s0, .ref (ad 0)] v (f_X8_differing_10 x1 s0 v) := by
  unfold f_X8_differing_10
  refine tg_put 0 0 C0 dX8_differing_10 (by decide) rfl rfl tu_X8 tyX8_ok nmX8 (by decide) tf_X8_56 rfl rfl rfl rfl rfl rfl ?_
  refine tg_letm (fun v1 _ => ?_)
  refine tg_iload_n 1 C0 dX8_differing_13 rfl rfl ?_
  refine tg_istore_n [(2, .int x1), (0, .ref (ad 0)), (1, .int x1)] C0 dX8_differing_14 rfl (by decide) rfl ?_
  refine tg_iconst (x := 0) C0 dX8_differing_15 (by decide) ?_
  refine tg_istore_n [(3, .int 0), (2, .int x1), (0, .ref (ad 0)), (1, .int x1)] C0 dX8_differing_16 rfl (by decide) rfl ?_
  refine tg_sub [2, 1, 0] rfl ?_
  refine w_X8_differing_17 C0 (fun v9 => ?_) 10000 x1 0 v1
  exact w_X8_differing_73 C0 v9
def f_X8_differing (x1 : Int32) (v : tmM) : Option (Int32 × tmM) := (if x1 < 0 then f_X8_differing_10 x1 1 v else f_X8_differing_10 x1 0 v)
set_option maxRecDepth 100000 in
set_option maxHeartbeats 4000000 in
theorem w_X8_differing {p : Program} {l : Launch} {e : Env} {s : State} {m : MethodId} {args : Array Value} {below : List Frame} {meth : Method} {c : Code} {D : va_G} {cy : Nat → ClassId} {ad : Nat → Nat} {A : Nat → Prop} {z : (Int32 × tmM)} (C0 : tmC p s m args meth c cX8_differing 4 (some .int) RX8 TMW tm_NWR D cy tm_shR ad 13 [] A) (x1 : Int32) (v : tmM) : tmG p l e ({ frames := 4, cells := 0, slots := 0, locals := 88 } : Room) s m args below meth c 0 0 (MQ below (va_Qi (fun r u => z = (r, u)) (tmAt tm_shR 13 D cy ad A) A) args s 0 0 A) 4 D cy tm_shR ad 13 [] A z 0 [(0, .ref (ad 0)), (1, .int x1)] [] v (f_X8_differing x1 v) := by
  unfold f_X8_differing
  refine tg_aload_n 0 C0 dX8_differing_0 rfl rfl ?_
  refine tg_iload_n 1 C0 dX8_differing_1 rfl rfl ?_
  refine tg_if_lt 9 C0 dX8_differing_2 (by decide) (fun _ => ?_) (fun _ => ?_)
  · refine tg_iconst (x := 1) C0 dX8_differing_9 (by decide) ?_
    exact w_X8_differing_10 C0 x1 1 v
  · refine tg_iconst (x := 0) C0 dX8_differing_5 (by decide) ?_
    refine tg_goto 10 C0 dX8_differing_6 (by decide) ?_
    exact w_X8_differing_10 C0 x1 0 v
theorem c_X8_differing (l : Launch) (x1 : Int32) (v : tmM) : tmMi tm_NWR tm_shR 13 l yX8_differing (Cond.code yX8_differing cX8_differing 4 (some .int) :: TMW) ({ frames := 4, cells := 0, slots := 0, locals := 88 } : Room) (fun ad => [.ref (ad 0), .int x1]) v (f_X8_differing x1 v) :=
  tmMi.of (cc := cX8_differing) (nL := 4) (by decide +kernel) rfl tm_NWR_ok (fun _ => Nat.le_of_ble_eq_true rfl) (fun p e s m args below meth c A D cy ad z C0 => w_X8_differing C0 x1 v)
-- ----- X8_isSide
theorem dX8_isSide_0 : decode cX8_isSide 0 = .ok (.iload_n 0, 1) := by decide +kernel
theorem dX8_isSide_1 : decode cX8_isSide 1 = .ok (.iconst 0, 1) := by decide +kernel
theorem dX8_isSide_2 : decode cX8_isSide 2 = .ok (.iconst 1, 1) := by decide +kernel
theorem dX8_isSide_3 : decode cX8_isSide 3 = .ok (.invokestatic 63, 3) := by decide +kernel
theorem dX8_isSide_6 : decode cX8_isSide 6 = .ok (.ireturn, 1) := by decide +kernel
def f_X8_isSide (x0 : Int32) (v : tmM) : Option (Int32 × tmM) := tm_cl (f_X8_in x0 0 1 v) fun r2 v1 => tm_g (tm_bi r2) (some (r2, v1))
set_option maxRecDepth 100000 in
set_option maxHeartbeats 4000000 in
theorem w_X8_isSide {p : Program} {l : Launch} {e : Env} {s : State} {m : MethodId} {args : Array Value} {below : List Frame} {meth : Method} {c : Code} {D : va_G} {cy : Nat → ClassId} {ad : Nat → Nat} {A : Nat → Prop} {z : (Int32 × tmM)} (C0 : tmC p s m args meth c cX8_isSide 1 (some .boolean) RX8 TMW tm_NWR D cy tm_shR ad 13 [] A) (x0 : Int32) (v : tmM) : tmG p l e ({ frames := 1, cells := 0, slots := 0, locals := 22 } : Room) s m args below meth c 0 0 (MQ below (va_Qi (fun r u => z = (r, u)) (tmAt tm_shR 13 D cy ad A) A) args s 0 0 A) 1 D cy tm_shR ad 13 [] A z 0 [(0, .int x0)] [] v (f_X8_isSide x0 v) := by
  unfold f_X8_isSide
  refine tg_iload_n 0 C0 dX8_isSide_0 rfl rfl ?_
  refine tg_iconst (x := 0) C0 dX8_isSide_1 (by decide) ?_
  refine tg_iconst (x := 1) C0 dX8_isSide_2 (by decide) ?_
  refine tg_callSi (As := [.int x0, .int 0, .int 1]) 3 C0 dX8_isSide_3 (c_X8_in l x0 0 1 v) rfl rfl (tm_gc tc_X8_in) tl_X8_63 tn_X8 tst_X8_in  rfl rfl rfl rfl (by decide +kernel) ⟨by decide, by decide⟩ (Nat.le_of_ble_eq_true rfl) ⟨by decide, by decide⟩ (fun r2 v1 _ => ?_)
  exact tg_bret C0 dX8_isSide_6
theorem c_X8_isSide (l : Launch) (x0 : Int32) (v : tmM) : tmMi tm_NWR tm_shR 13 l yX8_isSide (Cond.code yX8_isSide cX8_isSide 1 (some .boolean) :: TMW) ({ frames := 1, cells := 0, slots := 0, locals := 22 } : Room) (fun ad => [.int x0]) v (f_X8_isSide x0 v) :=
  tmMi.of (cc := cX8_isSide) (nL := 1) (by decide +kernel) rfl tm_NWR_ok (fun _ => Nat.le_of_ble_eq_true rfl) (fun p e s m args below meth c A D cy ad z C0 => w_X8_isSide C0 x0 v)
-- ----- X8_lookup
theorem dX8_lookup_0 : decode cX8_lookup 0 = .ok (.aload_n 0, 1) := by decide +kernel
theorem dX8_lookup_1 : decode cX8_lookup 1 = .ok (.iload_n 1, 1) := by decide +kernel
theorem dX8_lookup_2 : decode cX8_lookup 2 = .ok (.invokestatic 268, 3) := by decide +kernel
theorem dX8_lookup_5 : decode cX8_lookup 5 = .ok (.ifCond .ne 7, 3) := by decide +kernel
theorem dX8_lookup_8 : decode cX8_lookup 8 = .ok (.iconst 1, 1) := by decide +kernel
theorem dX8_lookup_9 : decode cX8_lookup 9 = .ok (.goto 19, 3) := by decide +kernel
theorem dX8_lookup_12 : decode cX8_lookup 12 = .ok (.iload_n 2, 1) := by decide +kernel
theorem dX8_lookup_13 : decode cX8_lookup 13 = .ok (.iconst 0, 1) := by decide +kernel
theorem dX8_lookup_14 : decode cX8_lookup 14 = .ok (.sipush 999, 3) := by decide +kernel
theorem dX8_lookup_17 : decode cX8_lookup 17 = .ok (.invokestatic 63, 3) := by decide +kernel
theorem dX8_lookup_20 : decode cX8_lookup 20 = .ok (.ifCond .eq 7, 3) := by decide +kernel
theorem dX8_lookup_23 : decode cX8_lookup 23 = .ok (.iconst 0, 1) := by decide +kernel
theorem dX8_lookup_24 : decode cX8_lookup 24 = .ok (.goto 4, 3) := by decide +kernel
theorem dX8_lookup_27 : decode cX8_lookup 27 = .ok (.iconst 2, 1) := by decide +kernel
theorem dX8_lookup_28 : decode cX8_lookup 28 = .ok (.putfield 56, 3) := by decide +kernel
theorem dX8_lookup_31 : decode cX8_lookup 31 = .ok (.iconst 0, 1) := by decide +kernel
theorem dX8_lookup_32 : decode cX8_lookup 32 = .ok (.istore_n 3, 1) := by decide +kernel
theorem dX8_lookup_33 : decode cX8_lookup 33 = .ok (.iload_n 3, 1) := by decide +kernel
theorem dX8_lookup_34 : decode cX8_lookup 34 = .ok (.bipush 60, 2) := by decide +kernel
theorem dX8_lookup_36 : decode cX8_lookup 36 = .ok (.if_icmp .ge 28, 3) := by decide +kernel
theorem dX8_lookup_39 : decode cX8_lookup 39 = .ok (.aload_n 0, 1) := by decide +kernel
theorem dX8_lookup_40 : decode cX8_lookup 40 = .ok (.getfield 56, 3) := by decide +kernel
theorem dX8_lookup_43 : decode cX8_lookup 43 = .ok (.ifCond .ne 21, 3) := by decide +kernel
theorem dX8_lookup_46 : decode cX8_lookup 46 = .ok (.aload_n 0, 1) := by decide +kernel
theorem dX8_lookup_47 : decode cX8_lookup 47 = .ok (.iload_n 1, 1) := by decide +kernel
theorem dX8_lookup_48 : decode cX8_lookup 48 = .ok (.iload_n 3, 1) := by decide +kernel
theorem dX8_lookup_49 : decode cX8_lookup 49 = .ok (.invokevirtual 74, 3) := by decide +kernel
theorem dX8_lookup_52 : decode cX8_lookup 52 = .ok (.iload_n 2, 1) := by decide +kernel
theorem dX8_lookup_53 : decode cX8_lookup 53 = .ok (.if_icmp .ne 5, 3) := by decide +kernel
theorem dX8_lookup_56 : decode cX8_lookup 56 = .ok (.iload_n 3, 1) := by decide +kernel
theorem dX8_lookup_57 : decode cX8_lookup 57 = .ok (.ireturn, 1) := by decide +kernel
theorem dX8_lookup_58 : decode cX8_lookup 58 = .ok (.iinc 3 1, 3) := by decide +kernel
theorem dX8_lookup_61 : decode cX8_lookup 61 = .ok (.goto (-28), 3) := by decide +kernel
theorem dX8_lookup_64 : decode cX8_lookup 64 = .ok (.aload_n 0, 1) := by decide +kernel
theorem dX8_lookup_65 : decode cX8_lookup 65 = .ok (.getfield 56, 3) := by decide +kernel
theorem dX8_lookup_68 : decode cX8_lookup 68 = .ok (.ifCond .le 7, 3) := by decide +kernel
theorem dX8_lookup_71 : decode cX8_lookup 71 = .ok (.iconst 0, 1) := by decide +kernel
theorem dX8_lookup_72 : decode cX8_lookup 72 = .ok (.goto 4, 3) := by decide +kernel
theorem dX8_lookup_75 : decode cX8_lookup 75 = .ok (.iconst (-1), 1) := by decide +kernel
theorem dX8_lookup_76 : decode cX8_lookup 76 = .ok (.ireturn, 1) := by decide +kernel
theorem tc_X8_isSide : Cond.code yX8_isSide cX8_isSide 1 (some .boolean) ∈ TMW := tm_in 2015 (by decide +kernel) (by decide +kernel)
theorem tl_X8_268 : Cond.methodLink RX8 268 yX8_isSide ∈ TMW := tm_in 2013 (by decide +kernel) (by decide +kernel)
theorem tst_X8_isSide : Cond.static yX8_isSide ∈ TMW := tm_in 2014 (by decide +kernel) (by decide +kernel)
def f_X8_lookup_33b (K0 : tmM → Option (Int32 × tmM)) (L : Int32 → Int32 → Int32 → tmM → Option (Int32 × tmM)) (x1 x2 x3 : Int32) (v : tmM) : Option (Int32 × tmM) := (if 60 ≤ x3 then K0 v else (if (v 0 0) = 0 then tm_cl (f_X8_valueIn x1 x3 v) fun r7 v6 => (if r7 = x2 then some (x3, v6) else L x1 x2 (x3 + 1) v6) else K0 v))
set_option maxRecDepth 100000 in
set_option maxHeartbeats 4000000 in
theorem w_X8_lookup_33b {p : Program} {l : Launch} {e : Env} {s : State} {m : MethodId} {args : Array Value} {below : List Frame} {meth : Method} {c : Code} {D : va_G} {cy : Nat → ClassId} {ad : Nat → Nat} {A : Nat → Prop} {z : (Int32 × tmM)} {K0 : tmM → Option (Int32 × tmM)} {L : Int32 → Int32 → Int32 → tmM → Option (Int32 × tmM)} (C0 : tmC p s m args meth c cX8_lookup 4 (some .int) RX8 TMW tm_NWR D cy tm_shR ad 13 [] A) (hK0 : ∀ (w : tmM), tmG p l e ({ frames := 3, cells := 0, slots := 0, locals := 67 } : Room) s m args below meth c 0 0 (MQ below (va_Qi (fun r u => z = (r, u)) (tmAt tm_shR 13 D cy ad A) A) args s 0 0 A) 4 D cy tm_shR ad 13 [] A z 64 [(0, .ref (ad 0))] [] w (K0 w)) (hL : ∀ (a1 a2 a3 : Int32) (w : tmM), tmG p l e ({ frames := 3, cells := 0, slots := 0, locals := 67 } : Room) s m args below meth c 0 0 (MQ below (va_Qi (fun r u => z = (r, u)) (tmAt tm_shR 13 D cy ad A) A) args s 0 0 A) 4 D cy tm_shR ad 13 [] A z 33 [(0, .ref (ad 0)), (1, .int a1), (2, .int a2), (3, .int a3)] [] w (L a1 a2 a3 w)) (x1 x2 x3 : Int32) (v : tmM) : tmG p l e ({ frames := 3, cells := 0, slots := 0, locals := 67 } : Room) s m args below meth c 0 0 (MQ below (va_Qi (fun r u => z = (r, u)) (tmAt tm_shR 13 D cy ad A) A) args s 0 0 A) 4 D cy tm_shR ad 13 [] A z 33 [(0, .ref (ad 0)), (1, .int x1), (2, .int x2), (3, .int x3)] [] v (f_X8_lookup_33b K0 L x1 x2 x3 v) := by
  unfold f_X8_lookup_33b
  refine tg_iload_n 3 C0 dX8_lookup_33 rfl rfl ?_
  refine tg_bipush (x := 60) C0 dX8_lookup_34 (by decide) ?_
  refine tg_icmp_ge 64 C0 dX8_lookup_36 (by decide) (fun _ => ?_) (fun _ => ?_)
  · refine tg_sub [0] rfl ?_
    exact hK0 v
  · refine tg_aload_n 0 C0 dX8_lookup_39 rfl rfl ?_
    refine tg_get 0 0 C0 dX8_lookup_40 (by decide) rfl rfl tu_X8 (by decide) tf_X8_56 rfl rfl rfl ?_
    refine tg_if_ne 64 C0 dX8_lookup_43 (by decide) (fun _ => ?_) (fun _ => ?_)
    · refine tg_sub [0] rfl ?_
      exact hK0 v
    · refine tg_aload_n 0 C0 dX8_lookup_46 rfl rfl ?_
      refine tg_iload_n 1 C0 dX8_lookup_47 rfl rfl ?_
      refine tg_iload_n 3 C0 dX8_lookup_48 rfl rfl ?_
      refine tg_callVi (As := [.int x1, .int x3]) 0 2 C0 dX8_lookup_49 (c_X8_valueIn l x1 x3 v) rfl rfl (by decide) rfl rfl (tm_gV tl_X8_74 ti_X8_valueIn ts_X8_valueIn tn_X8 tc_X8_valueIn)  rfl rfl rfl rfl (by decide +kernel) ⟨by decide, by decide⟩ (Nat.le_of_ble_eq_true rfl) ⟨by decide, by decide⟩ (fun r7 v6 _ => ?_)
      refine tg_iload_n 2 C0 dX8_lookup_52 rfl rfl ?_
      refine tg_icmp_ne 58 C0 dX8_lookup_53 (by decide) (fun _ => ?_) (fun _ => ?_)
      · refine tg_iinc [(3, .int (x3 + 1)), (0, .ref (ad 0)), (1, .int x1), (2, .int x2)] 3 C0 dX8_lookup_58 rfl rfl (by decide) rfl ?_
        refine tg_goto 33 C0 dX8_lookup_61 (by decide) ?_
        refine tg_sub [1, 2, 3, 0] rfl ?_
        exact hL x1 x2 (x3 + 1) v6
      · refine tg_iload_n 3 C0 dX8_lookup_56 rfl rfl ?_
        exact tg_iret C0 dX8_lookup_57
def f_X8_lookup_33 (K0 : tmM → Option (Int32 × tmM)) : Nat → Int32 → Int32 → Int32 → tmM → Option (Int32 × tmM)
  | 0 => fun _ _ _ _ => none
  | n + 1 => f_X8_lookup_33b K0 (f_X8_lookup_33 K0 n)
theorem w_X8_lookup_33 {p : Program} {l : Launch} {e : Env} {s : State} {m : MethodId} {args : Array Value} {below : List Frame} {meth : Method} {c : Code} {D : va_G} {cy : Nat → ClassId} {ad : Nat → Nat} {A : Nat → Prop} {z : (Int32 × tmM)} {K0 : tmM → Option (Int32 × tmM)} (C0 : tmC p s m args meth c cX8_lookup 4 (some .int) RX8 TMW tm_NWR D cy tm_shR ad 13 [] A) (hK0 : ∀ (w : tmM), tmG p l e ({ frames := 3, cells := 0, slots := 0, locals := 67 } : Room) s m args below meth c 0 0 (MQ below (va_Qi (fun r u => z = (r, u)) (tmAt tm_shR 13 D cy ad A) A) args s 0 0 A) 4 D cy tm_shR ad 13 [] A z 64 [(0, .ref (ad 0))] [] w (K0 w)) (nn : Nat) : ∀ (x1 x2 x3 : Int32) (v : tmM), tmG p l e ({ frames := 3, cells := 0, slots := 0, locals := 67 } : Room) s m args below meth c 0 0 (MQ below (va_Qi (fun r u => z = (r, u)) (tmAt tm_shR 13 D cy ad A) A) args s 0 0 A) 4 D cy tm_shR ad 13 [] A z 33 [(0, .ref (ad 0)), (1, .int x1), (2, .int x2), (3, .int x3)] [] v (f_X8_lookup_33 K0 nn x1 x2 x3 v) := by
  induction nn with
  | zero => intro _ _ _ _; exact tg_none
  | succ n ih => intro x1 x2 x3 v; exact w_X8_lookup_33b C0 hK0 ih x1 x2 x3 v
def f_X8_lookup_64 (v : tmM) : Option (Int32 × tmM) := (if (v 0 0) ≤ 0 then some ((-1), v) else some (0, v))
set_option maxRecDepth 100000 in
set_option maxHeartbeats 4000000 in
theorem w_X8_lookup_64 {p : Program} {l : Launch} {e : Env} {s : State} {m : MethodId} {args : Array Value} {below : List Frame} {meth : Method} {c : Code} {D : va_G} {cy : Nat → ClassId} {ad : Nat → Nat} {A : Nat → Prop} {z : (Int32 × tmM)} (C0 : tmC p s m args meth c cX8_lookup 4 (some .int) RX8 TMW tm_NWR D cy tm_shR ad 13 [] A) (v : tmM) : tmG p l e ({ frames := 3, cells := 0, slots := 0, locals := 67 } : Room) s m args below meth c 0 0 (MQ below (va_Qi (fun r u => z = (r, u)) (tmAt tm_shR 13 D cy ad A) A) args s 0 0 A) 4 D cy tm_shR ad 13 [] A z 64 [(0, .ref (ad 0))] [] v (f_X8_lookup_64 v) := by
  unfold f_X8_lookup_64
  refine tg_aload_n 0 C0 dX8_lookup_64 rfl rfl ?_
  refine tg_get 0 0 C0 dX8_lookup_65 (by decide) rfl rfl tu_X8 (by decide) tf_X8_56 rfl rfl rfl ?_
  refine tg_if_le 75 C0 dX8_lookup_68 (by decide) (fun _ => ?_) (fun _ => ?_)
  · refine tg_iconst (x := (-1)) C0 dX8_lookup_75 (by decide) ?_
    exact tg_iret C0 dX8_lookup_76
  · refine tg_iconst (x := 0) C0 dX8_lookup_71 (by decide) ?_
    refine tg_goto 76 C0 dX8_lookup_72 (by decide) ?_
    exact tg_iret C0 dX8_lookup_76
def f_X8_lookup_28 (x1 x2 s0 : Int32) (v : tmM) : Option (Int32 × tmM) := tm_lt (tm_up v 0 0 s0) fun v5 => f_X8_lookup_33 (fun v8 => f_X8_lookup_64 v8) 10000 x1 x2 0 v5
set_option maxRecDepth 100000 in
set_option maxHeartbeats 4000000 in
theorem w_X8_lookup_28 {p : Program} {l : Launch} {e : Env} {s : State} {m : MethodId} {args : Array Value} {below : List Frame} {meth : Method} {c : Code} {D : va_G} {cy : Nat → ClassId} {ad : Nat → Nat} {A : Nat → Prop} {z : (Int32 × tmM)} (C0 : tmC p s m args meth c cX8_lookup 4 (some .int) RX8 TMW tm_NWR D cy tm_shR ad 13 [] A) (x1 x2 s0 : Int32) (v : tmM) : tmG p l e ({ frames := 3, cells := 0, slots := 0, locals := 67 } : Room) s m args below meth c 0 0 (MQ below (va_Qi (fun r u => z = (r, u)) (tmAt tm_shR 13 D cy ad A) A) args s 0 0 A) 4 D cy tm_shR ad 13 [] A z 28 [(0, .ref (ad 0)), (1, .int x1), (2, .int x2)] [.int s0, .ref (ad 0)] v (f_X8_lookup_28 x1 x2 s0 v) := by
  unfold f_X8_lookup_28
  refine tg_put 0 0 C0 dX8_lookup_28 (by decide) rfl rfl tu_X8 tyX8_ok nmX8 (by decide) tf_X8_56 rfl rfl rfl rfl rfl rfl ?_
  refine tg_letm (fun v5 _ => ?_)
  refine tg_iconst (x := 0) C0 dX8_lookup_31 (by decide) ?_
  refine tg_istore_n [(3, .int 0), (0, .ref (ad 0)), (1, .int x1), (2, .int x2)] C0 dX8_lookup_32 rfl (by decide) rfl ?_
  refine tg_sub [1, 2, 3, 0] rfl ?_
  refine w_X8_lookup_33 C0 (fun v8 => ?_) 10000 x1 x2 0 v5
  exact w_X8_lookup_64 C0 v8
def f_X8_lookup (x1 x2 : Int32) (v : tmM) : Option (Int32 × tmM) := tm_cl (f_X8_isSide x1 v) fun r2 v1 => (if r2 = 0 then f_X8_lookup_28 x1 x2 1 v1 else tm_cl (f_X8_in x2 0 999 v1) fun r4 v3 => (if r4 = 0 then f_X8_lookup_28 x1 x2 2 v3 else f_X8_lookup_28 x1 x2 0 v3))
set_option maxRecDepth 100000 in
set_option maxHeartbeats 4000000 in
theorem w_X8_lookup {p : Program} {l : Launch} {e : Env} {s : State} {m : MethodId} {args : Array Value} {below : List Frame} {meth : Method} {c : Code} {D : va_G} {cy : Nat → ClassId} {ad : Nat → Nat} {A : Nat → Prop} {z : (Int32 × tmM)} (C0 : tmC p s m args meth c cX8_lookup 4 (some .int) RX8 TMW tm_NWR D cy tm_shR ad 13 [] A) (x1 x2 : Int32) (v : tmM) : tmG p l e ({ frames := 3, cells := 0, slots := 0, locals := 67 } : Room) s m args below meth c 0 0 (MQ below (va_Qi (fun r u => z = (r, u)) (tmAt tm_shR 13 D cy ad A) A) args s 0 0 A) 4 D cy tm_shR ad 13 [] A z 0 [(0, .ref (ad 0)), (1, .int x1), (2, .int x2)] [] v (f_X8_lookup x1 x2 v) := by
  unfold f_X8_lookup
  refine tg_aload_n 0 C0 dX8_lookup_0 rfl rfl ?_
  refine tg_iload_n 1 C0 dX8_lookup_1 rfl rfl ?_
  refine tg_callSi (As := [.int x1]) 1 C0 dX8_lookup_2 (c_X8_isSide l x1 v) rfl rfl (tm_gc tc_X8_isSide) tl_X8_268 tn_X8 tst_X8_isSide  rfl rfl rfl rfl (by decide +kernel) ⟨by decide, by decide⟩ (Nat.le_of_ble_eq_true rfl) ⟨by decide, by decide⟩ (fun r2 v1 _ => ?_)
  refine tg_if_ne 12 C0 dX8_lookup_5 (by decide) (fun _ => ?_) (fun _ => ?_)
  · refine tg_iload_n 2 C0 dX8_lookup_12 rfl rfl ?_
    refine tg_iconst (x := 0) C0 dX8_lookup_13 (by decide) ?_
    refine tg_sipush (x := 999) C0 dX8_lookup_14 (by decide) ?_
    refine tg_callSi (As := [.int x2, .int 0, .int 999]) 3 C0 dX8_lookup_17 (c_X8_in l x2 0 999 v1) rfl rfl (tm_gc tc_X8_in) tl_X8_63 tn_X8 tst_X8_in  rfl rfl rfl rfl (by decide +kernel) ⟨by decide, by decide⟩ (Nat.le_of_ble_eq_true rfl) ⟨by decide, by decide⟩ (fun r4 v3 _ => ?_)
    refine tg_if_eq 27 C0 dX8_lookup_20 (by decide) (fun _ => ?_) (fun _ => ?_)
    · refine tg_iconst (x := 2) C0 dX8_lookup_27 (by decide) ?_
      exact w_X8_lookup_28 C0 x1 x2 2 v3
    · refine tg_iconst (x := 0) C0 dX8_lookup_23 (by decide) ?_
      refine tg_goto 28 C0 dX8_lookup_24 (by decide) ?_
      exact w_X8_lookup_28 C0 x1 x2 0 v3
  · refine tg_iconst (x := 1) C0 dX8_lookup_8 (by decide) ?_
    refine tg_goto 28 C0 dX8_lookup_9 (by decide) ?_
    exact w_X8_lookup_28 C0 x1 x2 1 v1
theorem c_X8_lookup (l : Launch) (x1 x2 : Int32) (v : tmM) : tmMi tm_NWR tm_shR 13 l yX8_lookup (Cond.code yX8_lookup cX8_lookup 4 (some .int) :: TMW) ({ frames := 3, cells := 0, slots := 0, locals := 67 } : Room) (fun ad => [.ref (ad 0), .int x1, .int x2]) v (f_X8_lookup x1 x2 v) :=
  tmMi.of (cc := cX8_lookup) (nL := 4) (by decide +kernel) rfl tm_NWR_ok (fun _ => Nat.le_of_ble_eq_true rfl) (fun p e s m args below meth c A D cy ad z C0 => w_X8_lookup C0 x1 x2 v)
-- ----- X8_adds
theorem dX8_adds_0 : decode cX8_adds 0 = .ok (.aload_n 0, 1) := by decide +kernel
theorem dX8_adds_1 : decode cX8_adds 1 = .ok (.iconst 0, 1) := by decide +kernel
theorem dX8_adds_2 : decode cX8_adds 2 = .ok (.putfield 271, 3) := by decide +kernel
theorem dX8_adds_5 : decode cX8_adds 5 = .ok (.aload_n 0, 1) := by decide +kernel
theorem dX8_adds_6 : decode cX8_adds 6 = .ok (.iconst 0, 1) := by decide +kernel
theorem dX8_adds_7 : decode cX8_adds 7 = .ok (.putfield 274, 3) := by decide +kernel
theorem dX8_adds_10 : decode cX8_adds 10 = .ok (.aload_n 0, 1) := by decide +kernel
theorem dX8_adds_11 : decode cX8_adds 11 = .ok (.iconst (-1), 1) := by decide +kernel
theorem dX8_adds_12 : decode cX8_adds 12 = .ok (.putfield 277, 3) := by decide +kernel
theorem dX8_adds_15 : decode cX8_adds 15 = .ok (.aload_n 0, 1) := by decide +kernel
theorem dX8_adds_16 : decode cX8_adds 16 = .ok (.iconst (-1), 1) := by decide +kernel
theorem dX8_adds_17 : decode cX8_adds 17 = .ok (.putfield 280, 3) := by decide +kernel
theorem dX8_adds_20 : decode cX8_adds 20 = .ok (.aload_n 0, 1) := by decide +kernel
theorem dX8_adds_21 : decode cX8_adds 21 = .ok (.iconst 0, 1) := by decide +kernel
theorem dX8_adds_22 : decode cX8_adds 22 = .ok (.putfield 283, 3) := by decide +kernel
theorem dX8_adds_25 : decode cX8_adds 25 = .ok (.iconst 0, 1) := by decide +kernel
theorem dX8_adds_26 : decode cX8_adds 26 = .ok (.istore_n 2, 1) := by decide +kernel
theorem dX8_adds_27 : decode cX8_adds 27 = .ok (.iload_n 2, 1) := by decide +kernel
theorem dX8_adds_28 : decode cX8_adds 28 = .ok (.bipush 60, 2) := by decide +kernel
theorem dX8_adds_30 : decode cX8_adds 30 = .ok (.if_icmp .ge 108, 3) := by decide +kernel
theorem dX8_adds_33 : decode cX8_adds 33 = .ok (.aload_n 0, 1) := by decide +kernel
theorem dX8_adds_34 : decode cX8_adds 34 = .ok (.iload_n 1, 1) := by decide +kernel
theorem dX8_adds_35 : decode cX8_adds 35 = .ok (.iload_n 2, 1) := by decide +kernel
theorem dX8_adds_36 : decode cX8_adds 36 = .ok (.invokevirtual 74, 3) := by decide +kernel
theorem dX8_adds_39 : decode cX8_adds 39 = .ok (.istore_n 3, 1) := by decide +kernel
theorem dX8_adds_40 : decode cX8_adds 40 = .ok (.aload_n 0, 1) := by decide +kernel
theorem dX8_adds_41 : decode cX8_adds 41 = .ok (.dup, 1) := by decide +kernel
theorem dX8_adds_42 : decode cX8_adds 42 = .ok (.getfield 283, 3) := by decide +kernel
theorem dX8_adds_45 : decode cX8_adds 45 = .ok (.iload_n 3, 1) := by decide +kernel
theorem dX8_adds_46 : decode cX8_adds 46 = .ok (.bipush (-3), 2) := by decide +kernel
theorem dX8_adds_48 : decode cX8_adds 48 = .ok (.if_icmp .ne 7, 3) := by decide +kernel
theorem dX8_adds_51 : decode cX8_adds 51 = .ok (.iconst 1, 1) := by decide +kernel
theorem dX8_adds_52 : decode cX8_adds 52 = .ok (.goto 4, 3) := by decide +kernel
theorem dX8_adds_55 : decode cX8_adds 55 = .ok (.iconst 0, 1) := by decide +kernel
theorem dX8_adds_56 : decode cX8_adds 56 = .ok (.iadd, 1) := by decide +kernel
theorem dX8_adds_57 : decode cX8_adds 57 = .ok (.putfield 283, 3) := by decide +kernel
theorem dX8_adds_60 : decode cX8_adds 60 = .ok (.iload_n 3, 1) := by decide +kernel
theorem dX8_adds_61 : decode cX8_adds 61 = .ok (.ifCond .lt 71, 3) := by decide +kernel
theorem dX8_adds_64 : decode cX8_adds 64 = .ok (.aload_n 0, 1) := by decide +kernel
theorem dX8_adds_65 : decode cX8_adds 65 = .ok (.dup, 1) := by decide +kernel
theorem dX8_adds_66 : decode cX8_adds 66 = .ok (.getfield 271, 3) := by decide +kernel
theorem dX8_adds_69 : decode cX8_adds 69 = .ok (.iload_n 3, 1) := by decide +kernel
theorem dX8_adds_70 : decode cX8_adds 70 = .ok (.iadd, 1) := by decide +kernel
theorem dX8_adds_71 : decode cX8_adds 71 = .ok (.putfield 271, 3) := by decide +kernel
theorem dX8_adds_74 : decode cX8_adds 74 = .ok (.aload_n 0, 1) := by decide +kernel
theorem dX8_adds_75 : decode cX8_adds 75 = .ok (.dup, 1) := by decide +kernel
theorem dX8_adds_76 : decode cX8_adds 76 = .ok (.getfield 274, 3) := by decide +kernel
theorem dX8_adds_79 : decode cX8_adds 79 = .ok (.iconst 1, 1) := by decide +kernel
theorem dX8_adds_80 : decode cX8_adds 80 = .ok (.iadd, 1) := by decide +kernel
theorem dX8_adds_81 : decode cX8_adds 81 = .ok (.putfield 274, 3) := by decide +kernel
theorem dX8_adds_84 : decode cX8_adds 84 = .ok (.aload_n 0, 1) := by decide +kernel
theorem dX8_adds_85 : decode cX8_adds 85 = .ok (.aload_n 0, 1) := by decide +kernel
theorem dX8_adds_86 : decode cX8_adds 86 = .ok (.getfield 277, 3) := by decide +kernel
theorem dX8_adds_89 : decode cX8_adds 89 = .ok (.iconst (-1), 1) := by decide +kernel
theorem dX8_adds_90 : decode cX8_adds 90 = .ok (.if_icmp .eq 11, 3) := by decide +kernel
theorem dX8_adds_93 : decode cX8_adds 93 = .ok (.iload_n 3, 1) := by decide +kernel
theorem dX8_adds_94 : decode cX8_adds 94 = .ok (.aload_n 0, 1) := by decide +kernel
theorem dX8_adds_95 : decode cX8_adds 95 = .ok (.getfield 277, 3) := by decide +kernel
theorem dX8_adds_98 : decode cX8_adds 98 = .ok (.if_icmp .ge 7, 3) := by decide +kernel
theorem dX8_adds_101 : decode cX8_adds 101 = .ok (.iload_n 3, 1) := by decide +kernel
theorem dX8_adds_102 : decode cX8_adds 102 = .ok (.goto 7, 3) := by decide +kernel
theorem dX8_adds_105 : decode cX8_adds 105 = .ok (.aload_n 0, 1) := by decide +kernel
theorem dX8_adds_106 : decode cX8_adds 106 = .ok (.getfield 277, 3) := by decide +kernel
theorem dX8_adds_109 : decode cX8_adds 109 = .ok (.putfield 277, 3) := by decide +kernel
theorem dX8_adds_112 : decode cX8_adds 112 = .ok (.aload_n 0, 1) := by decide +kernel
theorem dX8_adds_113 : decode cX8_adds 113 = .ok (.iload_n 3, 1) := by decide +kernel
theorem dX8_adds_114 : decode cX8_adds 114 = .ok (.aload_n 0, 1) := by decide +kernel
theorem dX8_adds_115 : decode cX8_adds 115 = .ok (.getfield 280, 3) := by decide +kernel
theorem dX8_adds_118 : decode cX8_adds 118 = .ok (.if_icmp .le 7, 3) := by decide +kernel
theorem dX8_adds_121 : decode cX8_adds 121 = .ok (.iload_n 3, 1) := by decide +kernel
theorem dX8_adds_122 : decode cX8_adds 122 = .ok (.goto 7, 3) := by decide +kernel
theorem dX8_adds_125 : decode cX8_adds 125 = .ok (.aload_n 0, 1) := by decide +kernel
theorem dX8_adds_126 : decode cX8_adds 126 = .ok (.getfield 280, 3) := by decide +kernel
theorem dX8_adds_129 : decode cX8_adds 129 = .ok (.putfield 280, 3) := by decide +kernel
theorem dX8_adds_132 : decode cX8_adds 132 = .ok (.iinc 2 1, 3) := by decide +kernel
theorem dX8_adds_135 : decode cX8_adds 135 = .ok (.goto (-108), 3) := by decide +kernel
theorem dX8_adds_138 : decode cX8_adds 138 = .ok (.return_, 1) := by decide +kernel
theorem tf_X8_271 : Cond.fieldLink RX8 271 "TableMoveModel" (TX8 7).2.1 (TX8 7).2.2.1 ∈ TMW := tm_in 1558 (by decide +kernel) (by decide +kernel)
theorem tf_X8_274 : Cond.fieldLink RX8 274 "TableMoveModel" (TX8 8).2.1 (TX8 8).2.2.1 ∈ TMW := tm_in 1559 (by decide +kernel) (by decide +kernel)
theorem tf_X8_277 : Cond.fieldLink RX8 277 "TableMoveModel" (TX8 9).2.1 (TX8 9).2.2.1 ∈ TMW := tm_in 1560 (by decide +kernel) (by decide +kernel)
theorem tf_X8_280 : Cond.fieldLink RX8 280 "TableMoveModel" (TX8 10).2.1 (TX8 10).2.2.1 ∈ TMW := tm_in 1561 (by decide +kernel) (by decide +kernel)
theorem tf_X8_283 : Cond.fieldLink RX8 283 "TableMoveModel" (TX8 11).2.1 (TX8 11).2.2.1 ∈ TMW := tm_in 1562 (by decide +kernel) (by decide +kernel)
def f_X8_adds_132 (K0 : tmM → Option (Unit × tmM)) (L : Int32 → Int32 → tmM → Option (Unit × tmM)) (x1 x2 : Int32) (v : tmM) : Option (Unit × tmM) := L x1 (x2 + 1) v
set_option maxRecDepth 100000 in
set_option maxHeartbeats 4000000 in
theorem w_X8_adds_132 {p : Program} {l : Launch} {e : Env} {s : State} {m : MethodId} {args : Array Value} {below : List Frame} {meth : Method} {c : Code} {D : va_G} {cy : Nat → ClassId} {ad : Nat → Nat} {A : Nat → Prop} {z : (Unit × tmM)} {K0 : tmM → Option (Unit × tmM)} {L : Int32 → Int32 → tmM → Option (Unit × tmM)} (C0 : tmC p s m args meth c cX8_adds 4 none RX8 TMW tm_NWR D cy tm_shR ad 13 [] A) (hK0 : ∀ (w : tmM), tmG p l e ({ frames := 3, cells := 0, slots := 0, locals := 67 } : Room) s m args below meth c 0 0 (MQ below (va_Qv (fun u => z = ((), u)) (tmAt tm_shR 13 D cy ad A) A) args s 0 0 A) 4 D cy tm_shR ad 13 [] A z 138 [] [] w (K0 w)) (hL : ∀ (a1 a2 : Int32) (w : tmM), tmG p l e ({ frames := 3, cells := 0, slots := 0, locals := 67 } : Room) s m args below meth c 0 0 (MQ below (va_Qv (fun u => z = ((), u)) (tmAt tm_shR 13 D cy ad A) A) args s 0 0 A) 4 D cy tm_shR ad 13 [] A z 27 [(0, .ref (ad 0)), (1, .int a1), (2, .int a2)] [] w (L a1 a2 w)) (x1 x2 : Int32) (v : tmM) : tmG p l e ({ frames := 3, cells := 0, slots := 0, locals := 67 } : Room) s m args below meth c 0 0 (MQ below (va_Qv (fun u => z = ((), u)) (tmAt tm_shR 13 D cy ad A) A) args s 0 0 A) 4 D cy tm_shR ad 13 [] A z 132 [(0, .ref (ad 0)), (1, .int x1), (2, .int x2)] [] v (f_X8_adds_132 K0 L x1 x2 v) := by
  unfold f_X8_adds_132
  refine tg_iinc [(2, .int (x2 + 1)), (0, .ref (ad 0)), (1, .int x1)] 2 C0 dX8_adds_132 rfl rfl (by decide) rfl ?_
  refine tg_goto 27 C0 dX8_adds_135 (by decide) ?_
  refine tg_sub [1, 2, 0] rfl ?_
  exact hL x1 (x2 + 1) v
def f_X8_adds_129 (K0 : tmM → Option (Unit × tmM)) (L : Int32 → Int32 → tmM → Option (Unit × tmM)) (x1 x2 s0 : Int32) (v : tmM) : Option (Unit × tmM) := tm_lt (tm_up v 0 10 s0) fun v12 => f_X8_adds_132 K0 L x1 x2 v12
set_option maxRecDepth 100000 in
set_option maxHeartbeats 4000000 in
theorem w_X8_adds_129 {p : Program} {l : Launch} {e : Env} {s : State} {m : MethodId} {args : Array Value} {below : List Frame} {meth : Method} {c : Code} {D : va_G} {cy : Nat → ClassId} {ad : Nat → Nat} {A : Nat → Prop} {z : (Unit × tmM)} {K0 : tmM → Option (Unit × tmM)} {L : Int32 → Int32 → tmM → Option (Unit × tmM)} (C0 : tmC p s m args meth c cX8_adds 4 none RX8 TMW tm_NWR D cy tm_shR ad 13 [] A) (hK0 : ∀ (w : tmM), tmG p l e ({ frames := 3, cells := 0, slots := 0, locals := 67 } : Room) s m args below meth c 0 0 (MQ below (va_Qv (fun u => z = ((), u)) (tmAt tm_shR 13 D cy ad A) A) args s 0 0 A) 4 D cy tm_shR ad 13 [] A z 138 [] [] w (K0 w)) (hL : ∀ (a1 a2 : Int32) (w : tmM), tmG p l e ({ frames := 3, cells := 0, slots := 0, locals := 67 } : Room) s m args below meth c 0 0 (MQ below (va_Qv (fun u => z = ((), u)) (tmAt tm_shR 13 D cy ad A) A) args s 0 0 A) 4 D cy tm_shR ad 13 [] A z 27 [(0, .ref (ad 0)), (1, .int a1), (2, .int a2)] [] w (L a1 a2 w)) (x1 x2 s0 : Int32) (v : tmM) : tmG p l e ({ frames := 3, cells := 0, slots := 0, locals := 67 } : Room) s m args below meth c 0 0 (MQ below (va_Qv (fun u => z = ((), u)) (tmAt tm_shR 13 D cy ad A) A) args s 0 0 A) 4 D cy tm_shR ad 13 [] A z 129 [(0, .ref (ad 0)), (1, .int x1), (2, .int x2)] [.int s0, .ref (ad 0)] v (f_X8_adds_129 K0 L x1 x2 s0 v) := by
  unfold f_X8_adds_129
  refine tg_put 0 10 C0 dX8_adds_129 (by decide) rfl rfl tu_X8 tyX8_ok nmX8 (by decide) tf_X8_280 rfl rfl rfl rfl rfl rfl ?_
  refine tg_letm (fun v12 _ => ?_)
  exact w_X8_adds_132 C0 hK0 hL x1 x2 v12
def f_X8_adds_109 (K0 : tmM → Option (Unit × tmM)) (L : Int32 → Int32 → tmM → Option (Unit × tmM)) (x1 x2 x3 s0 : Int32) (v : tmM) : Option (Unit × tmM) := tm_lt (tm_up v 0 9 s0) fun v11 => (if x3 ≤ (v11 0 10) then f_X8_adds_129 K0 L x1 x2 (v11 0 10) v11 else f_X8_adds_129 K0 L x1 x2 x3 v11)
set_option maxRecDepth 100000 in
set_option maxHeartbeats 4000000 in
theorem w_X8_adds_109 {p : Program} {l : Launch} {e : Env} {s : State} {m : MethodId} {args : Array Value} {below : List Frame} {meth : Method} {c : Code} {D : va_G} {cy : Nat → ClassId} {ad : Nat → Nat} {A : Nat → Prop} {z : (Unit × tmM)} {K0 : tmM → Option (Unit × tmM)} {L : Int32 → Int32 → tmM → Option (Unit × tmM)} (C0 : tmC p s m args meth c cX8_adds 4 none RX8 TMW tm_NWR D cy tm_shR ad 13 [] A) (hK0 : ∀ (w : tmM), tmG p l e ({ frames := 3, cells := 0, slots := 0, locals := 67 } : Room) s m args below meth c 0 0 (MQ below (va_Qv (fun u => z = ((), u)) (tmAt tm_shR 13 D cy ad A) A) args s 0 0 A) 4 D cy tm_shR ad 13 [] A z 138 [] [] w (K0 w)) (hL : ∀ (a1 a2 : Int32) (w : tmM), tmG p l e ({ frames := 3, cells := 0, slots := 0, locals := 67 } : Room) s m args below meth c 0 0 (MQ below (va_Qv (fun u => z = ((), u)) (tmAt tm_shR 13 D cy ad A) A) args s 0 0 A) 4 D cy tm_shR ad 13 [] A z 27 [(0, .ref (ad 0)), (1, .int a1), (2, .int a2)] [] w (L a1 a2 w)) (x1 x2 x3 s0 : Int32) (v : tmM) : tmG p l e ({ frames := 3, cells := 0, slots := 0, locals := 67 } : Room) s m args below meth c 0 0 (MQ below (va_Qv (fun u => z = ((), u)) (tmAt tm_shR 13 D cy ad A) A) args s 0 0 A) 4 D cy tm_shR ad 13 [] A z 109 [(0, .ref (ad 0)), (1, .int x1), (2, .int x2), (3, .int x3)] [.int s0, .ref (ad 0)] v (f_X8_adds_109 K0 L x1 x2 x3 s0 v) := by
  unfold f_X8_adds_109
  refine tg_put 0 9 C0 dX8_adds_109 (by decide) rfl rfl tu_X8 tyX8_ok nmX8 (by decide) tf_X8_277 rfl rfl rfl rfl rfl rfl ?_
  refine tg_letm (fun v11 _ => ?_)
  refine tg_aload_n 0 C0 dX8_adds_112 rfl rfl ?_
  refine tg_iload_n 3 C0 dX8_adds_113 rfl rfl ?_
  refine tg_aload_n 0 C0 dX8_adds_114 rfl rfl ?_
  refine tg_get 0 10 C0 dX8_adds_115 (by decide) rfl rfl tu_X8 (by decide) tf_X8_280 rfl rfl rfl ?_
  refine tg_icmp_le 125 C0 dX8_adds_118 (by decide) (fun _ => ?_) (fun _ => ?_)
  · refine tg_aload_n 0 C0 dX8_adds_125 rfl rfl ?_
    refine tg_get 0 10 C0 dX8_adds_126 (by decide) rfl rfl tu_X8 (by decide) tf_X8_280 rfl rfl rfl ?_
    refine tg_sub [0, 1, 2] rfl ?_
    exact w_X8_adds_129 C0 hK0 hL x1 x2 (v11 0 10) v11
  · refine tg_iload_n 3 C0 dX8_adds_121 rfl rfl ?_
    refine tg_goto 129 C0 dX8_adds_122 (by decide) ?_
    refine tg_sub [0, 1, 2] rfl ?_
    exact w_X8_adds_129 C0 hK0 hL x1 x2 x3 v11
def f_X8_adds_101 (K0 : tmM → Option (Unit × tmM)) (L : Int32 → Int32 → tmM → Option (Unit × tmM)) (x1 x2 x3 : Int32) (v : tmM) : Option (Unit × tmM) := f_X8_adds_109 K0 L x1 x2 x3 x3 v
set_option maxRecDepth 100000 in
set_option maxHeartbeats 4000000 in
theorem w_X8_adds_101 {p : Program} {l : Launch} {e : Env} {s : State} {m : MethodId} {args : Array Value} {below : List Frame} {meth : Method} {c : Code} {D : va_G} {cy : Nat → ClassId} {ad : Nat → Nat} {A : Nat → Prop} {z : (Unit × tmM)} {K0 : tmM → Option (Unit × tmM)} {L : Int32 → Int32 → tmM → Option (Unit × tmM)} (C0 : tmC p s m args meth c cX8_adds 4 none RX8 TMW tm_NWR D cy tm_shR ad 13 [] A) (hK0 : ∀ (w : tmM), tmG p l e ({ frames := 3, cells := 0, slots := 0, locals := 67 } : Room) s m args below meth c 0 0 (MQ below (va_Qv (fun u => z = ((), u)) (tmAt tm_shR 13 D cy ad A) A) args s 0 0 A) 4 D cy tm_shR ad 13 [] A z 138 [] [] w (K0 w)) (hL : ∀ (a1 a2 : Int32) (w : tmM), tmG p l e ({ frames := 3, cells := 0, slots := 0, locals := 67 } : Room) s m args below meth c 0 0 (MQ below (va_Qv (fun u => z = ((), u)) (tmAt tm_shR 13 D cy ad A) A) args s 0 0 A) 4 D cy tm_shR ad 13 [] A z 27 [(0, .ref (ad 0)), (1, .int a1), (2, .int a2)] [] w (L a1 a2 w)) (x1 x2 x3 : Int32) (v : tmM) : tmG p l e ({ frames := 3, cells := 0, slots := 0, locals := 67 } : Room) s m args below meth c 0 0 (MQ below (va_Qv (fun u => z = ((), u)) (tmAt tm_shR 13 D cy ad A) A) args s 0 0 A) 4 D cy tm_shR ad 13 [] A z 101 [(0, .ref (ad 0)), (1, .int x1), (2, .int x2), (3, .int x3)] [.ref (ad 0)] v (f_X8_adds_101 K0 L x1 x2 x3 v) := by
  unfold f_X8_adds_101
  refine tg_iload_n 3 C0 dX8_adds_101 rfl rfl ?_
  refine tg_goto 109 C0 dX8_adds_102 (by decide) ?_
  exact w_X8_adds_109 C0 hK0 hL x1 x2 x3 x3 v
def f_X8_adds_56 (K0 : tmM → Option (Unit × tmM)) (L : Int32 → Int32 → tmM → Option (Unit × tmM)) (x1 x2 x3 s0 s1 : Int32) (v : tmM) : Option (Unit × tmM) := tm_lt (tm_up v 0 11 (s1 + s0)) fun v8 => (if x3 < 0 then f_X8_adds_132 K0 L x1 x2 v8 else tm_lt (tm_up v8 0 7 ((v8 0 7) + x3)) fun v9 => tm_lt (tm_up v9 0 8 ((v9 0 8) + 1)) fun v10 => (if (v10 0 9) = (-1) then f_X8_adds_101 K0 L x1 x2 x3 v10 else (if (v10 0 9) ≤ x3 then f_X8_adds_109 K0 L x1 x2 x3 (v10 0 9) v10 else f_X8_adds_101 K0 L x1 x2 x3 v10)))
set_option maxRecDepth 100000 in
set_option maxHeartbeats 4000000 in
theorem w_X8_adds_56 {p : Program} {l : Launch} {e : Env} {s : State} {m : MethodId} {args : Array Value} {below : List Frame} {meth : Method} {c : Code} {D : va_G} {cy : Nat → ClassId} {ad : Nat → Nat} {A : Nat → Prop} {z : (Unit × tmM)} {K0 : tmM → Option (Unit × tmM)} {L : Int32 → Int32 → tmM → Option (Unit × tmM)} (C0 : tmC p s m args meth c cX8_adds 4 none RX8 TMW tm_NWR D cy tm_shR ad 13 [] A) (hK0 : ∀ (w : tmM), tmG p l e ({ frames := 3, cells := 0, slots := 0, locals := 67 } : Room) s m args below meth c 0 0 (MQ below (va_Qv (fun u => z = ((), u)) (tmAt tm_shR 13 D cy ad A) A) args s 0 0 A) 4 D cy tm_shR ad 13 [] A z 138 [] [] w (K0 w)) (hL : ∀ (a1 a2 : Int32) (w : tmM), tmG p l e ({ frames := 3, cells := 0, slots := 0, locals := 67 } : Room) s m args below meth c 0 0 (MQ below (va_Qv (fun u => z = ((), u)) (tmAt tm_shR 13 D cy ad A) A) args s 0 0 A) 4 D cy tm_shR ad 13 [] A z 27 [(0, .ref (ad 0)), (1, .int a1), (2, .int a2)] [] w (L a1 a2 w)) (x1 x2 x3 s0 s1 : Int32) (v : tmM) : tmG p l e ({ frames := 3, cells := 0, slots := 0, locals := 67 } : Room) s m args below meth c 0 0 (MQ below (va_Qv (fun u => z = ((), u)) (tmAt tm_shR 13 D cy ad A) A) args s 0 0 A) 4 D cy tm_shR ad 13 [] A z 56 [(0, .ref (ad 0)), (1, .int x1), (2, .int x2), (3, .int x3)] [.int s0, .int s1, .ref (ad 0)] v (f_X8_adds_56 K0 L x1 x2 x3 s0 s1 v) := by
  unfold f_X8_adds_56
  refine tg_iadd C0 dX8_adds_56 ?_
  refine tg_put 0 11 C0 dX8_adds_57 (by decide) rfl rfl tu_X8 tyX8_ok nmX8 (by decide) tf_X8_283 rfl rfl rfl rfl rfl rfl ?_
  refine tg_letm (fun v8 _ => ?_)
  refine tg_iload_n 3 C0 dX8_adds_60 rfl rfl ?_
  refine tg_if_lt 132 C0 dX8_adds_61 (by decide) (fun _ => ?_) (fun _ => ?_)
  · refine tg_sub [0, 1, 2] rfl ?_
    exact w_X8_adds_132 C0 hK0 hL x1 x2 v8
  · refine tg_aload_n 0 C0 dX8_adds_64 rfl rfl ?_
    refine tg_dup C0 dX8_adds_65 rfl ?_
    refine tg_get 0 7 C0 dX8_adds_66 (by decide) rfl rfl tu_X8 (by decide) tf_X8_271 rfl rfl rfl ?_
    refine tg_iload_n 3 C0 dX8_adds_69 rfl rfl ?_
    refine tg_iadd C0 dX8_adds_70 ?_
    refine tg_put 0 7 C0 dX8_adds_71 (by decide) rfl rfl tu_X8 tyX8_ok nmX8 (by decide) tf_X8_271 rfl rfl rfl rfl rfl rfl ?_
    refine tg_letm (fun v9 _ => ?_)
    refine tg_aload_n 0 C0 dX8_adds_74 rfl rfl ?_
    refine tg_dup C0 dX8_adds_75 rfl ?_
    refine tg_get 0 8 C0 dX8_adds_76 (by decide) rfl rfl tu_X8 (by decide) tf_X8_274 rfl rfl rfl ?_
    refine tg_iconst (x := 1) C0 dX8_adds_79 (by decide) ?_
    refine tg_iadd C0 dX8_adds_80 ?_
    refine tg_put 0 8 C0 dX8_adds_81 (by decide) rfl rfl tu_X8 tyX8_ok nmX8 (by decide) tf_X8_274 rfl rfl rfl rfl rfl rfl ?_
    refine tg_letm (fun v10 _ => ?_)
    refine tg_aload_n 0 C0 dX8_adds_84 rfl rfl ?_
    refine tg_aload_n 0 C0 dX8_adds_85 rfl rfl ?_
    refine tg_get 0 9 C0 dX8_adds_86 (by decide) rfl rfl tu_X8 (by decide) tf_X8_277 rfl rfl rfl ?_
    refine tg_iconst (x := (-1)) C0 dX8_adds_89 (by decide) ?_
    refine tg_icmp_eq 101 C0 dX8_adds_90 (by decide) (fun _ => ?_) (fun _ => ?_)
    · exact w_X8_adds_101 C0 hK0 hL x1 x2 x3 v10
    · refine tg_iload_n 3 C0 dX8_adds_93 rfl rfl ?_
      refine tg_aload_n 0 C0 dX8_adds_94 rfl rfl ?_
      refine tg_get 0 9 C0 dX8_adds_95 (by decide) rfl rfl tu_X8 (by decide) tf_X8_277 rfl rfl rfl ?_
      refine tg_icmp_ge 105 C0 dX8_adds_98 (by decide) (fun _ => ?_) (fun _ => ?_)
      · refine tg_aload_n 0 C0 dX8_adds_105 rfl rfl ?_
        refine tg_get 0 9 C0 dX8_adds_106 (by decide) rfl rfl tu_X8 (by decide) tf_X8_277 rfl rfl rfl ?_
        exact w_X8_adds_109 C0 hK0 hL x1 x2 x3 (v10 0 9) v10
      · exact w_X8_adds_101 C0 hK0 hL x1 x2 x3 v10
def f_X8_adds_27b (K0 : tmM → Option (Unit × tmM)) (L : Int32 → Int32 → tmM → Option (Unit × tmM)) (x1 x2 : Int32) (v : tmM) : Option (Unit × tmM) := (if 60 ≤ x2 then K0 v else tm_cl (f_X8_valueIn x1 x2 v) fun r7 v6 => (if r7 = (-3) then f_X8_adds_56 K0 L x1 x2 r7 1 (v6 0 11) v6 else f_X8_adds_56 K0 L x1 x2 r7 0 (v6 0 11) v6))
set_option maxRecDepth 100000 in
set_option maxHeartbeats 4000000 in
theorem w_X8_adds_27b {p : Program} {l : Launch} {e : Env} {s : State} {m : MethodId} {args : Array Value} {below : List Frame} {meth : Method} {c : Code} {D : va_G} {cy : Nat → ClassId} {ad : Nat → Nat} {A : Nat → Prop} {z : (Unit × tmM)} {K0 : tmM → Option (Unit × tmM)} {L : Int32 → Int32 → tmM → Option (Unit × tmM)} (C0 : tmC p s m args meth c cX8_adds 4 none RX8 TMW tm_NWR D cy tm_shR ad 13 [] A) (hK0 : ∀ (w : tmM), tmG p l e ({ frames := 3, cells := 0, slots := 0, locals := 67 } : Room) s m args below meth c 0 0 (MQ below (va_Qv (fun u => z = ((), u)) (tmAt tm_shR 13 D cy ad A) A) args s 0 0 A) 4 D cy tm_shR ad 13 [] A z 138 [] [] w (K0 w)) (hL : ∀ (a1 a2 : Int32) (w : tmM), tmG p l e ({ frames := 3, cells := 0, slots := 0, locals := 67 } : Room) s m args below meth c 0 0 (MQ below (va_Qv (fun u => z = ((), u)) (tmAt tm_shR 13 D cy ad A) A) args s 0 0 A) 4 D cy tm_shR ad 13 [] A z 27 [(0, .ref (ad 0)), (1, .int a1), (2, .int a2)] [] w (L a1 a2 w)) (x1 x2 : Int32) (v : tmM) : tmG p l e ({ frames := 3, cells := 0, slots := 0, locals := 67 } : Room) s m args below meth c 0 0 (MQ below (va_Qv (fun u => z = ((), u)) (tmAt tm_shR 13 D cy ad A) A) args s 0 0 A) 4 D cy tm_shR ad 13 [] A z 27 [(0, .ref (ad 0)), (1, .int x1), (2, .int x2)] [] v (f_X8_adds_27b K0 L x1 x2 v) := by
  unfold f_X8_adds_27b
  refine tg_iload_n 2 C0 dX8_adds_27 rfl rfl ?_
  refine tg_bipush (x := 60) C0 dX8_adds_28 (by decide) ?_
  refine tg_icmp_ge 138 C0 dX8_adds_30 (by decide) (fun _ => ?_) (fun _ => ?_)
  · refine tg_sub [] rfl ?_
    exact hK0 v
  · refine tg_aload_n 0 C0 dX8_adds_33 rfl rfl ?_
    refine tg_iload_n 1 C0 dX8_adds_34 rfl rfl ?_
    refine tg_iload_n 2 C0 dX8_adds_35 rfl rfl ?_
    refine tg_callVi (As := [.int x1, .int x2]) 0 2 C0 dX8_adds_36 (c_X8_valueIn l x1 x2 v) rfl rfl (by decide) rfl rfl (tm_gV tl_X8_74 ti_X8_valueIn ts_X8_valueIn tn_X8 tc_X8_valueIn)  rfl rfl rfl rfl (by decide +kernel) ⟨by decide, by decide⟩ (Nat.le_of_ble_eq_true rfl) ⟨by decide, by decide⟩ (fun r7 v6 _ => ?_)
    refine tg_istore_n [(3, .int r7), (0, .ref (ad 0)), (1, .int x1), (2, .int x2)] C0 dX8_adds_39 rfl (by decide) rfl ?_
    refine tg_aload_n 1 C0 dX8_adds_40 rfl rfl ?_
    refine tg_dup C0 dX8_adds_41 rfl ?_
    refine tg_get 0 11 C0 dX8_adds_42 (by decide) rfl rfl tu_X8 (by decide) tf_X8_283 rfl rfl rfl ?_
    refine tg_iload_n 0 C0 dX8_adds_45 rfl rfl ?_
    refine tg_bipush (x := (-3)) C0 dX8_adds_46 (by decide) ?_
    refine tg_icmp_ne 55 C0 dX8_adds_48 (by decide) (fun _ => ?_) (fun _ => ?_)
    · refine tg_iconst (x := 0) C0 dX8_adds_55 (by decide) ?_
      refine tg_sub [1, 2, 3, 0] rfl ?_
      exact w_X8_adds_56 C0 hK0 hL x1 x2 r7 0 (v6 0 11) v6
    · refine tg_iconst (x := 1) C0 dX8_adds_51 (by decide) ?_
      refine tg_goto 56 C0 dX8_adds_52 (by decide) ?_
      refine tg_sub [1, 2, 3, 0] rfl ?_
      exact w_X8_adds_56 C0 hK0 hL x1 x2 r7 1 (v6 0 11) v6
def f_X8_adds_27 (K0 : tmM → Option (Unit × tmM)) : Nat → Int32 → Int32 → tmM → Option (Unit × tmM)
  | 0 => fun _ _ _ => none
  | n + 1 => f_X8_adds_27b K0 (f_X8_adds_27 K0 n)
theorem w_X8_adds_27 {p : Program} {l : Launch} {e : Env} {s : State} {m : MethodId} {args : Array Value} {below : List Frame} {meth : Method} {c : Code} {D : va_G} {cy : Nat → ClassId} {ad : Nat → Nat} {A : Nat → Prop} {z : (Unit × tmM)} {K0 : tmM → Option (Unit × tmM)} (C0 : tmC p s m args meth c cX8_adds 4 none RX8 TMW tm_NWR D cy tm_shR ad 13 [] A) (hK0 : ∀ (w : tmM), tmG p l e ({ frames := 3, cells := 0, slots := 0, locals := 67 } : Room) s m args below meth c 0 0 (MQ below (va_Qv (fun u => z = ((), u)) (tmAt tm_shR 13 D cy ad A) A) args s 0 0 A) 4 D cy tm_shR ad 13 [] A z 138 [] [] w (K0 w)) (nn : Nat) : ∀ (x1 x2 : Int32) (v : tmM), tmG p l e ({ frames := 3, cells := 0, slots := 0, locals := 67 } : Room) s m args below meth c 0 0 (MQ below (va_Qv (fun u => z = ((), u)) (tmAt tm_shR 13 D cy ad A) A) args s 0 0 A) 4 D cy tm_shR ad 13 [] A z 27 [(0, .ref (ad 0)), (1, .int x1), (2, .int x2)] [] v (f_X8_adds_27 K0 nn x1 x2 v) := by
  induction nn with
  | zero => intro _ _ _; exact tg_none
  | succ n ih => intro x1 x2 v; exact w_X8_adds_27b C0 hK0 ih x1 x2 v
def f_X8_adds (x1 : Int32) (v : tmM) : Option (Unit × tmM) := tm_lt (tm_up v 0 7 0) fun v1 => tm_lt (tm_up v1 0 8 0) fun v2 => tm_lt (tm_up v2 0 9 (-1)) fun v3 => tm_lt (tm_up v3 0 10 (-1)) fun v4 => tm_lt (tm_up v4 0 11 0) fun v5 => f_X8_adds_27 (fun v13 => some ((), v13)) 10000 x1 0 v5
set_option maxRecDepth 100000 in
set_option maxHeartbeats 4000000 in
theorem w_X8_adds {p : Program} {l : Launch} {e : Env} {s : State} {m : MethodId} {args : Array Value} {below : List Frame} {meth : Method} {c : Code} {D : va_G} {cy : Nat → ClassId} {ad : Nat → Nat} {A : Nat → Prop} {z : (Unit × tmM)} (C0 : tmC p s m args meth c cX8_adds 4 none RX8 TMW tm_NWR D cy tm_shR ad 13 [] A) (x1 : Int32) (v : tmM) : tmG p l e ({ frames := 3, cells := 0, slots := 0, locals := 67 } : Room) s m args below meth c 0 0 (MQ below (va_Qv (fun u => z = ((), u)) (tmAt tm_shR 13 D cy ad A) A) args s 0 0 A) 4 D cy tm_shR ad 13 [] A z 0 [(0, .ref (ad 0)), (1, .int x1)] [] v (f_X8_adds x1 v) := by
  unfold f_X8_adds
  refine tg_aload_n 0 C0 dX8_adds_0 rfl rfl ?_
  refine tg_iconst (x := 0) C0 dX8_adds_1 (by decide) ?_
  refine tg_put 0 7 C0 dX8_adds_2 (by decide) rfl rfl tu_X8 tyX8_ok nmX8 (by decide) tf_X8_271 rfl rfl rfl rfl rfl rfl ?_
  refine tg_letm (fun v1 _ => ?_)
  refine tg_aload_n 0 C0 dX8_adds_5 rfl rfl ?_
  refine tg_iconst (x := 0) C0 dX8_adds_6 (by decide) ?_
  refine tg_put 0 8 C0 dX8_adds_7 (by decide) rfl rfl tu_X8 tyX8_ok nmX8 (by decide) tf_X8_274 rfl rfl rfl rfl rfl rfl ?_
  refine tg_letm (fun v2 _ => ?_)
  refine tg_aload_n 0 C0 dX8_adds_10 rfl rfl ?_
  refine tg_iconst (x := (-1)) C0 dX8_adds_11 (by decide) ?_
  refine tg_put 0 9 C0 dX8_adds_12 (by decide) rfl rfl tu_X8 tyX8_ok nmX8 (by decide) tf_X8_277 rfl rfl rfl rfl rfl rfl ?_
  refine tg_letm (fun v3 _ => ?_)
  refine tg_aload_n 0 C0 dX8_adds_15 rfl rfl ?_
  refine tg_iconst (x := (-1)) C0 dX8_adds_16 (by decide) ?_
  refine tg_put 0 10 C0 dX8_adds_17 (by decide) rfl rfl tu_X8 tyX8_ok nmX8 (by decide) tf_X8_280 rfl rfl rfl rfl rfl rfl ?_
  refine tg_letm (fun v4 _ => ?_)
  refine tg_aload_n 0 C0 dX8_adds_20 rfl rfl ?_
  refine tg_iconst (x := 0) C0 dX8_adds_21 (by decide) ?_
  refine tg_put 0 11 C0 dX8_adds_22 (by decide) rfl rfl tu_X8 tyX8_ok nmX8 (by decide) tf_X8_283 rfl rfl rfl rfl rfl rfl ?_
  refine tg_letm (fun v5 _ => ?_)
  refine tg_iconst (x := 0) C0 dX8_adds_25 (by decide) ?_
  refine tg_istore_n [(2, .int 0), (0, .ref (ad 0)), (1, .int x1)] C0 dX8_adds_26 rfl (by decide) rfl ?_
  refine tg_sub [1, 2, 0] rfl ?_
  refine w_X8_adds_27 C0 (fun v13 => ?_) 10000 x1 0 v5
  exact tg_vret C0 dX8_adds_138
theorem c_X8_adds (l : Launch) (x1 : Int32) (v : tmM) : tmMv tm_NWR tm_shR 13 l yX8_adds (Cond.code yX8_adds cX8_adds 4 none :: TMW) ({ frames := 3, cells := 0, slots := 0, locals := 67 } : Room) (fun ad => [.ref (ad 0), .int x1]) v (f_X8_adds x1 v) :=
  tmMv.of (cc := cX8_adds) (nL := 4) (by decide +kernel) rfl tm_NWR_ok (fun _ => Nat.le_of_ble_eq_true rfl) (fun p e s m args below meth c A D cy ad z C0 => w_X8_adds C0 x1 v)
-- ----- X8_total
theorem dX8_total_0 : decode cX8_total 0 = .ok (.aload_n 0, 1) := by decide +kernel
theorem dX8_total_1 : decode cX8_total 1 = .ok (.iload_n 1, 1) := by decide +kernel
theorem dX8_total_2 : decode cX8_total 2 = .ok (.invokestatic 268, 3) := by decide +kernel
theorem dX8_total_5 : decode cX8_total 5 = .ok (.ifCond .ne 7, 3) := by decide +kernel
theorem dX8_total_8 : decode cX8_total 8 = .ok (.iconst 1, 1) := by decide +kernel
theorem dX8_total_9 : decode cX8_total 9 = .ok (.goto 17, 3) := by decide +kernel
theorem dX8_total_12 : decode cX8_total 12 = .ok (.iload_n 2, 1) := by decide +kernel
theorem dX8_total_13 : decode cX8_total 13 = .ok (.iconst 0, 1) := by decide +kernel
theorem dX8_total_14 : decode cX8_total 14 = .ok (.iconst 3, 1) := by decide +kernel
theorem dX8_total_15 : decode cX8_total 15 = .ok (.invokestatic 63, 3) := by decide +kernel
theorem dX8_total_18 : decode cX8_total 18 = .ok (.ifCond .eq 7, 3) := by decide +kernel
theorem dX8_total_21 : decode cX8_total 21 = .ok (.iconst 0, 1) := by decide +kernel
theorem dX8_total_22 : decode cX8_total 22 = .ok (.goto 4, 3) := by decide +kernel
theorem dX8_total_25 : decode cX8_total 25 = .ok (.iconst 2, 1) := by decide +kernel
theorem dX8_total_26 : decode cX8_total 26 = .ok (.putfield 56, 3) := by decide +kernel
theorem dX8_total_29 : decode cX8_total 29 = .ok (.aload_n 0, 1) := by decide +kernel
theorem dX8_total_30 : decode cX8_total 30 = .ok (.getfield 56, 3) := by decide +kernel
theorem dX8_total_33 : decode cX8_total 33 = .ok (.ifCond .le 5, 3) := by decide +kernel
theorem dX8_total_36 : decode cX8_total 36 = .ok (.iconst 0, 1) := by decide +kernel
theorem dX8_total_37 : decode cX8_total 37 = .ok (.ireturn, 1) := by decide +kernel
theorem dX8_total_38 : decode cX8_total 38 = .ok (.aload_n 0, 1) := by decide +kernel
theorem dX8_total_39 : decode cX8_total 39 = .ok (.iload_n 1, 1) := by decide +kernel
theorem dX8_total_40 : decode cX8_total 40 = .ok (.invokevirtual 286, 3) := by decide +kernel
theorem dX8_total_43 : decode cX8_total 43 = .ok (.iload_n 2, 1) := by decide +kernel
theorem dX8_total_44 : decode cX8_total 44 = .ok (.ifCond .ne 10, 3) := by decide +kernel
theorem dX8_total_47 : decode cX8_total 47 = .ok (.aload_n 0, 1) := by decide +kernel
theorem dX8_total_48 : decode cX8_total 48 = .ok (.getfield 271, 3) := by decide +kernel
theorem dX8_total_51 : decode cX8_total 51 = .ok (.goto 31, 3) := by decide +kernel
theorem dX8_total_54 : decode cX8_total 54 = .ok (.iload_n 2, 1) := by decide +kernel
theorem dX8_total_55 : decode cX8_total 55 = .ok (.iconst 1, 1) := by decide +kernel
theorem dX8_total_56 : decode cX8_total 56 = .ok (.if_icmp .ne 10, 3) := by decide +kernel
theorem dX8_total_59 : decode cX8_total 59 = .ok (.aload_n 0, 1) := by decide +kernel
theorem dX8_total_60 : decode cX8_total 60 = .ok (.getfield 277, 3) := by decide +kernel
theorem dX8_total_63 : decode cX8_total 63 = .ok (.goto 19, 3) := by decide +kernel
theorem dX8_total_66 : decode cX8_total 66 = .ok (.iload_n 2, 1) := by decide +kernel
theorem dX8_total_67 : decode cX8_total 67 = .ok (.iconst 2, 1) := by decide +kernel
theorem dX8_total_68 : decode cX8_total 68 = .ok (.if_icmp .ne 10, 3) := by decide +kernel
theorem dX8_total_71 : decode cX8_total 71 = .ok (.aload_n 0, 1) := by decide +kernel
theorem dX8_total_72 : decode cX8_total 72 = .ok (.getfield 280, 3) := by decide +kernel
theorem dX8_total_75 : decode cX8_total 75 = .ok (.goto 7, 3) := by decide +kernel
theorem dX8_total_78 : decode cX8_total 78 = .ok (.aload_n 0, 1) := by decide +kernel
theorem dX8_total_79 : decode cX8_total 79 = .ok (.getfield 283, 3) := by decide +kernel
theorem dX8_total_82 : decode cX8_total 82 = .ok (.ireturn, 1) := by decide +kernel
theorem tl_X8_286 : Cond.methodLink RX8 286 yX8_adds ∈ TMW := tm_in 2020 (by decide +kernel) (by decide +kernel)
theorem ti_X8_adds : Cond.instanceMethod yX8_adds ∈ TMW := tm_in 2022 (by decide +kernel) (by decide +kernel)
theorem ts_X8_adds : Cond.selects RX8 yX8_adds yX8_adds ∈ TMW := tm_in 92 (by decide +kernel) (by decide +kernel)
theorem tc_X8_adds : Cond.code yX8_adds cX8_adds 4 none ∈ TMW := tm_in 2023 (by decide +kernel) (by decide +kernel)
def f_X8_total_26 (x1 x2 s0 : Int32) (v : tmM) : Option (Int32 × tmM) := tm_lt (tm_up v 0 0 s0) fun v5 => (if (v5 0 0) ≤ 0 then tm_cl (f_X8_adds x1 v5) fun _ v6 => (if x2 = 0 then some (v6 0 7, v6) else (if x2 = 1 then some (v6 0 9, v6) else (if x2 = 2 then some (v6 0 10, v6) else some (v6 0 11, v6)))) else some (0, v5))
set_option maxRecDepth 100000 in
set_option maxHeartbeats 4000000 in
theorem w_X8_total_26 {p : Program} {l : Launch} {e : Env} {s : State} {m : MethodId} {args : Array Value} {below : List Frame} {meth : Method} {c : Code} {D : va_G} {cy : Nat → ClassId} {ad : Nat → Nat} {A : Nat → Prop} {z : (Int32 × tmM)} (C0 : tmC p s m args meth c cX8_total 3 (some .int) RX8 TMW tm_NWR D cy tm_shR ad 13 [] A) (x1 x2 s0 : Int32) (v : tmM) : tmG p l e ({ frames := 4, cells := 0, slots := 0, locals := 90 } : Room) s m args below meth c 0 0 (MQ below (va_Qi (fun r u => z = (r, u)) (tmAt tm_shR 13 D cy ad A) A) args s 0 0 A) 3 D cy tm_shR ad 13 [] A z 26 [(0, .ref (ad 0)), (1, .int x1), (2, .int x2)] [.int s0, .ref (ad 0)] v (f_X8_total_26 x1 x2 s0 v) := by
  unfold f_X8_total_26
  refine tg_put 0 0 C0 dX8_total_26 (by decide) rfl rfl tu_X8 tyX8_ok nmX8 (by decide) tf_X8_56 rfl rfl rfl rfl rfl rfl ?_
  refine tg_letm (fun v5 _ => ?_)
  refine tg_aload_n 0 C0 dX8_total_29 rfl rfl ?_
  refine tg_get 0 0 C0 dX8_total_30 (by decide) rfl rfl tu_X8 (by decide) tf_X8_56 rfl rfl rfl ?_
  refine tg_if_le 38 C0 dX8_total_33 (by decide) (fun _ => ?_) (fun _ => ?_)
  · refine tg_aload_n 0 C0 dX8_total_38 rfl rfl ?_
    refine tg_iload_n 1 C0 dX8_total_39 rfl rfl ?_
    refine tg_callVv (As := [.int x1]) 0 1 C0 dX8_total_40 (c_X8_adds l x1 v5) rfl rfl (by decide) rfl rfl (tm_gV tl_X8_286 ti_X8_adds ts_X8_adds tn_X8 tc_X8_adds)  rfl rfl rfl rfl (by decide +kernel) ⟨by decide, by decide⟩ (Nat.le_of_ble_eq_true rfl) ⟨by decide, by decide⟩ (fun v6 _ => ?_)
    refine tg_iload_n 2 C0 dX8_total_43 rfl rfl ?_
    refine tg_if_ne 54 C0 dX8_total_44 (by decide) (fun _ => ?_) (fun _ => ?_)
    · refine tg_iload_n 2 C0 dX8_total_54 rfl rfl ?_
      refine tg_iconst (x := 1) C0 dX8_total_55 (by decide) ?_
      refine tg_icmp_ne 66 C0 dX8_total_56 (by decide) (fun _ => ?_) (fun _ => ?_)
      · refine tg_iload_n 2 C0 dX8_total_66 rfl rfl ?_
        refine tg_iconst (x := 2) C0 dX8_total_67 (by decide) ?_
        refine tg_icmp_ne 78 C0 dX8_total_68 (by decide) (fun _ => ?_) (fun _ => ?_)
        · refine tg_aload_n 0 C0 dX8_total_78 rfl rfl ?_
          refine tg_get 0 11 C0 dX8_total_79 (by decide) rfl rfl tu_X8 (by decide) tf_X8_283 rfl rfl rfl ?_
          exact tg_iret C0 dX8_total_82
        · refine tg_aload_n 0 C0 dX8_total_71 rfl rfl ?_
          refine tg_get 0 10 C0 dX8_total_72 (by decide) rfl rfl tu_X8 (by decide) tf_X8_280 rfl rfl rfl ?_
          refine tg_goto 82 C0 dX8_total_75 (by decide) ?_
          exact tg_iret C0 dX8_total_82
      · refine tg_aload_n 0 C0 dX8_total_59 rfl rfl ?_
        refine tg_get 0 9 C0 dX8_total_60 (by decide) rfl rfl tu_X8 (by decide) tf_X8_277 rfl rfl rfl ?_
        refine tg_goto 82 C0 dX8_total_63 (by decide) ?_
        exact tg_iret C0 dX8_total_82
    · refine tg_aload_n 0 C0 dX8_total_47 rfl rfl ?_
      refine tg_get 0 7 C0 dX8_total_48 (by decide) rfl rfl tu_X8 (by decide) tf_X8_271 rfl rfl rfl ?_
      refine tg_goto 82 C0 dX8_total_51 (by decide) ?_
      exact tg_iret C0 dX8_total_82
  · refine tg_iconst (x := 0) C0 dX8_total_36 (by decide) ?_
    exact tg_iret C0 dX8_total_37
def f_X8_total (x1 x2 : Int32) (v : tmM) : Option (Int32 × tmM) := tm_cl (f_X8_isSide x1 v) fun r2 v1 => (if r2 = 0 then f_X8_total_26 x1 x2 1 v1 else tm_cl (f_X8_in x2 0 3 v1) fun r4 v3 => (if r4 = 0 then f_X8_total_26 x1 x2 2 v3 else f_X8_total_26 x1 x2 0 v3))
set_option maxRecDepth 100000 in
set_option maxHeartbeats 4000000 in
theorem w_X8_total {p : Program} {l : Launch} {e : Env} {s : State} {m : MethodId} {args : Array Value} {below : List Frame} {meth : Method} {c : Code} {D : va_G} {cy : Nat → ClassId} {ad : Nat → Nat} {A : Nat → Prop} {z : (Int32 × tmM)} (C0 : tmC p s m args meth c cX8_total 3 (some .int) RX8 TMW tm_NWR D cy tm_shR ad 13 [] A) (x1 x2 : Int32) (v : tmM) : tmG p l e ({ frames := 4, cells := 0, slots := 0, locals := 90 } : Room) s m args below meth c 0 0 (MQ below (va_Qi (fun r u => z = (r, u)) (tmAt tm_shR 13 D cy ad A) A) args s 0 0 A) 3 D cy tm_shR ad 13 [] A z 0 [(0, .ref (ad 0)), (1, .int x1), (2, .int x2)] [] v (f_X8_total x1 x2 v) := by
  unfold f_X8_total
  refine tg_aload_n 0 C0 dX8_total_0 rfl rfl ?_
  refine tg_iload_n 1 C0 dX8_total_1 rfl rfl ?_
  refine tg_callSi (As := [.int x1]) 1 C0 dX8_total_2 (c_X8_isSide l x1 v) rfl rfl (tm_gc tc_X8_isSide) tl_X8_268 tn_X8 tst_X8_isSide  rfl rfl rfl rfl (by decide +kernel) ⟨by decide, by decide⟩ (Nat.le_of_ble_eq_true rfl) ⟨by decide, by decide⟩ (fun r2 v1 _ => ?_)
  refine tg_if_ne 12 C0 dX8_total_5 (by decide) (fun _ => ?_) (fun _ => ?_)
  · refine tg_iload_n 2 C0 dX8_total_12 rfl rfl ?_
    refine tg_iconst (x := 0) C0 dX8_total_13 (by decide) ?_
    refine tg_iconst (x := 3) C0 dX8_total_14 (by decide) ?_
    refine tg_callSi (As := [.int x2, .int 0, .int 3]) 3 C0 dX8_total_15 (c_X8_in l x2 0 3 v1) rfl rfl (tm_gc tc_X8_in) tl_X8_63 tn_X8 tst_X8_in  rfl rfl rfl rfl (by decide +kernel) ⟨by decide, by decide⟩ (Nat.le_of_ble_eq_true rfl) ⟨by decide, by decide⟩ (fun r4 v3 _ => ?_)
    refine tg_if_eq 25 C0 dX8_total_18 (by decide) (fun _ => ?_) (fun _ => ?_)
    · refine tg_iconst (x := 2) C0 dX8_total_25 (by decide) ?_
      exact w_X8_total_26 C0 x1 x2 2 v3
    · refine tg_iconst (x := 0) C0 dX8_total_21 (by decide) ?_
      refine tg_goto 26 C0 dX8_total_22 (by decide) ?_
      exact w_X8_total_26 C0 x1 x2 0 v3
  · refine tg_iconst (x := 1) C0 dX8_total_8 (by decide) ?_
    refine tg_goto 26 C0 dX8_total_9 (by decide) ?_
    exact w_X8_total_26 C0 x1 x2 1 v1
theorem c_X8_total (l : Launch) (x1 x2 : Int32) (v : tmM) : tmMi tm_NWR tm_shR 13 l yX8_total (Cond.code yX8_total cX8_total 3 (some .int) :: TMW) ({ frames := 4, cells := 0, slots := 0, locals := 90 } : Room) (fun ad => [.ref (ad 0), .int x1, .int x2]) v (f_X8_total x1 x2 v) :=
  tmMi.of (cc := cX8_total) (nL := 3) (by decide +kernel) rfl tm_NWR_ok (fun _ => Nat.le_of_ble_eq_true rfl) (fun p e s m args below meth c A D cy ad z C0 => w_X8_total C0 x1 x2 v)
-- ----- X8_mean
theorem dX8_mean_0 : decode cX8_mean 0 = .ok (.aload_n 0, 1) := by decide +kernel
theorem dX8_mean_1 : decode cX8_mean 1 = .ok (.iload_n 1, 1) := by decide +kernel
theorem dX8_mean_2 : decode cX8_mean 2 = .ok (.invokestatic 268, 3) := by decide +kernel
theorem dX8_mean_5 : decode cX8_mean 5 = .ok (.ifCond .eq 7, 3) := by decide +kernel
theorem dX8_mean_8 : decode cX8_mean 8 = .ok (.iconst 0, 1) := by decide +kernel
theorem dX8_mean_9 : decode cX8_mean 9 = .ok (.goto 4, 3) := by decide +kernel
theorem dX8_mean_12 : decode cX8_mean 12 = .ok (.iconst 1, 1) := by decide +kernel
theorem dX8_mean_13 : decode cX8_mean 13 = .ok (.putfield 56, 3) := by decide +kernel
theorem dX8_mean_16 : decode cX8_mean 16 = .ok (.aload_n 0, 1) := by decide +kernel
theorem dX8_mean_17 : decode cX8_mean 17 = .ok (.getfield 56, 3) := by decide +kernel
theorem dX8_mean_20 : decode cX8_mean 20 = .ok (.ifCond .le 5, 3) := by decide +kernel
theorem dX8_mean_23 : decode cX8_mean 23 = .ok (.dconst 0, 1) := by decide +kernel
theorem dX8_mean_24 : decode cX8_mean 24 = .ok (.dreturn, 1) := by decide +kernel
theorem dX8_mean_25 : decode cX8_mean 25 = .ok (.aload_n 0, 1) := by decide +kernel
theorem dX8_mean_26 : decode cX8_mean 26 = .ok (.iload_n 1, 1) := by decide +kernel
theorem dX8_mean_27 : decode cX8_mean 27 = .ok (.invokevirtual 286, 3) := by decide +kernel
theorem dX8_mean_30 : decode cX8_mean 30 = .ok (.aload_n 0, 1) := by decide +kernel
theorem dX8_mean_31 : decode cX8_mean 31 = .ok (.getfield 274, 3) := by decide +kernel
theorem dX8_mean_34 : decode cX8_mean 34 = .ok (.ifCond .ne 9, 3) := by decide +kernel
theorem dX8_mean_37 : decode cX8_mean 37 = .ok (.ldc2_w 289, 3) := by decide +kernel
theorem dX8_mean_40 : decode cX8_mean 40 = .ok (.goto 14, 3) := by decide +kernel
theorem dX8_mean_43 : decode cX8_mean 43 = .ok (.aload_n 0, 1) := by decide +kernel
theorem dX8_mean_44 : decode cX8_mean 44 = .ok (.getfield 271, 3) := by decide +kernel
theorem dX8_mean_47 : decode cX8_mean 47 = .ok (.i2d, 1) := by decide +kernel
theorem dX8_mean_48 : decode cX8_mean 48 = .ok (.aload_n 0, 1) := by decide +kernel
theorem dX8_mean_49 : decode cX8_mean 49 = .ok (.getfield 274, 3) := by decide +kernel
theorem dX8_mean_52 : decode cX8_mean 52 = .ok (.i2d, 1) := by decide +kernel
theorem dX8_mean_53 : decode cX8_mean 53 = .ok (.ddiv, 1) := by decide +kernel
theorem dX8_mean_54 : decode cX8_mean 54 = .ok (.dreturn, 1) := by decide +kernel
theorem tk_X8_289 : Cond.constantDouble RX8 289 13830554455654793216 ∈ TMW := tm_in 2028 (by decide +kernel) (by decide +kernel)
def f_X8_mean_13 (x1 s0 : Int32) (v : tmM) : Option (UInt64 × tmM) := tm_lt (tm_up v 0 0 s0) fun v3 => (if (v3 0 0) ≤ 0 then tm_cl (f_X8_adds x1 v3) fun _ v4 => (if (v4 0 8) = 0 then some ((13830554455654793216 : UInt64), v4) else tm_g (tm_n64 (FP.ddiv (FP.i2d (v4 0 7)) (FP.i2d (v4 0 8)))) (some (FP.ddiv (FP.i2d (v4 0 7)) (FP.i2d (v4 0 8)), v4))) else some (FP.dconst0, v3))
set_option maxRecDepth 100000 in
set_option maxHeartbeats 4000000 in
theorem w_X8_mean_13 {p : Program} {l : Launch} {e : Env} {s : State} {m : MethodId} {args : Array Value} {below : List Frame} {meth : Method} {c : Code} {D : va_G} {cy : Nat → ClassId} {ad : Nat → Nat} {A : Nat → Prop} {z : (UInt64 × tmM)} (C0 : tmC p s m args meth c cX8_mean 2 (some .double) RX8 TMW tm_NWR D cy tm_shR ad 13 [] A) (x1 s0 : Int32) (v : tmM) : tmG p l e ({ frames := 4, cells := 0, slots := 0, locals := 90 } : Room) s m args below meth c 0 0 (MQ below (va_Qd (fun r u => z = (r, u)) (tmAt tm_shR 13 D cy ad A) A) args s 0 0 A) 2 D cy tm_shR ad 13 [] A z 13 [(0, .ref (ad 0)), (1, .int x1)] [.int s0, .ref (ad 0)] v (f_X8_mean_13 x1 s0 v) := by
  unfold f_X8_mean_13
  refine tg_put 0 0 C0 dX8_mean_13 (by decide) rfl rfl tu_X8 tyX8_ok nmX8 (by decide) tf_X8_56 rfl rfl rfl rfl rfl rfl ?_
  refine tg_letm (fun v3 _ => ?_)
  refine tg_aload_n 0 C0 dX8_mean_16 rfl rfl ?_
  refine tg_get 0 0 C0 dX8_mean_17 (by decide) rfl rfl tu_X8 (by decide) tf_X8_56 rfl rfl rfl ?_
  refine tg_if_le 25 C0 dX8_mean_20 (by decide) (fun _ => ?_) (fun _ => ?_)
  · refine tg_aload_n 0 C0 dX8_mean_25 rfl rfl ?_
    refine tg_iload_n 1 C0 dX8_mean_26 rfl rfl ?_
    refine tg_callVv (As := [.int x1]) 0 1 C0 dX8_mean_27 (c_X8_adds l x1 v3) rfl rfl (by decide) rfl rfl (tm_gV tl_X8_286 ti_X8_adds ts_X8_adds tn_X8 tc_X8_adds)  rfl rfl rfl rfl (by decide +kernel) ⟨by decide, by decide⟩ (Nat.le_of_ble_eq_true rfl) ⟨by decide, by decide⟩ (fun v4 _ => ?_)
    refine tg_aload_n 0 C0 dX8_mean_30 rfl rfl ?_
    refine tg_get 0 8 C0 dX8_mean_31 (by decide) rfl rfl tu_X8 (by decide) tf_X8_274 rfl rfl rfl ?_
    refine tg_if_ne 43 C0 dX8_mean_34 (by decide) (fun _ => ?_) (fun _ => ?_)
    · refine tg_aload_n 0 C0 dX8_mean_43 rfl rfl ?_
      refine tg_get 0 7 C0 dX8_mean_44 (by decide) rfl rfl tu_X8 (by decide) tf_X8_271 rfl rfl rfl ?_
      refine tg_i2d C0 dX8_mean_47 ?_
      refine tg_aload_n 0 C0 dX8_mean_48 rfl rfl ?_
      refine tg_get 0 8 C0 dX8_mean_49 (by decide) rfl rfl tu_X8 (by decide) tf_X8_274 rfl rfl rfl ?_
      refine tg_i2d C0 dX8_mean_52 ?_
      refine tg_ddiv C0 dX8_mean_53 ?_
      exact tg_dret C0 dX8_mean_54
    · refine tg_ldc2d C0 dX8_mean_37 tk_X8_289 ?_
      refine tg_goto 54 C0 dX8_mean_40 (by decide) ?_
      exact tg_dret C0 dX8_mean_54
  · refine tg_dconst0 C0 dX8_mean_23 ?_
    exact tg_dret C0 dX8_mean_24
def f_X8_mean (x1 : Int32) (v : tmM) : Option (UInt64 × tmM) := tm_cl (f_X8_isSide x1 v) fun r2 v1 => (if r2 = 0 then f_X8_mean_13 x1 1 v1 else f_X8_mean_13 x1 0 v1)
set_option maxRecDepth 100000 in
set_option maxHeartbeats 4000000 in
theorem w_X8_mean {p : Program} {l : Launch} {e : Env} {s : State} {m : MethodId} {args : Array Value} {below : List Frame} {meth : Method} {c : Code} {D : va_G} {cy : Nat → ClassId} {ad : Nat → Nat} {A : Nat → Prop} {z : (UInt64 × tmM)} (C0 : tmC p s m args meth c cX8_mean 2 (some .double) RX8 TMW tm_NWR D cy tm_shR ad 13 [] A) (x1 : Int32) (v : tmM) : tmG p l e ({ frames := 4, cells := 0, slots := 0, locals := 90 } : Room) s m args below meth c 0 0 (MQ below (va_Qd (fun r u => z = (r, u)) (tmAt tm_shR 13 D cy ad A) A) args s 0 0 A) 2 D cy tm_shR ad 13 [] A z 0 [(0, .ref (ad 0)), (1, .int x1)] [] v (f_X8_mean x1 v) := by
  unfold f_X8_mean
  refine tg_aload_n 0 C0 dX8_mean_0 rfl rfl ?_
  refine tg_iload_n 1 C0 dX8_mean_1 rfl rfl ?_
  refine tg_callSi (As := [.int x1]) 1 C0 dX8_mean_2 (c_X8_isSide l x1 v) rfl rfl (tm_gc tc_X8_isSide) tl_X8_268 tn_X8 tst_X8_isSide  rfl rfl rfl rfl (by decide +kernel) ⟨by decide, by decide⟩ (Nat.le_of_ble_eq_true rfl) ⟨by decide, by decide⟩ (fun r2 v1 _ => ?_)
  refine tg_if_eq 12 C0 dX8_mean_5 (by decide) (fun _ => ?_) (fun _ => ?_)
  · refine tg_iconst (x := 1) C0 dX8_mean_12 (by decide) ?_
    exact w_X8_mean_13 C0 x1 1 v1
  · refine tg_iconst (x := 0) C0 dX8_mean_8 (by decide) ?_
    refine tg_goto 13 C0 dX8_mean_9 (by decide) ?_
    exact w_X8_mean_13 C0 x1 0 v1
theorem c_X8_mean (l : Launch) (x1 : Int32) (v : tmM) : tmMd tm_NWR tm_shR 13 l yX8_mean (Cond.code yX8_mean cX8_mean 2 (some .double) :: TMW) ({ frames := 4, cells := 0, slots := 0, locals := 90 } : Room) (fun ad => [.ref (ad 0), .int x1]) v (f_X8_mean x1 v) :=
  tmMd.of (cc := cX8_mean) (nL := 2) (by decide +kernel) rfl tm_NWR_ok (fun _ => Nat.le_of_ble_eq_true rfl) (fun p e s m args below meth c A D cy ad z C0 => w_X8_mean C0 x1 v)
-- ----- X8_hasKey
theorem dX8_hasKey_0 : decode cX8_hasKey 0 = .ok (.aload_n 0, 1) := by decide +kernel
theorem dX8_hasKey_1 : decode cX8_hasKey 1 = .ok (.getfield 7, 3) := by decide +kernel
theorem dX8_hasKey_4 : decode cX8_hasKey 4 = .ok (.bipush 11, 2) := by decide +kernel
theorem dX8_hasKey_6 : decode cX8_hasKey 6 = .ok (.iload_n 1, 1) := by decide +kernel
theorem dX8_hasKey_7 : decode cX8_hasKey 7 = .ok (.iadd, 1) := by decide +kernel
theorem dX8_hasKey_8 : decode cX8_hasKey 8 = .ok (.iaload, 1) := by decide +kernel
theorem dX8_hasKey_9 : decode cX8_hasKey 9 = .ok (.iconst (-1), 1) := by decide +kernel
theorem dX8_hasKey_10 : decode cX8_hasKey 10 = .ok (.if_icmp .ne 16, 3) := by decide +kernel
theorem dX8_hasKey_13 : decode cX8_hasKey 13 = .ok (.aload_n 0, 1) := by decide +kernel
theorem dX8_hasKey_14 : decode cX8_hasKey 14 = .ok (.getfield 7, 3) := by decide +kernel
theorem dX8_hasKey_17 : decode cX8_hasKey 17 = .ok (.bipush 71, 2) := by decide +kernel
theorem dX8_hasKey_19 : decode cX8_hasKey 19 = .ok (.iload_n 1, 1) := by decide +kernel
theorem dX8_hasKey_20 : decode cX8_hasKey 20 = .ok (.iadd, 1) := by decide +kernel
theorem dX8_hasKey_21 : decode cX8_hasKey 21 = .ok (.iaload, 1) := by decide +kernel
theorem dX8_hasKey_22 : decode cX8_hasKey 22 = .ok (.iconst (-1), 1) := by decide +kernel
theorem dX8_hasKey_23 : decode cX8_hasKey 23 = .ok (.if_icmp .eq 7, 3) := by decide +kernel
theorem dX8_hasKey_26 : decode cX8_hasKey 26 = .ok (.iconst 1, 1) := by decide +kernel
theorem dX8_hasKey_27 : decode cX8_hasKey 27 = .ok (.goto 4, 3) := by decide +kernel
theorem dX8_hasKey_30 : decode cX8_hasKey 30 = .ok (.iconst 0, 1) := by decide +kernel
theorem dX8_hasKey_31 : decode cX8_hasKey 31 = .ok (.ireturn, 1) := by decide +kernel
def f_X8_hasKey_26 (v : tmM) : Option (Int32 × tmM) := some (1, v)
set_option maxRecDepth 100000 in
set_option maxHeartbeats 4000000 in
theorem w_X8_hasKey_26 {p : Program} {l : Launch} {e : Env} {s : State} {m : MethodId} {args : Array Value} {below : List Frame} {meth : Method} {c : Code} {D : va_G} {cy : Nat → ClassId} {ad : Nat → Nat} {A : Nat → Prop} {z : (Int32 × tmM)} (C0 : tmC p s m args meth c cX8_hasKey 2 (some .boolean) RX8 TMW tm_NWR D cy tm_shR ad 13 [] A) (v : tmM) : tmG p l e ({ frames := 0, cells := 0, slots := 0, locals := 0 } : Room) s m args below meth c 0 0 (MQ below (va_Qi (fun r u => z = (r, u)) (tmAt tm_shR 13 D cy ad A) A) args s 0 0 A) 2 D cy tm_shR ad 13 [] A z 26 [] [] v (f_X8_hasKey_26 v) := by
  unfold f_X8_hasKey_26
  refine tg_iconst (x := 1) C0 dX8_hasKey_26 (by decide) ?_
  refine tg_goto 31 C0 dX8_hasKey_27 (by decide) ?_
  exact tg_zret C0 dX8_hasKey_31 rfl
def f_X8_hasKey (x1 : Int32) (v : tmM) : Option (Int32 × tmM) := tm_g (tm_ix (11 + x1) 491) ((if (v 1 (11 + x1).toNatClampNeg) = (-1) then tm_g (tm_ix (71 + x1) 491) ((if (v 1 (71 + x1).toNatClampNeg) = (-1) then some (0, v) else f_X8_hasKey_26 v)) else f_X8_hasKey_26 v))
set_option maxRecDepth 100000 in
set_option maxHeartbeats 4000000 in
theorem w_X8_hasKey {p : Program} {l : Launch} {e : Env} {s : State} {m : MethodId} {args : Array Value} {below : List Frame} {meth : Method} {c : Code} {D : va_G} {cy : Nat → ClassId} {ad : Nat → Nat} {A : Nat → Prop} {z : (Int32 × tmM)} (C0 : tmC p s m args meth c cX8_hasKey 2 (some .boolean) RX8 TMW tm_NWR D cy tm_shR ad 13 [] A) (x1 : Int32) (v : tmM) : tmG p l e ({ frames := 0, cells := 0, slots := 0, locals := 0 } : Room) s m args below meth c 0 0 (MQ below (va_Qi (fun r u => z = (r, u)) (tmAt tm_shR 13 D cy ad A) A) args s 0 0 A) 2 D cy tm_shR ad 13 [] A z 0 [(0, .ref (ad 0)), (1, .int x1)] [] v (f_X8_hasKey x1 v) := by
  unfold f_X8_hasKey
  refine tg_aload_n 0 C0 dX8_hasKey_0 rfl rfl ?_
  refine tg_get 0 1 C0 dX8_hasKey_1 (by decide) rfl rfl tu_X8 (by decide) tf_X8_7 rfl rfl rfl ?_
  refine tg_bipush (x := 11) C0 dX8_hasKey_4 (by decide) ?_
  refine tg_iload_n 1 C0 dX8_hasKey_6 rfl rfl ?_
  refine tg_iadd C0 dX8_hasKey_7 ?_
  refine tg_iald 1 C0 dX8_hasKey_8 (by decide) rfl (fun _ => ?_)
  refine tg_iconst (x := (-1)) C0 dX8_hasKey_9 (by decide) ?_
  refine tg_icmp_ne 26 C0 dX8_hasKey_10 (by decide) (fun _ => ?_) (fun _ => ?_)
  · refine tg_sub [] rfl ?_
    exact w_X8_hasKey_26 C0 v
  · refine tg_aload_n 0 C0 dX8_hasKey_13 rfl rfl ?_
    refine tg_get 0 1 C0 dX8_hasKey_14 (by decide) rfl rfl tu_X8 (by decide) tf_X8_7 rfl rfl rfl ?_
    refine tg_bipush (x := 71) C0 dX8_hasKey_17 (by decide) ?_
    refine tg_iload_n 1 C0 dX8_hasKey_19 rfl rfl ?_
    refine tg_iadd C0 dX8_hasKey_20 ?_
    refine tg_iald 1 C0 dX8_hasKey_21 (by decide) rfl (fun _ => ?_)
    refine tg_iconst (x := (-1)) C0 dX8_hasKey_22 (by decide) ?_
    refine tg_icmp_eq 30 C0 dX8_hasKey_23 (by decide) (fun _ => ?_) (fun _ => ?_)
    · refine tg_iconst (x := 0) C0 dX8_hasKey_30 (by decide) ?_
      exact tg_zret C0 dX8_hasKey_31 rfl
    · refine tg_sub [] rfl ?_
      exact w_X8_hasKey_26 C0 v
theorem c_X8_hasKey (l : Launch) (x1 : Int32) (v : tmM) : tmMi tm_NWR tm_shR 13 l yX8_hasKey (Cond.code yX8_hasKey cX8_hasKey 2 (some .boolean) :: TMW) ({ frames := 0, cells := 0, slots := 0, locals := 0 } : Room) (fun ad => [.ref (ad 0), .int x1]) v (f_X8_hasKey x1 v) :=
  tmMi.of (cc := cX8_hasKey) (nL := 2) (by decide +kernel) rfl tm_NWR_ok (fun _ => Nat.le_of_ble_eq_true rfl) (fun p e s m args below meth c A D cy ad z C0 => w_X8_hasKey C0 x1 v)
-- ----- X8_readSum
theorem dX8_readSum_0 : decode cX8_readSum 0 = .ok (.aload_n 0, 1) := by decide +kernel
theorem dX8_readSum_1 : decode cX8_readSum 1 = .ok (.iload_n 1, 1) := by decide +kernel
theorem dX8_readSum_2 : decode cX8_readSum 2 = .ok (.invokestatic 125, 3) := by decide +kernel
theorem dX8_readSum_5 : decode cX8_readSum 5 = .ok (.ifCond .eq 15, 3) := by decide +kernel
theorem dX8_readSum_8 : decode cX8_readSum 8 = .ok (.iload_n 2, 1) := by decide +kernel
theorem dX8_readSum_9 : decode cX8_readSum 9 = .ok (.iload_n 3, 1) := by decide +kernel
theorem dX8_readSum_10 : decode cX8_readSum 10 = .ok (.invokestatic 162, 3) := by decide +kernel
theorem dX8_readSum_13 : decode cX8_readSum 13 = .ok (.ifCond .eq 7, 3) := by decide +kernel
theorem dX8_readSum_16 : decode cX8_readSum 16 = .ok (.iconst 0, 1) := by decide +kernel
theorem dX8_readSum_17 : decode cX8_readSum 17 = .ok (.goto 4, 3) := by decide +kernel
theorem dX8_readSum_20 : decode cX8_readSum 20 = .ok (.iconst 1, 1) := by decide +kernel
theorem dX8_readSum_21 : decode cX8_readSum 21 = .ok (.putfield 56, 3) := by decide +kernel
theorem dX8_readSum_24 : decode cX8_readSum 24 = .ok (.aload_n 0, 1) := by decide +kernel
theorem dX8_readSum_25 : decode cX8_readSum 25 = .ok (.getfield 56, 3) := by decide +kernel
theorem dX8_readSum_28 : decode cX8_readSum 28 = .ok (.ifCond .le 5, 3) := by decide +kernel
theorem dX8_readSum_31 : decode cX8_readSum 31 = .ok (.iconst 0, 1) := by decide +kernel
theorem dX8_readSum_32 : decode cX8_readSum 32 = .ok (.ireturn, 1) := by decide +kernel
theorem dX8_readSum_33 : decode cX8_readSum 33 = .ok (.aload_n 0, 1) := by decide +kernel
theorem dX8_readSum_34 : decode cX8_readSum 34 = .ok (.iload_n 1, 1) := by decide +kernel
theorem dX8_readSum_35 : decode cX8_readSum 35 = .ok (.invokevirtual 128, 3) := by decide +kernel
theorem dX8_readSum_38 : decode cX8_readSum 38 = .ok (.istore 4, 2) := by decide +kernel
theorem dX8_readSum_40 : decode cX8_readSum 40 = .ok (.iconst 0, 1) := by decide +kernel
theorem dX8_readSum_41 : decode cX8_readSum 41 = .ok (.istore 5, 2) := by decide +kernel
theorem dX8_readSum_43 : decode cX8_readSum 43 = .ok (.iconst 0, 1) := by decide +kernel
theorem dX8_readSum_44 : decode cX8_readSum 44 = .ok (.istore 6, 2) := by decide +kernel
theorem dX8_readSum_46 : decode cX8_readSum 46 = .ok (.iload_n 2, 1) := by decide +kernel
theorem dX8_readSum_47 : decode cX8_readSum 47 = .ok (.istore 7, 2) := by decide +kernel
theorem dX8_readSum_49 : decode cX8_readSum 49 = .ok (.iload 7, 2) := by decide +kernel
theorem dX8_readSum_51 : decode cX8_readSum 51 = .ok (.iload_n 3, 1) := by decide +kernel
theorem dX8_readSum_52 : decode cX8_readSum 52 = .ok (.if_icmp .gt 54, 3) := by decide +kernel
theorem dX8_readSum_55 : decode cX8_readSum 55 = .ok (.aload_n 0, 1) := by decide +kernel
theorem dX8_readSum_56 : decode cX8_readSum 56 = .ok (.iload 4, 2) := by decide +kernel
theorem dX8_readSum_58 : decode cX8_readSum 58 = .ok (.iload 7, 2) := by decide +kernel
theorem dX8_readSum_60 : decode cX8_readSum 60 = .ok (.invokevirtual 74, 3) := by decide +kernel
theorem dX8_readSum_63 : decode cX8_readSum 63 = .ok (.istore 8, 2) := by decide +kernel
theorem dX8_readSum_65 : decode cX8_readSum 65 = .ok (.iload 6, 2) := by decide +kernel
theorem dX8_readSum_67 : decode cX8_readSum 67 = .ok (.ifCond .ne 10, 3) := by decide +kernel
theorem dX8_readSum_70 : decode cX8_readSum 70 = .ok (.iload 8, 2) := by decide +kernel
theorem dX8_readSum_72 : decode cX8_readSum 72 = .ok (.bipush (-3), 2) := by decide +kernel
theorem dX8_readSum_74 : decode cX8_readSum 74 = .ok (.if_icmp .ne 7, 3) := by decide +kernel
theorem dX8_readSum_77 : decode cX8_readSum 77 = .ok (.iconst 1, 1) := by decide +kernel
theorem dX8_readSum_78 : decode cX8_readSum 78 = .ok (.goto 4, 3) := by decide +kernel
theorem dX8_readSum_81 : decode cX8_readSum 81 = .ok (.iconst 0, 1) := by decide +kernel
theorem dX8_readSum_82 : decode cX8_readSum 82 = .ok (.istore 6, 2) := by decide +kernel
theorem dX8_readSum_84 : decode cX8_readSum 84 = .ok (.iload 5, 2) := by decide +kernel
theorem dX8_readSum_86 : decode cX8_readSum 86 = .ok (.iload 8, 2) := by decide +kernel
theorem dX8_readSum_88 : decode cX8_readSum 88 = .ok (.ifCond .le 8, 3) := by decide +kernel
theorem dX8_readSum_91 : decode cX8_readSum 91 = .ok (.iload 8, 2) := by decide +kernel
theorem dX8_readSum_93 : decode cX8_readSum 93 = .ok (.goto 4, 3) := by decide +kernel
theorem dX8_readSum_96 : decode cX8_readSum 96 = .ok (.iconst 0, 1) := by decide +kernel
theorem dX8_readSum_97 : decode cX8_readSum 97 = .ok (.iadd, 1) := by decide +kernel
theorem dX8_readSum_98 : decode cX8_readSum 98 = .ok (.istore 5, 2) := by decide +kernel
theorem dX8_readSum_100 : decode cX8_readSum 100 = .ok (.iinc 7 1, 3) := by decide +kernel
theorem dX8_readSum_103 : decode cX8_readSum 103 = .ok (.goto (-54), 3) := by decide +kernel
theorem dX8_readSum_106 : decode cX8_readSum 106 = .ok (.aload_n 0, 1) := by decide +kernel
theorem dX8_readSum_107 : decode cX8_readSum 107 = .ok (.iload 4, 2) := by decide +kernel
theorem dX8_readSum_109 : decode cX8_readSum 109 = .ok (.invokevirtual 113, 3) := by decide +kernel
theorem dX8_readSum_112 : decode cX8_readSum 112 = .ok (.ifCond .ne 8, 3) := by decide +kernel
theorem dX8_readSum_115 : decode cX8_readSum 115 = .ok (.bipush (-2), 2) := by decide +kernel
theorem dX8_readSum_117 : decode cX8_readSum 117 = .ok (.goto 15, 3) := by decide +kernel
theorem dX8_readSum_120 : decode cX8_readSum 120 = .ok (.iload 6, 2) := by decide +kernel
theorem dX8_readSum_122 : decode cX8_readSum 122 = .ok (.ifCond .eq 8, 3) := by decide +kernel
theorem dX8_readSum_125 : decode cX8_readSum 125 = .ok (.bipush (-3), 2) := by decide +kernel
theorem dX8_readSum_127 : decode cX8_readSum 127 = .ok (.goto 5, 3) := by decide +kernel
theorem dX8_readSum_130 : decode cX8_readSum 130 = .ok (.iload 5, 2) := by decide +kernel
theorem dX8_readSum_132 : decode cX8_readSum 132 = .ok (.ireturn, 1) := by decide +kernel
def f_X8_readSum_97 (K0 : Int32 → Int32 → Int32 → tmM → Option (Int32 × tmM)) (L : Int32 → Int32 → Int32 → Int32 → Int32 → tmM → Option (Int32 × tmM)) (x3 x4 x6 x7 s0 s1 : Int32) (v : tmM) : Option (Int32 × tmM) := tm_lt (s1 + s0) fun y8 => L x3 x4 y8 x6 (x7 + 1) v
set_option maxRecDepth 100000 in
set_option maxHeartbeats 4000000 in
theorem w_X8_readSum_97 {p : Program} {l : Launch} {e : Env} {s : State} {m : MethodId} {args : Array Value} {below : List Frame} {meth : Method} {c : Code} {D : va_G} {cy : Nat → ClassId} {ad : Nat → Nat} {A : Nat → Prop} {z : (Int32 × tmM)} {K0 : Int32 → Int32 → Int32 → tmM → Option (Int32 × tmM)} {L : Int32 → Int32 → Int32 → Int32 → Int32 → tmM → Option (Int32 × tmM)} (C0 : tmC p s m args meth c cX8_readSum 9 (some .int) RX8 TMW tm_NWR D cy tm_shR ad 13 [] A) (hK0 : ∀ (a4 a5 a6 : Int32) (w : tmM), tmG p l e ({ frames := 3, cells := 0, slots := 0, locals := 67 } : Room) s m args below meth c 0 0 (MQ below (va_Qi (fun r u => z = (r, u)) (tmAt tm_shR 13 D cy ad A) A) args s 0 0 A) 9 D cy tm_shR ad 13 [] A z 106 [(0, .ref (ad 0)), (4, .int a4), (5, .int a5), (6, .int a6)] [] w (K0 a4 a5 a6 w)) (hL : ∀ (a3 a4 a5 a6 a7 : Int32) (w : tmM), tmG p l e ({ frames := 3, cells := 0, slots := 0, locals := 67 } : Room) s m args below meth c 0 0 (MQ below (va_Qi (fun r u => z = (r, u)) (tmAt tm_shR 13 D cy ad A) A) args s 0 0 A) 9 D cy tm_shR ad 13 [] A z 49 [(0, .ref (ad 0)), (3, .int a3), (4, .int a4), (5, .int a5), (6, .int a6), (7, .int a7)] [] w (L a3 a4 a5 a6 a7 w)) (x3 x4 x6 x7 s0 s1 : Int32) (v : tmM) : tmG p l e ({ frames := 3, cells := 0, slots := 0, locals := 67 } : Room) s m args below meth c 0 0 (MQ below (va_Qi (fun r u => z = (r, u)) (tmAt tm_shR 13 D cy ad A) A) args s 0 0 A) 9 D cy tm_shR ad 13 [] A z 97 [(0, .ref (ad 0)), (3, .int x3), (4, .int x4), (6, .int x6), (7, .int x7)] [.int s0, .int s1] v (f_X8_readSum_97 K0 L x3 x4 x6 x7 s0 s1 v) := by
  unfold f_X8_readSum_97
  refine tg_iadd C0 dX8_readSum_97 ?_
  refine tg_leti (fun y8 _ => ?_)
  refine tg_istore [(5, .int y8), (0, .ref (ad 0)), (3, .int x3), (4, .int x4), (6, .int x6), (7, .int x7)] C0 dX8_readSum_98 (by decide) rfl ?_
  refine tg_iinc [(7, .int (x7 + 1)), (5, .int y8), (0, .ref (ad 0)), (3, .int x3), (4, .int x4), (6, .int x6)] 5 C0 dX8_readSum_100 rfl rfl (by decide) rfl ?_
  refine tg_goto 49 C0 dX8_readSum_103 (by decide) ?_
  refine tg_sub [2, 3, 4, 1, 5, 0] rfl ?_
  exact hL x3 x4 y8 x6 (x7 + 1) v
def f_X8_readSum_82 (K0 : Int32 → Int32 → Int32 → tmM → Option (Int32 × tmM)) (L : Int32 → Int32 → Int32 → Int32 → Int32 → tmM → Option (Int32 × tmM)) (x3 x4 x5 x7 x8 s0 : Int32) (v : tmM) : Option (Int32 × tmM) := (if x8 ≤ 0 then f_X8_readSum_97 K0 L x3 x4 s0 x7 0 x5 v else f_X8_readSum_97 K0 L x3 x4 s0 x7 x8 x5 v)
set_option maxRecDepth 100000 in
set_option maxHeartbeats 4000000 in
theorem w_X8_readSum_82 {p : Program} {l : Launch} {e : Env} {s : State} {m : MethodId} {args : Array Value} {below : List Frame} {meth : Method} {c : Code} {D : va_G} {cy : Nat → ClassId} {ad : Nat → Nat} {A : Nat → Prop} {z : (Int32 × tmM)} {K0 : Int32 → Int32 → Int32 → tmM → Option (Int32 × tmM)} {L : Int32 → Int32 → Int32 → Int32 → Int32 → tmM → Option (Int32 × tmM)} (C0 : tmC p s m args meth c cX8_readSum 9 (some .int) RX8 TMW tm_NWR D cy tm_shR ad 13 [] A) (hK0 : ∀ (a4 a5 a6 : Int32) (w : tmM), tmG p l e ({ frames := 3, cells := 0, slots := 0, locals := 67 } : Room) s m args below meth c 0 0 (MQ below (va_Qi (fun r u => z = (r, u)) (tmAt tm_shR 13 D cy ad A) A) args s 0 0 A) 9 D cy tm_shR ad 13 [] A z 106 [(0, .ref (ad 0)), (4, .int a4), (5, .int a5), (6, .int a6)] [] w (K0 a4 a5 a6 w)) (hL : ∀ (a3 a4 a5 a6 a7 : Int32) (w : tmM), tmG p l e ({ frames := 3, cells := 0, slots := 0, locals := 67 } : Room) s m args below meth c 0 0 (MQ below (va_Qi (fun r u => z = (r, u)) (tmAt tm_shR 13 D cy ad A) A) args s 0 0 A) 9 D cy tm_shR ad 13 [] A z 49 [(0, .ref (ad 0)), (3, .int a3), (4, .int a4), (5, .int a5), (6, .int a6), (7, .int a7)] [] w (L a3 a4 a5 a6 a7 w)) (x3 x4 x5 x7 x8 s0 : Int32) (v : tmM) : tmG p l e ({ frames := 3, cells := 0, slots := 0, locals := 67 } : Room) s m args below meth c 0 0 (MQ below (va_Qi (fun r u => z = (r, u)) (tmAt tm_shR 13 D cy ad A) A) args s 0 0 A) 9 D cy tm_shR ad 13 [] A z 82 [(0, .ref (ad 0)), (3, .int x3), (4, .int x4), (5, .int x5), (7, .int x7), (8, .int x8)] [.int s0] v (f_X8_readSum_82 K0 L x3 x4 x5 x7 x8 s0 v) := by
  unfold f_X8_readSum_82
  refine tg_istore [(6, .int s0), (0, .ref (ad 0)), (3, .int x3), (4, .int x4), (5, .int x5), (7, .int x7), (8, .int x8)] C0 dX8_readSum_82 (by decide) rfl ?_
  refine tg_iload 4 C0 dX8_readSum_84 rfl ?_
  refine tg_iload 6 C0 dX8_readSum_86 rfl ?_
  refine tg_if_le 96 C0 dX8_readSum_88 (by decide) (fun _ => ?_) (fun _ => ?_)
  · refine tg_iconst (x := 0) C0 dX8_readSum_96 (by decide) ?_
    refine tg_sub [1, 2, 3, 0, 5] rfl ?_
    exact w_X8_readSum_97 C0 hK0 hL x3 x4 s0 x7 0 x5 v
  · refine tg_iload 6 C0 dX8_readSum_91 rfl ?_
    refine tg_goto 97 C0 dX8_readSum_93 (by decide) ?_
    refine tg_sub [1, 2, 3, 0, 5] rfl ?_
    exact w_X8_readSum_97 C0 hK0 hL x3 x4 s0 x7 x8 x5 v
def f_X8_readSum_77 (K0 : Int32 → Int32 → Int32 → tmM → Option (Int32 × tmM)) (L : Int32 → Int32 → Int32 → Int32 → Int32 → tmM → Option (Int32 × tmM)) (x3 x4 x5 x7 x8 : Int32) (v : tmM) : Option (Int32 × tmM) := f_X8_readSum_82 K0 L x3 x4 x5 x7 x8 1 v
set_option maxRecDepth 100000 in
set_option maxHeartbeats 4000000 in
theorem w_X8_readSum_77 {p : Program} {l : Launch} {e : Env} {s : State} {m : MethodId} {args : Array Value} {below : List Frame} {meth : Method} {c : Code} {D : va_G} {cy : Nat → ClassId} {ad : Nat → Nat} {A : Nat → Prop} {z : (Int32 × tmM)} {K0 : Int32 → Int32 → Int32 → tmM → Option (Int32 × tmM)} {L : Int32 → Int32 → Int32 → Int32 → Int32 → tmM → Option (Int32 × tmM)} (C0 : tmC p s m args meth c cX8_readSum 9 (some .int) RX8 TMW tm_NWR D cy tm_shR ad 13 [] A) (hK0 : ∀ (a4 a5 a6 : Int32) (w : tmM), tmG p l e ({ frames := 3, cells := 0, slots := 0, locals := 67 } : Room) s m args below meth c 0 0 (MQ below (va_Qi (fun r u => z = (r, u)) (tmAt tm_shR 13 D cy ad A) A) args s 0 0 A) 9 D cy tm_shR ad 13 [] A z 106 [(0, .ref (ad 0)), (4, .int a4), (5, .int a5), (6, .int a6)] [] w (K0 a4 a5 a6 w)) (hL : ∀ (a3 a4 a5 a6 a7 : Int32) (w : tmM), tmG p l e ({ frames := 3, cells := 0, slots := 0, locals := 67 } : Room) s m args below meth c 0 0 (MQ below (va_Qi (fun r u => z = (r, u)) (tmAt tm_shR 13 D cy ad A) A) args s 0 0 A) 9 D cy tm_shR ad 13 [] A z 49 [(0, .ref (ad 0)), (3, .int a3), (4, .int a4), (5, .int a5), (6, .int a6), (7, .int a7)] [] w (L a3 a4 a5 a6 a7 w)) (x3 x4 x5 x7 x8 : Int32) (v : tmM) : tmG p l e ({ frames := 3, cells := 0, slots := 0, locals := 67 } : Room) s m args below meth c 0 0 (MQ below (va_Qi (fun r u => z = (r, u)) (tmAt tm_shR 13 D cy ad A) A) args s 0 0 A) 9 D cy tm_shR ad 13 [] A z 77 [(0, .ref (ad 0)), (3, .int x3), (4, .int x4), (5, .int x5), (7, .int x7), (8, .int x8)] [] v (f_X8_readSum_77 K0 L x3 x4 x5 x7 x8 v) := by
  unfold f_X8_readSum_77
  refine tg_iconst (x := 1) C0 dX8_readSum_77 (by decide) ?_
  refine tg_goto 82 C0 dX8_readSum_78 (by decide) ?_
  exact w_X8_readSum_82 C0 hK0 hL x3 x4 x5 x7 x8 1 v
def f_X8_readSum_49b (K0 : Int32 → Int32 → Int32 → tmM → Option (Int32 × tmM)) (L : Int32 → Int32 → Int32 → Int32 → Int32 → tmM → Option (Int32 × tmM)) (x3 x4 x5 x6 x7 : Int32) (v : tmM) : Option (Int32 × tmM) := (if x3 < x7 then K0 x4 x5 x6 v else tm_cl (f_X8_valueIn x4 x7 v) fun r7 v6 => (if x6 = 0 then (if r7 = (-3) then f_X8_readSum_77 K0 L x3 x4 x5 x7 r7 v6 else f_X8_readSum_82 K0 L x3 x4 x5 x7 r7 0 v6) else f_X8_readSum_77 K0 L x3 x4 x5 x7 r7 v6))
set_option maxRecDepth 100000 in
set_option maxHeartbeats 4000000 in
theorem w_X8_readSum_49b {p : Program} {l : Launch} {e : Env} {s : State} {m : MethodId} {args : Array Value} {below : List Frame} {meth : Method} {c : Code} {D : va_G} {cy : Nat → ClassId} {ad : Nat → Nat} {A : Nat → Prop} {z : (Int32 × tmM)} {K0 : Int32 → Int32 → Int32 → tmM → Option (Int32 × tmM)} {L : Int32 → Int32 → Int32 → Int32 → Int32 → tmM → Option (Int32 × tmM)} (C0 : tmC p s m args meth c cX8_readSum 9 (some .int) RX8 TMW tm_NWR D cy tm_shR ad 13 [] A) (hK0 : ∀ (a4 a5 a6 : Int32) (w : tmM), tmG p l e ({ frames := 3, cells := 0, slots := 0, locals := 67 } : Room) s m args below meth c 0 0 (MQ below (va_Qi (fun r u => z = (r, u)) (tmAt tm_shR 13 D cy ad A) A) args s 0 0 A) 9 D cy tm_shR ad 13 [] A z 106 [(0, .ref (ad 0)), (4, .int a4), (5, .int a5), (6, .int a6)] [] w (K0 a4 a5 a6 w)) (hL : ∀ (a3 a4 a5 a6 a7 : Int32) (w : tmM), tmG p l e ({ frames := 3, cells := 0, slots := 0, locals := 67 } : Room) s m args below meth c 0 0 (MQ below (va_Qi (fun r u => z = (r, u)) (tmAt tm_shR 13 D cy ad A) A) args s 0 0 A) 9 D cy tm_shR ad 13 [] A z 49 [(0, .ref (ad 0)), (3, .int a3), (4, .int a4), (5, .int a5), (6, .int a6), (7, .int a7)] [] w (L a3 a4 a5 a6 a7 w)) (x3 x4 x5 x6 x7 : Int32) (v : tmM) : tmG p l e ({ frames := 3, cells := 0, slots := 0, locals := 67 } : Room) s m args below meth c 0 0 (MQ below (va_Qi (fun r u => z = (r, u)) (tmAt tm_shR 13 D cy ad A) A) args s 0 0 A) 9 D cy tm_shR ad 13 [] A z 49 [(0, .ref (ad 0)), (3, .int x3), (4, .int x4), (5, .int x5), (6, .int x6), (7, .int x7)] [] v (f_X8_readSum_49b K0 L x3 x4 x5 x6 x7 v) := by
  unfold f_X8_readSum_49b
  refine tg_iload 5 C0 dX8_readSum_49 rfl ?_
  refine tg_iload_n 1 C0 dX8_readSum_51 rfl rfl ?_
  refine tg_icmp_gt 106 C0 dX8_readSum_52 (by decide) (fun _ => ?_) (fun _ => ?_)
  · refine tg_sub [0, 2, 3, 4] rfl ?_
    exact hK0 x4 x5 x6 v
  · refine tg_aload_n 0 C0 dX8_readSum_55 rfl rfl ?_
    refine tg_iload 2 C0 dX8_readSum_56 rfl ?_
    refine tg_iload 5 C0 dX8_readSum_58 rfl ?_
    refine tg_callVi (As := [.int x4, .int x7]) 0 2 C0 dX8_readSum_60 (c_X8_valueIn l x4 x7 v) rfl rfl (by decide) rfl rfl (tm_gV tl_X8_74 ti_X8_valueIn ts_X8_valueIn tn_X8 tc_X8_valueIn)  rfl rfl rfl rfl (by decide +kernel) ⟨by decide, by decide⟩ (Nat.le_of_ble_eq_true rfl) ⟨by decide, by decide⟩ (fun r7 v6 _ => ?_)
    refine tg_istore [(8, .int r7), (0, .ref (ad 0)), (3, .int x3), (4, .int x4), (5, .int x5), (6, .int x6), (7, .int x7)] C0 dX8_readSum_63 (by decide) rfl ?_
    refine tg_iload 5 C0 dX8_readSum_65 rfl ?_
    refine tg_if_ne 77 C0 dX8_readSum_67 (by decide) (fun _ => ?_) (fun _ => ?_)
    · refine tg_sub [1, 2, 3, 4, 6, 0] rfl ?_
      exact w_X8_readSum_77 C0 hK0 hL x3 x4 x5 x7 r7 v6
    · refine tg_iload 0 C0 dX8_readSum_70 rfl ?_
      refine tg_bipush (x := (-3)) C0 dX8_readSum_72 (by decide) ?_
      refine tg_icmp_ne 81 C0 dX8_readSum_74 (by decide) (fun _ => ?_) (fun _ => ?_)
      · refine tg_iconst (x := 0) C0 dX8_readSum_81 (by decide) ?_
        refine tg_sub [1, 2, 3, 4, 6, 0] rfl ?_
        exact w_X8_readSum_82 C0 hK0 hL x3 x4 x5 x7 r7 0 v6
      · refine tg_sub [1, 2, 3, 4, 6, 0] rfl ?_
        exact w_X8_readSum_77 C0 hK0 hL x3 x4 x5 x7 r7 v6
def f_X8_readSum_49 (K0 : Int32 → Int32 → Int32 → tmM → Option (Int32 × tmM)) : Nat → Int32 → Int32 → Int32 → Int32 → Int32 → tmM → Option (Int32 × tmM)
  | 0 => fun _ _ _ _ _ _ => none
  | n + 1 => f_X8_readSum_49b K0 (f_X8_readSum_49 K0 n)
theorem w_X8_readSum_49 {p : Program} {l : Launch} {e : Env} {s : State} {m : MethodId} {args : Array Value} {below : List Frame} {meth : Method} {c : Code} {D : va_G} {cy : Nat → ClassId} {ad : Nat → Nat} {A : Nat → Prop} {z : (Int32 × tmM)} {K0 : Int32 → Int32 → Int32 → tmM → Option (Int32 × tmM)} (C0 : tmC p s m args meth c cX8_readSum 9 (some .int) RX8 TMW tm_NWR D cy tm_shR ad 13 [] A) (hK0 : ∀ (a4 a5 a6 : Int32) (w : tmM), tmG p l e ({ frames := 3, cells := 0, slots := 0, locals := 67 } : Room) s m args below meth c 0 0 (MQ below (va_Qi (fun r u => z = (r, u)) (tmAt tm_shR 13 D cy ad A) A) args s 0 0 A) 9 D cy tm_shR ad 13 [] A z 106 [(0, .ref (ad 0)), (4, .int a4), (5, .int a5), (6, .int a6)] [] w (K0 a4 a5 a6 w)) (nn : Nat) : ∀ (x3 x4 x5 x6 x7 : Int32) (v : tmM), tmG p l e ({ frames := 3, cells := 0, slots := 0, locals := 67 } : Room) s m args below meth c 0 0 (MQ below (va_Qi (fun r u => z = (r, u)) (tmAt tm_shR 13 D cy ad A) A) args s 0 0 A) 9 D cy tm_shR ad 13 [] A z 49 [(0, .ref (ad 0)), (3, .int x3), (4, .int x4), (5, .int x5), (6, .int x6), (7, .int x7)] [] v (f_X8_readSum_49 K0 nn x3 x4 x5 x6 x7 v) := by
  induction nn with
  | zero => intro _ _ _ _ _ _; exact tg_none
  | succ n ih => intro x3 x4 x5 x6 x7 v; exact w_X8_readSum_49b C0 hK0 ih x3 x4 x5 x6 x7 v
def f_X8_readSum_21 (x1 x2 x3 s0 : Int32) (v : tmM) : Option (Int32 × tmM) := tm_lt (tm_up v 0 0 s0) fun v3 => (if (v3 0 0) ≤ 0 then tm_cl (f_X8_sideOf x1 v3) fun r5 v4 => f_X8_readSum_49 (fun x9 x10 x11 v12 => tm_cl (f_X8_isUp x9 v12) fun r14 v13 => (if r14 = 0 then some ((-2), v13) else (if x11 = 0 then some (x10, v13) else some ((-3), v13)))) 10000 x3 r5 0 0 x2 v4 else some (0, v3))
set_option maxRecDepth 100000 in
set_option maxHeartbeats 4000000 in
theorem w_X8_readSum_21 {p : Program} {l : Launch} {e : Env} {s : State} {m : MethodId} {args : Array Value} {below : List Frame} {meth : Method} {c : Code} {D : va_G} {cy : Nat → ClassId} {ad : Nat → Nat} {A : Nat → Prop} {z : (Int32 × tmM)} (C0 : tmC p s m args meth c cX8_readSum 9 (some .int) RX8 TMW tm_NWR D cy tm_shR ad 13 [] A) (x1 x2 x3 s0 : Int32) (v : tmM) : tmG p l e ({ frames := 3, cells := 0, slots := 0, locals := 67 } : Room) s m args below meth c 0 0 (MQ below (va_Qi (fun r u => z = (r, u)) (tmAt tm_shR 13 D cy ad A) A) args s 0 0 A) 9 D cy tm_shR ad 13 [] A z 21 [(0, .ref (ad 0)), (1, .int x1), (2, .int x2), (3, .int x3)] [.int s0, .ref (ad 0)] v (f_X8_readSum_21 x1 x2 x3 s0 v) := by
  unfold f_X8_readSum_21
  refine tg_put 0 0 C0 dX8_readSum_21 (by decide) rfl rfl tu_X8 tyX8_ok nmX8 (by decide) tf_X8_56 rfl rfl rfl rfl rfl rfl ?_
  refine tg_letm (fun v3 _ => ?_)
  refine tg_aload_n 0 C0 dX8_readSum_24 rfl rfl ?_
  refine tg_get 0 0 C0 dX8_readSum_25 (by decide) rfl rfl tu_X8 (by decide) tf_X8_56 rfl rfl rfl ?_
  refine tg_if_le 33 C0 dX8_readSum_28 (by decide) (fun _ => ?_) (fun _ => ?_)
  · refine tg_aload_n 0 C0 dX8_readSum_33 rfl rfl ?_
    refine tg_iload_n 1 C0 dX8_readSum_34 rfl rfl ?_
    refine tg_callVi (As := [.int x1]) 0 1 C0 dX8_readSum_35 (c_X8_sideOf l x1 v3) rfl rfl (by decide) rfl rfl (tm_gV tl_X8_128 ti_X8_sideOf ts_X8_sideOf tn_X8 tc_X8_sideOf)  rfl rfl rfl rfl (by decide +kernel) ⟨by decide, by decide⟩ (Nat.le_of_ble_eq_true rfl) ⟨by decide, by decide⟩ (fun r5 v4 _ => ?_)
    refine tg_istore [(4, .int r5), (0, .ref (ad 0)), (1, .int x1), (2, .int x2), (3, .int x3)] C0 dX8_readSum_38 (by decide) rfl ?_
    refine tg_iconst (x := 0) C0 dX8_readSum_40 (by decide) ?_
    refine tg_istore [(5, .int 0), (4, .int r5), (0, .ref (ad 0)), (1, .int x1), (2, .int x2), (3, .int x3)] C0 dX8_readSum_41 (by decide) rfl ?_
    refine tg_iconst (x := 0) C0 dX8_readSum_43 (by decide) ?_
    refine tg_istore [(6, .int 0), (5, .int 0), (4, .int r5), (0, .ref (ad 0)), (1, .int x1), (2, .int x2), (3, .int x3)] C0 dX8_readSum_44 (by decide) rfl ?_
    refine tg_iload_n 5 C0 dX8_readSum_46 rfl rfl ?_
    refine tg_istore [(7, .int x2), (6, .int 0), (5, .int 0), (4, .int r5), (0, .ref (ad 0)), (1, .int x1), (2, .int x2), (3, .int x3)] C0 dX8_readSum_47 (by decide) rfl ?_
    refine tg_sub [4, 7, 3, 2, 1, 0] rfl ?_
    refine w_X8_readSum_49 C0 (fun x9 x10 x11 v12 => ?_) 10000 x3 r5 0 0 x2 v4
    refine tg_aload_n 0 C0 dX8_readSum_106 rfl rfl ?_
    refine tg_iload 1 C0 dX8_readSum_107 rfl ?_
    refine tg_callVi (As := [.int x9]) 0 1 C0 dX8_readSum_109 (c_X8_isUp l x9 v12) rfl rfl (by decide) rfl rfl (tm_gV tl_X8_113 ti_X8_isUp ts_X8_isUp tn_X8 tc_X8_isUp)  rfl rfl rfl rfl (by decide +kernel) ⟨by decide, by decide⟩ (Nat.le_of_ble_eq_true rfl) ⟨by decide, by decide⟩ (fun r14 v13 _ => ?_)
    refine tg_if_ne 120 C0 dX8_readSum_112 (by decide) (fun _ => ?_) (fun _ => ?_)
    · refine tg_iload 3 C0 dX8_readSum_120 rfl ?_
      refine tg_if_eq 130 C0 dX8_readSum_122 (by decide) (fun _ => ?_) (fun _ => ?_)
      · refine tg_iload 2 C0 dX8_readSum_130 rfl ?_
        exact tg_iret C0 dX8_readSum_132
      · refine tg_bipush (x := (-3)) C0 dX8_readSum_125 (by decide) ?_
        refine tg_goto 132 C0 dX8_readSum_127 (by decide) ?_
        exact tg_iret C0 dX8_readSum_132
    · refine tg_bipush (x := (-2)) C0 dX8_readSum_115 (by decide) ?_
      refine tg_goto 132 C0 dX8_readSum_117 (by decide) ?_
      exact tg_iret C0 dX8_readSum_132
  · refine tg_iconst (x := 0) C0 dX8_readSum_31 (by decide) ?_
    exact tg_iret C0 dX8_readSum_32
def f_X8_readSum_20 (x1 x2 x3 : Int32) (v : tmM) : Option (Int32 × tmM) := f_X8_readSum_21 x1 x2 x3 1 v
set_option maxRecDepth 100000 in
set_option maxHeartbeats 4000000 in
theorem w_X8_readSum_20 {p : Program} {l : Launch} {e : Env} {s : State} {m : MethodId} {args : Array Value} {below : List Frame} {meth : Method} {c : Code} {D : va_G} {cy : Nat → ClassId} {ad : Nat → Nat} {A : Nat → Prop} {z : (Int32 × tmM)} (C0 : tmC p s m args meth c cX8_readSum 9 (some .int) RX8 TMW tm_NWR D cy tm_shR ad 13 [] A) (x1 x2 x3 : Int32) (v : tmM) : tmG p l e ({ frames := 3, cells := 0, slots := 0, locals := 67 } : Room) s m args below meth c 0 0 (MQ below (va_Qi (fun r u => z = (r, u)) (tmAt tm_shR 13 D cy ad A) A) args s 0 0 A) 9 D cy tm_shR ad 13 [] A z 20 [(0, .ref (ad 0)), (1, .int x1), (2, .int x2), (3, .int x3)] [.ref (ad 0)] v (f_X8_readSum_20 x1 x2 x3 v) := by
  unfold f_X8_readSum_20
  refine tg_iconst (x := 1) C0 dX8_readSum_20 (by decide) ?_
  exact w_X8_readSum_21 C0 x1 x2 x3 1 v
def f_X8_readSum (x1 x2 x3 : Int32) (v : tmM) : Option (Int32 × tmM) := tm_cl (f_X8_isReader x1 v) fun r2 v1 => (if r2 = 0 then f_X8_readSum_20 x1 x2 x3 v1 else tm_cl (f_X8_isRange x2 x3 v1) fun r16 v15 => (if r16 = 0 then f_X8_readSum_20 x1 x2 x3 v15 else f_X8_readSum_21 x1 x2 x3 0 v15))
set_option maxRecDepth 100000 in
set_option maxHeartbeats 4000000 in
theorem w_X8_readSum {p : Program} {l : Launch} {e : Env} {s : State} {m : MethodId} {args : Array Value} {below : List Frame} {meth : Method} {c : Code} {D : va_G} {cy : Nat → ClassId} {ad : Nat → Nat} {A : Nat → Prop} {z : (Int32 × tmM)} (C0 : tmC p s m args meth c cX8_readSum 9 (some .int) RX8 TMW tm_NWR D cy tm_shR ad 13 [] A) (x1 x2 x3 : Int32) (v : tmM) : tmG p l e ({ frames := 3, cells := 0, slots := 0, locals := 67 } : Room) s m args below meth c 0 0 (MQ below (va_Qi (fun r u => z = (r, u)) (tmAt tm_shR 13 D cy ad A) A) args s 0 0 A) 9 D cy tm_shR ad 13 [] A z 0 [(0, .ref (ad 0)), (1, .int x1), (2, .int x2), (3, .int x3)] [] v (f_X8_readSum x1 x2 x3 v) := by
  unfold f_X8_readSum
  refine tg_aload_n 0 C0 dX8_readSum_0 rfl rfl ?_
  refine tg_iload_n 1 C0 dX8_readSum_1 rfl rfl ?_
  refine tg_callSi (As := [.int x1]) 1 C0 dX8_readSum_2 (c_X8_isReader l x1 v) rfl rfl (tm_gc tc_X8_isReader) tl_X8_125 tn_X8 tst_X8_isReader  rfl rfl rfl rfl (by decide +kernel) ⟨by decide, by decide⟩ (Nat.le_of_ble_eq_true rfl) ⟨by decide, by decide⟩ (fun r2 v1 _ => ?_)
  refine tg_if_eq 20 C0 dX8_readSum_5 (by decide) (fun _ => ?_) (fun _ => ?_)
  · exact w_X8_readSum_20 C0 x1 x2 x3 v1
  · refine tg_iload_n 2 C0 dX8_readSum_8 rfl rfl ?_
    refine tg_iload_n 3 C0 dX8_readSum_9 rfl rfl ?_
    refine tg_callSi (As := [.int x2, .int x3]) 2 C0 dX8_readSum_10 (c_X8_isRange l x2 x3 v1) rfl rfl (tm_gc tc_X8_isRange) tl_X8_162 tn_X8 tst_X8_isRange  rfl rfl rfl rfl (by decide +kernel) ⟨by decide, by decide⟩ (Nat.le_of_ble_eq_true rfl) ⟨by decide, by decide⟩ (fun r16 v15 _ => ?_)
    refine tg_if_eq 20 C0 dX8_readSum_13 (by decide) (fun _ => ?_) (fun _ => ?_)
    · exact w_X8_readSum_20 C0 x1 x2 x3 v15
    · refine tg_iconst (x := 0) C0 dX8_readSum_16 (by decide) ?_
      refine tg_goto 21 C0 dX8_readSum_17 (by decide) ?_
      exact w_X8_readSum_21 C0 x1 x2 x3 0 v15
theorem c_X8_readSum (l : Launch) (x1 x2 x3 : Int32) (v : tmM) : tmMi tm_NWR tm_shR 13 l yX8_readSum (Cond.code yX8_readSum cX8_readSum 9 (some .int) :: TMW) ({ frames := 3, cells := 0, slots := 0, locals := 67 } : Room) (fun ad => [.ref (ad 0), .int x1, .int x2, .int x3]) v (f_X8_readSum x1 x2 x3 v) :=
  tmMi.of (cc := cX8_readSum) (nL := 9) (by decide +kernel) rfl tm_NWR_ok (fun _ => Nat.le_of_ble_eq_true rfl) (fun p e s m args below meth c A D cy ad z C0 => w_X8_readSum C0 x1 x2 x3 v)
-- ----- X8_written
theorem dX8_written_0 : decode cX8_written 0 = .ok (.aload_n 0, 1) := by decide +kernel
theorem dX8_written_1 : decode cX8_written 1 = .ok (.iload_n 1, 1) := by decide +kernel
theorem dX8_written_2 : decode cX8_written 2 = .ok (.invokestatic 116, 3) := by decide +kernel
theorem dX8_written_5 : decode cX8_written 5 = .ok (.ifCond .eq 7, 3) := by decide +kernel
theorem dX8_written_8 : decode cX8_written 8 = .ok (.iconst 0, 1) := by decide +kernel
theorem dX8_written_9 : decode cX8_written 9 = .ok (.goto 4, 3) := by decide +kernel
theorem dX8_written_12 : decode cX8_written 12 = .ok (.iconst 1, 1) := by decide +kernel
theorem dX8_written_13 : decode cX8_written 13 = .ok (.putfield 56, 3) := by decide +kernel
theorem dX8_written_16 : decode cX8_written 16 = .ok (.aload_n 0, 1) := by decide +kernel
theorem dX8_written_17 : decode cX8_written 17 = .ok (.getfield 56, 3) := by decide +kernel
theorem dX8_written_20 : decode cX8_written 20 = .ok (.ifCond .le 7, 3) := by decide +kernel
theorem dX8_written_23 : decode cX8_written 23 = .ok (.iconst 0, 1) := by decide +kernel
theorem dX8_written_24 : decode cX8_written 24 = .ok (.goto 13, 3) := by decide +kernel
theorem dX8_written_27 : decode cX8_written 27 = .ok (.aload_n 0, 1) := by decide +kernel
theorem dX8_written_28 : decode cX8_written 28 = .ok (.getfield 7, 3) := by decide +kernel
theorem dX8_written_31 : decode cX8_written 31 = .ok (.sipush 431, 3) := by decide +kernel
theorem dX8_written_34 : decode cX8_written 34 = .ok (.iload_n 1, 1) := by decide +kernel
theorem dX8_written_35 : decode cX8_written 35 = .ok (.iadd, 1) := by decide +kernel
theorem dX8_written_36 : decode cX8_written 36 = .ok (.iaload, 1) := by decide +kernel
theorem dX8_written_37 : decode cX8_written 37 = .ok (.ireturn, 1) := by decide +kernel
def f_X8_written_13 (x1 s0 : Int32) (v : tmM) : Option (Int32 × tmM) := tm_lt (tm_up v 0 0 s0) fun v3 => (if (v3 0 0) ≤ 0 then tm_g (tm_ix (431 + x1) 491) (some (v3 1 (431 + x1).toNatClampNeg, v3)) else some (0, v3))
set_option maxRecDepth 100000 in
set_option maxHeartbeats 4000000 in
theorem w_X8_written_13 {p : Program} {l : Launch} {e : Env} {s : State} {m : MethodId} {args : Array Value} {below : List Frame} {meth : Method} {c : Code} {D : va_G} {cy : Nat → ClassId} {ad : Nat → Nat} {A : Nat → Prop} {z : (Int32 × tmM)} (C0 : tmC p s m args meth c cX8_written 2 (some .int) RX8 TMW tm_NWR D cy tm_shR ad 13 [] A) (x1 s0 : Int32) (v : tmM) : tmG p l e ({ frames := 2, cells := 0, slots := 0, locals := 42 } : Room) s m args below meth c 0 0 (MQ below (va_Qi (fun r u => z = (r, u)) (tmAt tm_shR 13 D cy ad A) A) args s 0 0 A) 2 D cy tm_shR ad 13 [] A z 13 [(0, .ref (ad 0)), (1, .int x1)] [.int s0, .ref (ad 0)] v (f_X8_written_13 x1 s0 v) := by
  unfold f_X8_written_13
  refine tg_put 0 0 C0 dX8_written_13 (by decide) rfl rfl tu_X8 tyX8_ok nmX8 (by decide) tf_X8_56 rfl rfl rfl rfl rfl rfl ?_
  refine tg_letm (fun v3 _ => ?_)
  refine tg_aload_n 0 C0 dX8_written_16 rfl rfl ?_
  refine tg_get 0 0 C0 dX8_written_17 (by decide) rfl rfl tu_X8 (by decide) tf_X8_56 rfl rfl rfl ?_
  refine tg_if_le 27 C0 dX8_written_20 (by decide) (fun _ => ?_) (fun _ => ?_)
  · refine tg_aload_n 0 C0 dX8_written_27 rfl rfl ?_
    refine tg_get 0 1 C0 dX8_written_28 (by decide) rfl rfl tu_X8 (by decide) tf_X8_7 rfl rfl rfl ?_
    refine tg_sipush (x := 431) C0 dX8_written_31 (by decide) ?_
    refine tg_iload_n 1 C0 dX8_written_34 rfl rfl ?_
    refine tg_iadd C0 dX8_written_35 ?_
    refine tg_iald 1 C0 dX8_written_36 (by decide) rfl (fun _ => ?_)
    exact tg_iret C0 dX8_written_37
  · refine tg_iconst (x := 0) C0 dX8_written_23 (by decide) ?_
    refine tg_goto 37 C0 dX8_written_24 (by decide) ?_
    exact tg_iret C0 dX8_written_37
def f_X8_written (x1 : Int32) (v : tmM) : Option (Int32 × tmM) := tm_cl (f_X8_isKey x1 v) fun r2 v1 => (if r2 = 0 then f_X8_written_13 x1 1 v1 else f_X8_written_13 x1 0 v1)
set_option maxRecDepth 100000 in
set_option maxHeartbeats 4000000 in
theorem w_X8_written {p : Program} {l : Launch} {e : Env} {s : State} {m : MethodId} {args : Array Value} {below : List Frame} {meth : Method} {c : Code} {D : va_G} {cy : Nat → ClassId} {ad : Nat → Nat} {A : Nat → Prop} {z : (Int32 × tmM)} (C0 : tmC p s m args meth c cX8_written 2 (some .int) RX8 TMW tm_NWR D cy tm_shR ad 13 [] A) (x1 : Int32) (v : tmM) : tmG p l e ({ frames := 2, cells := 0, slots := 0, locals := 42 } : Room) s m args below meth c 0 0 (MQ below (va_Qi (fun r u => z = (r, u)) (tmAt tm_shR 13 D cy ad A) A) args s 0 0 A) 2 D cy tm_shR ad 13 [] A z 0 [(0, .ref (ad 0)), (1, .int x1)] [] v (f_X8_written x1 v) := by
  unfold f_X8_written
  refine tg_aload_n 0 C0 dX8_written_0 rfl rfl ?_
  refine tg_iload_n 1 C0 dX8_written_1 rfl rfl ?_
  refine tg_callSi (As := [.int x1]) 1 C0 dX8_written_2 (c_X8_isKey l x1 v) rfl rfl (tm_gc tc_X8_isKey) tl_X8_116 tn_X8 tst_X8_isKey  rfl rfl rfl rfl (by decide +kernel) ⟨by decide, by decide⟩ (Nat.le_of_ble_eq_true rfl) ⟨by decide, by decide⟩ (fun r2 v1 _ => ?_)
  refine tg_if_eq 12 C0 dX8_written_5 (by decide) (fun _ => ?_) (fun _ => ?_)
  · refine tg_iconst (x := 1) C0 dX8_written_12 (by decide) ?_
    exact w_X8_written_13 C0 x1 1 v1
  · refine tg_iconst (x := 0) C0 dX8_written_8 (by decide) ?_
    refine tg_goto 13 C0 dX8_written_9 (by decide) ?_
    exact w_X8_written_13 C0 x1 0 v1
theorem c_X8_written (l : Launch) (x1 : Int32) (v : tmM) : tmMi tm_NWR tm_shR 13 l yX8_written (Cond.code yX8_written cX8_written 2 (some .int) :: TMW) ({ frames := 2, cells := 0, slots := 0, locals := 42 } : Room) (fun ad => [.ref (ad 0), .int x1]) v (f_X8_written x1 v) :=
  tmMi.of (cc := cX8_written) (nL := 2) (by decide +kernel) rfl tm_NWR_ok (fun _ => Nat.le_of_ble_eq_true rfl) (fun p e s m args below meth c A D cy ad z C0 => w_X8_written C0 x1 v)
-- ----- X8_changed
theorem dX8_changed_0 : decode cX8_changed 0 = .ok (.aload_n 0, 1) := by decide +kernel
theorem dX8_changed_1 : decode cX8_changed 1 = .ok (.iload_n 1, 1) := by decide +kernel
theorem dX8_changed_2 : decode cX8_changed 2 = .ok (.invokestatic 268, 3) := by decide +kernel
theorem dX8_changed_5 : decode cX8_changed 5 = .ok (.ifCond .eq 7, 3) := by decide +kernel
theorem dX8_changed_8 : decode cX8_changed 8 = .ok (.iconst 0, 1) := by decide +kernel
theorem dX8_changed_9 : decode cX8_changed 9 = .ok (.goto 4, 3) := by decide +kernel
theorem dX8_changed_12 : decode cX8_changed 12 = .ok (.iconst 1, 1) := by decide +kernel
theorem dX8_changed_13 : decode cX8_changed 13 = .ok (.putfield 56, 3) := by decide +kernel
theorem dX8_changed_16 : decode cX8_changed 16 = .ok (.aload_n 0, 1) := by decide +kernel
theorem dX8_changed_17 : decode cX8_changed 17 = .ok (.getfield 56, 3) := by decide +kernel
theorem dX8_changed_20 : decode cX8_changed 20 = .ok (.ifCond .gt 12, 3) := by decide +kernel
theorem dX8_changed_23 : decode cX8_changed 23 = .ok (.aload_n 0, 1) := by decide +kernel
theorem dX8_changed_24 : decode cX8_changed 24 = .ok (.getfield 19, 3) := by decide +kernel
theorem dX8_changed_27 : decode cX8_changed 27 = .ok (.iload_n 1, 1) := by decide +kernel
theorem dX8_changed_28 : decode cX8_changed 28 = .ok (.baload, 1) := by decide +kernel
theorem dX8_changed_29 : decode cX8_changed 29 = .ok (.ifCond .ne 16, 3) := by decide +kernel
theorem dX8_changed_32 : decode cX8_changed 32 = .ok (.aload_n 0, 1) := by decide +kernel
theorem dX8_changed_33 : decode cX8_changed 33 = .ok (.getfield 56, 3) := by decide +kernel
theorem dX8_changed_36 : decode cX8_changed 36 = .ok (.ifCond .le 7, 3) := by decide +kernel
theorem dX8_changed_39 : decode cX8_changed 39 = .ok (.iconst 0, 1) := by decide +kernel
theorem dX8_changed_40 : decode cX8_changed 40 = .ok (.goto 4, 3) := by decide +kernel
theorem dX8_changed_43 : decode cX8_changed 43 = .ok (.iconst (-1), 1) := by decide +kernel
theorem dX8_changed_44 : decode cX8_changed 44 = .ok (.ireturn, 1) := by decide +kernel
theorem dX8_changed_45 : decode cX8_changed 45 = .ok (.iconst 0, 1) := by decide +kernel
theorem dX8_changed_46 : decode cX8_changed 46 = .ok (.istore_n 2, 1) := by decide +kernel
theorem dX8_changed_47 : decode cX8_changed 47 = .ok (.iconst 0, 1) := by decide +kernel
theorem dX8_changed_48 : decode cX8_changed 48 = .ok (.istore_n 3, 1) := by decide +kernel
theorem dX8_changed_49 : decode cX8_changed 49 = .ok (.iload_n 3, 1) := by decide +kernel
theorem dX8_changed_50 : decode cX8_changed 50 = .ok (.bipush 60, 2) := by decide +kernel
theorem dX8_changed_52 : decode cX8_changed 52 = .ok (.if_icmp .ge 95, 3) := by decide +kernel
theorem dX8_changed_55 : decode cX8_changed 55 = .ok (.aload_n 0, 1) := by decide +kernel
theorem dX8_changed_56 : decode cX8_changed 56 = .ok (.getfield 7, 3) := by decide +kernel
theorem dX8_changed_59 : decode cX8_changed 59 = .ok (.bipush 11, 2) := by decide +kernel
theorem dX8_changed_61 : decode cX8_changed 61 = .ok (.iload_n 3, 1) := by decide +kernel
theorem dX8_changed_62 : decode cX8_changed 62 = .ok (.iadd, 1) := by decide +kernel
theorem dX8_changed_63 : decode cX8_changed 63 = .ok (.iaload, 1) := by decide +kernel
theorem dX8_changed_64 : decode cX8_changed 64 = .ok (.aload_n 0, 1) := by decide +kernel
theorem dX8_changed_65 : decode cX8_changed 65 = .ok (.getfield 16, 3) := by decide +kernel
theorem dX8_changed_68 : decode cX8_changed 68 = .ok (.sipush 491, 3) := by decide +kernel
theorem dX8_changed_71 : decode cX8_changed 71 = .ok (.iload_n 1, 1) := by decide +kernel
theorem dX8_changed_72 : decode cX8_changed 72 = .ok (.imul, 1) := by decide +kernel
theorem dX8_changed_73 : decode cX8_changed 73 = .ok (.bipush 11, 2) := by decide +kernel
theorem dX8_changed_75 : decode cX8_changed 75 = .ok (.iadd, 1) := by decide +kernel
theorem dX8_changed_76 : decode cX8_changed 76 = .ok (.iload_n 3, 1) := by decide +kernel
theorem dX8_changed_77 : decode cX8_changed 77 = .ok (.iadd, 1) := by decide +kernel
theorem dX8_changed_78 : decode cX8_changed 78 = .ok (.iaload, 1) := by decide +kernel
theorem dX8_changed_79 : decode cX8_changed 79 = .ok (.if_icmp .eq 7, 3) := by decide +kernel
theorem dX8_changed_82 : decode cX8_changed 82 = .ok (.iconst 1, 1) := by decide +kernel
theorem dX8_changed_83 : decode cX8_changed 83 = .ok (.goto 4, 3) := by decide +kernel
theorem dX8_changed_86 : decode cX8_changed 86 = .ok (.iconst 0, 1) := by decide +kernel
theorem dX8_changed_87 : decode cX8_changed 87 = .ok (.istore 4, 2) := by decide +kernel
theorem dX8_changed_89 : decode cX8_changed 89 = .ok (.aload_n 0, 1) := by decide +kernel
theorem dX8_changed_90 : decode cX8_changed 90 = .ok (.getfield 7, 3) := by decide +kernel
theorem dX8_changed_93 : decode cX8_changed 93 = .ok (.bipush 71, 2) := by decide +kernel
theorem dX8_changed_95 : decode cX8_changed 95 = .ok (.iload_n 3, 1) := by decide +kernel
theorem dX8_changed_96 : decode cX8_changed 96 = .ok (.iadd, 1) := by decide +kernel
theorem dX8_changed_97 : decode cX8_changed 97 = .ok (.iaload, 1) := by decide +kernel
theorem dX8_changed_98 : decode cX8_changed 98 = .ok (.aload_n 0, 1) := by decide +kernel
theorem dX8_changed_99 : decode cX8_changed 99 = .ok (.getfield 16, 3) := by decide +kernel
theorem dX8_changed_102 : decode cX8_changed 102 = .ok (.sipush 491, 3) := by decide +kernel
theorem dX8_changed_105 : decode cX8_changed 105 = .ok (.iload_n 1, 1) := by decide +kernel
theorem dX8_changed_106 : decode cX8_changed 106 = .ok (.imul, 1) := by decide +kernel
theorem dX8_changed_107 : decode cX8_changed 107 = .ok (.bipush 71, 2) := by decide +kernel
theorem dX8_changed_109 : decode cX8_changed 109 = .ok (.iadd, 1) := by decide +kernel
theorem dX8_changed_110 : decode cX8_changed 110 = .ok (.iload_n 3, 1) := by decide +kernel
theorem dX8_changed_111 : decode cX8_changed 111 = .ok (.iadd, 1) := by decide +kernel
theorem dX8_changed_112 : decode cX8_changed 112 = .ok (.iaload, 1) := by decide +kernel
theorem dX8_changed_113 : decode cX8_changed 113 = .ok (.if_icmp .eq 7, 3) := by decide +kernel
theorem dX8_changed_116 : decode cX8_changed 116 = .ok (.iconst 1, 1) := by decide +kernel
theorem dX8_changed_117 : decode cX8_changed 117 = .ok (.goto 4, 3) := by decide +kernel
theorem dX8_changed_120 : decode cX8_changed 120 = .ok (.iconst 0, 1) := by decide +kernel
theorem dX8_changed_121 : decode cX8_changed 121 = .ok (.istore 5, 2) := by decide +kernel
theorem dX8_changed_123 : decode cX8_changed 123 = .ok (.iload_n 2, 1) := by decide +kernel
theorem dX8_changed_124 : decode cX8_changed 124 = .ok (.iload 4, 2) := by decide +kernel
theorem dX8_changed_126 : decode cX8_changed 126 = .ok (.ifCond .ne 8, 3) := by decide +kernel
theorem dX8_changed_129 : decode cX8_changed 129 = .ok (.iload 5, 2) := by decide +kernel
theorem dX8_changed_131 : decode cX8_changed 131 = .ok (.ifCond .eq 7, 3) := by decide +kernel
theorem dX8_changed_134 : decode cX8_changed 134 = .ok (.iconst 1, 1) := by decide +kernel
theorem dX8_changed_135 : decode cX8_changed 135 = .ok (.goto 4, 3) := by decide +kernel
theorem dX8_changed_138 : decode cX8_changed 138 = .ok (.iconst 0, 1) := by decide +kernel
theorem dX8_changed_139 : decode cX8_changed 139 = .ok (.iadd, 1) := by decide +kernel
theorem dX8_changed_140 : decode cX8_changed 140 = .ok (.istore_n 2, 1) := by decide +kernel
theorem dX8_changed_141 : decode cX8_changed 141 = .ok (.iinc 3 1, 3) := by decide +kernel
theorem dX8_changed_144 : decode cX8_changed 144 = .ok (.goto (-95), 3) := by decide +kernel
theorem dX8_changed_147 : decode cX8_changed 147 = .ok (.iload_n 2, 1) := by decide +kernel
theorem dX8_changed_148 : decode cX8_changed 148 = .ok (.ireturn, 1) := by decide +kernel
theorem tf_X8_19 : Cond.fieldLink RX8 19 "TableMoveModel" (TX8 5).2.1 (TX8 5).2.2.1 ∈ TMW := tm_in 1556 (by decide +kernel) (by decide +kernel)
theorem tf_X8_16 : Cond.fieldLink RX8 16 "TableMoveModel" (TX8 4).2.1 (TX8 4).2.2.1 ∈ TMW := tm_in 1555 (by decide +kernel) (by decide +kernel)
def f_X8_changed_32 (v : tmM) : Option (Int32 × tmM) := (if (v 0 0) ≤ 0 then some ((-1), v) else some (0, v))
set_option maxRecDepth 100000 in
set_option maxHeartbeats 4000000 in
theorem w_X8_changed_32 {p : Program} {l : Launch} {e : Env} {s : State} {m : MethodId} {args : Array Value} {below : List Frame} {meth : Method} {c : Code} {D : va_G} {cy : Nat → ClassId} {ad : Nat → Nat} {A : Nat → Prop} {z : (Int32 × tmM)} (C0 : tmC p s m args meth c cX8_changed 6 (some .int) RX8 TMW tm_NWR D cy tm_shR ad 13 [] A) (v : tmM) : tmG p l e ({ frames := 2, cells := 0, slots := 0, locals := 42 } : Room) s m args below meth c 0 0 (MQ below (va_Qi (fun r u => z = (r, u)) (tmAt tm_shR 13 D cy ad A) A) args s 0 0 A) 6 D cy tm_shR ad 13 [] A z 32 [(0, .ref (ad 0))] [] v (f_X8_changed_32 v) := by
  unfold f_X8_changed_32
  refine tg_aload_n 0 C0 dX8_changed_32 rfl rfl ?_
  refine tg_get 0 0 C0 dX8_changed_33 (by decide) rfl rfl tu_X8 (by decide) tf_X8_56 rfl rfl rfl ?_
  refine tg_if_le 43 C0 dX8_changed_36 (by decide) (fun _ => ?_) (fun _ => ?_)
  · refine tg_iconst (x := (-1)) C0 dX8_changed_43 (by decide) ?_
    exact tg_iret C0 dX8_changed_44
  · refine tg_iconst (x := 0) C0 dX8_changed_39 (by decide) ?_
    refine tg_goto 44 C0 dX8_changed_40 (by decide) ?_
    exact tg_iret C0 dX8_changed_44
def f_X8_changed_139 (K0 : Int32 → tmM → Option (Int32 × tmM)) (L : Int32 → Int32 → Int32 → tmM → Option (Int32 × tmM)) (x1 x3 s0 s1 : Int32) (v : tmM) : Option (Int32 × tmM) := tm_lt (s1 + s0) fun y4 => L x1 y4 (x3 + 1) v
set_option maxRecDepth 100000 in
set_option maxHeartbeats 4000000 in
theorem w_X8_changed_139 {p : Program} {l : Launch} {e : Env} {s : State} {m : MethodId} {args : Array Value} {below : List Frame} {meth : Method} {c : Code} {D : va_G} {cy : Nat → ClassId} {ad : Nat → Nat} {A : Nat → Prop} {z : (Int32 × tmM)} {K0 : Int32 → tmM → Option (Int32 × tmM)} {L : Int32 → Int32 → Int32 → tmM → Option (Int32 × tmM)} (C0 : tmC p s m args meth c cX8_changed 6 (some .int) RX8 TMW tm_NWR D cy tm_shR ad 13 [] A) (hK0 : ∀ (a2 : Int32) (w : tmM), tmG p l e ({ frames := 2, cells := 0, slots := 0, locals := 42 } : Room) s m args below meth c 0 0 (MQ below (va_Qi (fun r u => z = (r, u)) (tmAt tm_shR 13 D cy ad A) A) args s 0 0 A) 6 D cy tm_shR ad 13 [] A z 147 [(2, .int a2)] [] w (K0 a2 w)) (hL : ∀ (a1 a2 a3 : Int32) (w : tmM), tmG p l e ({ frames := 2, cells := 0, slots := 0, locals := 42 } : Room) s m args below meth c 0 0 (MQ below (va_Qi (fun r u => z = (r, u)) (tmAt tm_shR 13 D cy ad A) A) args s 0 0 A) 6 D cy tm_shR ad 13 [] A z 49 [(0, .ref (ad 0)), (1, .int a1), (2, .int a2), (3, .int a3)] [] w (L a1 a2 a3 w)) (x1 x3 s0 s1 : Int32) (v : tmM) : tmG p l e ({ frames := 2, cells := 0, slots := 0, locals := 42 } : Room) s m args below meth c 0 0 (MQ below (va_Qi (fun r u => z = (r, u)) (tmAt tm_shR 13 D cy ad A) A) args s 0 0 A) 6 D cy tm_shR ad 13 [] A z 139 [(0, .ref (ad 0)), (1, .int x1), (3, .int x3)] [.int s0, .int s1] v (f_X8_changed_139 K0 L x1 x3 s0 s1 v) := by
  unfold f_X8_changed_139
  refine tg_iadd C0 dX8_changed_139 ?_
  refine tg_leti (fun y4 _ => ?_)
  refine tg_istore_n [(2, .int y4), (0, .ref (ad 0)), (1, .int x1), (3, .int x3)] C0 dX8_changed_140 rfl (by decide) rfl ?_
  refine tg_iinc [(3, .int (x3 + 1)), (2, .int y4), (0, .ref (ad 0)), (1, .int x1)] 3 C0 dX8_changed_141 rfl rfl (by decide) rfl ?_
  refine tg_goto 49 C0 dX8_changed_144 (by decide) ?_
  refine tg_sub [2, 3, 1, 0] rfl ?_
  exact hL x1 y4 (x3 + 1) v
def f_X8_changed_134 (K0 : Int32 → tmM → Option (Int32 × tmM)) (L : Int32 → Int32 → Int32 → tmM → Option (Int32 × tmM)) (x1 x3 s0 : Int32) (v : tmM) : Option (Int32 × tmM) := f_X8_changed_139 K0 L x1 x3 1 s0 v
set_option maxRecDepth 100000 in
set_option maxHeartbeats 4000000 in
theorem w_X8_changed_134 {p : Program} {l : Launch} {e : Env} {s : State} {m : MethodId} {args : Array Value} {below : List Frame} {meth : Method} {c : Code} {D : va_G} {cy : Nat → ClassId} {ad : Nat → Nat} {A : Nat → Prop} {z : (Int32 × tmM)} {K0 : Int32 → tmM → Option (Int32 × tmM)} {L : Int32 → Int32 → Int32 → tmM → Option (Int32 × tmM)} (C0 : tmC p s m args meth c cX8_changed 6 (some .int) RX8 TMW tm_NWR D cy tm_shR ad 13 [] A) (hK0 : ∀ (a2 : Int32) (w : tmM), tmG p l e ({ frames := 2, cells := 0, slots := 0, locals := 42 } : Room) s m args below meth c 0 0 (MQ below (va_Qi (fun r u => z = (r, u)) (tmAt tm_shR 13 D cy ad A) A) args s 0 0 A) 6 D cy tm_shR ad 13 [] A z 147 [(2, .int a2)] [] w (K0 a2 w)) (hL : ∀ (a1 a2 a3 : Int32) (w : tmM), tmG p l e ({ frames := 2, cells := 0, slots := 0, locals := 42 } : Room) s m args below meth c 0 0 (MQ below (va_Qi (fun r u => z = (r, u)) (tmAt tm_shR 13 D cy ad A) A) args s 0 0 A) 6 D cy tm_shR ad 13 [] A z 49 [(0, .ref (ad 0)), (1, .int a1), (2, .int a2), (3, .int a3)] [] w (L a1 a2 a3 w)) (x1 x3 s0 : Int32) (v : tmM) : tmG p l e ({ frames := 2, cells := 0, slots := 0, locals := 42 } : Room) s m args below meth c 0 0 (MQ below (va_Qi (fun r u => z = (r, u)) (tmAt tm_shR 13 D cy ad A) A) args s 0 0 A) 6 D cy tm_shR ad 13 [] A z 134 [(0, .ref (ad 0)), (1, .int x1), (3, .int x3)] [.int s0] v (f_X8_changed_134 K0 L x1 x3 s0 v) := by
  unfold f_X8_changed_134
  refine tg_iconst (x := 1) C0 dX8_changed_134 (by decide) ?_
  refine tg_goto 139 C0 dX8_changed_135 (by decide) ?_
  exact w_X8_changed_139 C0 hK0 hL x1 x3 1 s0 v
def f_X8_changed_121 (K0 : Int32 → tmM → Option (Int32 × tmM)) (L : Int32 → Int32 → Int32 → tmM → Option (Int32 × tmM)) (x1 x2 x3 x4 s0 : Int32) (v : tmM) : Option (Int32 × tmM) := (if x4 = 0 then (if s0 = 0 then f_X8_changed_139 K0 L x1 x3 0 x2 v else f_X8_changed_134 K0 L x1 x3 x2 v) else f_X8_changed_134 K0 L x1 x3 x2 v)
set_option maxRecDepth 100000 in
set_option maxHeartbeats 4000000 in
theorem w_X8_changed_121 {p : Program} {l : Launch} {e : Env} {s : State} {m : MethodId} {args : Array Value} {below : List Frame} {meth : Method} {c : Code} {D : va_G} {cy : Nat → ClassId} {ad : Nat → Nat} {A : Nat → Prop} {z : (Int32 × tmM)} {K0 : Int32 → tmM → Option (Int32 × tmM)} {L : Int32 → Int32 → Int32 → tmM → Option (Int32 × tmM)} (C0 : tmC p s m args meth c cX8_changed 6 (some .int) RX8 TMW tm_NWR D cy tm_shR ad 13 [] A) (hK0 : ∀ (a2 : Int32) (w : tmM), tmG p l e ({ frames := 2, cells := 0, slots := 0, locals := 42 } : Room) s m args below meth c 0 0 (MQ below (va_Qi (fun r u => z = (r, u)) (tmAt tm_shR 13 D cy ad A) A) args s 0 0 A) 6 D cy tm_shR ad 13 [] A z 147 [(2, .int a2)] [] w (K0 a2 w)) (hL : ∀ (a1 a2 a3 : Int32) (w : tmM), tmG p l e ({ frames := 2, cells := 0, slots := 0, locals := 42 } : Room) s m args below meth c 0 0 (MQ below (va_Qi (fun r u => z = (r, u)) (tmAt tm_shR 13 D cy ad A) A) args s 0 0 A) 6 D cy tm_shR ad 13 [] A z 49 [(0, .ref (ad 0)), (1, .int a1), (2, .int a2), (3, .int a3)] [] w (L a1 a2 a3 w)) (x1 x2 x3 x4 s0 : Int32) (v : tmM) : tmG p l e ({ frames := 2, cells := 0, slots := 0, locals := 42 } : Room) s m args below meth c 0 0 (MQ below (va_Qi (fun r u => z = (r, u)) (tmAt tm_shR 13 D cy ad A) A) args s 0 0 A) 6 D cy tm_shR ad 13 [] A z 121 [(0, .ref (ad 0)), (1, .int x1), (2, .int x2), (3, .int x3), (4, .int x4)] [.int s0] v (f_X8_changed_121 K0 L x1 x2 x3 x4 s0 v) := by
  unfold f_X8_changed_121
  refine tg_istore [(5, .int s0), (0, .ref (ad 0)), (1, .int x1), (2, .int x2), (3, .int x3), (4, .int x4)] C0 dX8_changed_121 (by decide) rfl ?_
  refine tg_iload_n 3 C0 dX8_changed_123 rfl rfl ?_
  refine tg_iload 5 C0 dX8_changed_124 rfl ?_
  refine tg_if_ne 134 C0 dX8_changed_126 (by decide) (fun _ => ?_) (fun _ => ?_)
  · refine tg_sub [1, 2, 4] rfl ?_
    exact w_X8_changed_134 C0 hK0 hL x1 x3 x2 v
  · refine tg_iload 0 C0 dX8_changed_129 rfl ?_
    refine tg_if_eq 138 C0 dX8_changed_131 (by decide) (fun _ => ?_) (fun _ => ?_)
    · refine tg_iconst (x := 0) C0 dX8_changed_138 (by decide) ?_
      refine tg_sub [1, 2, 4] rfl ?_
      exact w_X8_changed_139 C0 hK0 hL x1 x3 0 x2 v
    · refine tg_sub [1, 2, 4] rfl ?_
      exact w_X8_changed_134 C0 hK0 hL x1 x3 x2 v
def f_X8_changed_87 (K0 : Int32 → tmM → Option (Int32 × tmM)) (L : Int32 → Int32 → Int32 → tmM → Option (Int32 × tmM)) (x1 x2 x3 s0 : Int32) (v : tmM) : Option (Int32 × tmM) := tm_g (tm_ix (71 + x3) 491) (tm_g (tm_ix (((491 * x1) + 71) + x3) 982) ((if (v 1 (71 + x3).toNatClampNeg) = (v 3 (((491 * x1) + 71) + x3).toNatClampNeg) then f_X8_changed_121 K0 L x1 x2 x3 s0 0 v else f_X8_changed_121 K0 L x1 x2 x3 s0 1 v)))
set_option maxRecDepth 100000 in
set_option maxHeartbeats 4000000 in
theorem w_X8_changed_87 {p : Program} {l : Launch} {e : Env} {s : State} {m : MethodId} {args : Array Value} {below : List Frame} {meth : Method} {c : Code} {D : va_G} {cy : Nat → ClassId} {ad : Nat → Nat} {A : Nat → Prop} {z : (Int32 × tmM)} {K0 : Int32 → tmM → Option (Int32 × tmM)} {L : Int32 → Int32 → Int32 → tmM → Option (Int32 × tmM)} (C0 : tmC p s m args meth c cX8_changed 6 (some .int) RX8 TMW tm_NWR D cy tm_shR ad 13 [] A) (hK0 : ∀ (a2 : Int32) (w : tmM), tmG p l e ({ frames := 2, cells := 0, slots := 0, locals := 42 } : Room) s m args below meth c 0 0 (MQ below (va_Qi (fun r u => z = (r, u)) (tmAt tm_shR 13 D cy ad A) A) args s 0 0 A) 6 D cy tm_shR ad 13 [] A z 147 [(2, .int a2)] [] w (K0 a2 w)) (hL : ∀ (a1 a2 a3 : Int32) (w : tmM), tmG p l e ({ frames := 2, cells := 0, slots := 0, locals := 42 } : Room) s m args below meth c 0 0 (MQ below (va_Qi (fun r u => z = (r, u)) (tmAt tm_shR 13 D cy ad A) A) args s 0 0 A) 6 D cy tm_shR ad 13 [] A z 49 [(0, .ref (ad 0)), (1, .int a1), (2, .int a2), (3, .int a3)] [] w (L a1 a2 a3 w)) (x1 x2 x3 s0 : Int32) (v : tmM) : tmG p l e ({ frames := 2, cells := 0, slots := 0, locals := 42 } : Room) s m args below meth c 0 0 (MQ below (va_Qi (fun r u => z = (r, u)) (tmAt tm_shR 13 D cy ad A) A) args s 0 0 A) 6 D cy tm_shR ad 13 [] A z 87 [(0, .ref (ad 0)), (1, .int x1), (2, .int x2), (3, .int x3)] [.int s0] v (f_X8_changed_87 K0 L x1 x2 x3 s0 v) := by
  unfold f_X8_changed_87
  refine tg_istore [(4, .int s0), (0, .ref (ad 0)), (1, .int x1), (2, .int x2), (3, .int x3)] C0 dX8_changed_87 (by decide) rfl ?_
  refine tg_aload_n 1 C0 dX8_changed_89 rfl rfl ?_
  refine tg_get 0 1 C0 dX8_changed_90 (by decide) rfl rfl tu_X8 (by decide) tf_X8_7 rfl rfl rfl ?_
  refine tg_bipush (x := 71) C0 dX8_changed_93 (by decide) ?_
  refine tg_iload_n 4 C0 dX8_changed_95 rfl rfl ?_
  refine tg_iadd C0 dX8_changed_96 ?_
  refine tg_iald 1 C0 dX8_changed_97 (by decide) rfl (fun _ => ?_)
  refine tg_aload_n 1 C0 dX8_changed_98 rfl rfl ?_
  refine tg_get 0 4 C0 dX8_changed_99 (by decide) rfl rfl tu_X8 (by decide) tf_X8_16 rfl rfl rfl ?_
  refine tg_sipush (x := 491) C0 dX8_changed_102 (by decide) ?_
  refine tg_iload_n 2 C0 dX8_changed_105 rfl rfl ?_
  refine tg_imul C0 dX8_changed_106 ?_
  refine tg_bipush (x := 71) C0 dX8_changed_107 (by decide) ?_
  refine tg_iadd C0 dX8_changed_109 ?_
  refine tg_iload_n 4 C0 dX8_changed_110 rfl rfl ?_
  refine tg_iadd C0 dX8_changed_111 ?_
  refine tg_iald 3 C0 dX8_changed_112 (by decide) rfl (fun _ => ?_)
  refine tg_icmp_eq 120 C0 dX8_changed_113 (by decide) (fun _ => ?_) (fun _ => ?_)
  · refine tg_iconst (x := 0) C0 dX8_changed_120 (by decide) ?_
    refine tg_sub [1, 2, 3, 4, 0] rfl ?_
    exact w_X8_changed_121 C0 hK0 hL x1 x2 x3 s0 0 v
  · refine tg_iconst (x := 1) C0 dX8_changed_116 (by decide) ?_
    refine tg_goto 121 C0 dX8_changed_117 (by decide) ?_
    refine tg_sub [1, 2, 3, 4, 0] rfl ?_
    exact w_X8_changed_121 C0 hK0 hL x1 x2 x3 s0 1 v
def f_X8_changed_49b (K0 : Int32 → tmM → Option (Int32 × tmM)) (L : Int32 → Int32 → Int32 → tmM → Option (Int32 × tmM)) (x1 x2 x3 : Int32) (v : tmM) : Option (Int32 × tmM) := (if 60 ≤ x3 then K0 x2 v else tm_g (tm_ix (11 + x3) 491) (tm_g (tm_ix (((491 * x1) + 11) + x3) 982) ((if (v 1 (11 + x3).toNatClampNeg) = (v 3 (((491 * x1) + 11) + x3).toNatClampNeg) then f_X8_changed_87 K0 L x1 x2 x3 0 v else f_X8_changed_87 K0 L x1 x2 x3 1 v))))
set_option maxRecDepth 100000 in
set_option maxHeartbeats 4000000 in
theorem w_X8_changed_49b {p : Program} {l : Launch} {e : Env} {s : State} {m : MethodId} {args : Array Value} {below : List Frame} {meth : Method} {c : Code} {D : va_G} {cy : Nat → ClassId} {ad : Nat → Nat} {A : Nat → Prop} {z : (Int32 × tmM)} {K0 : Int32 → tmM → Option (Int32 × tmM)} {L : Int32 → Int32 → Int32 → tmM → Option (Int32 × tmM)} (C0 : tmC p s m args meth c cX8_changed 6 (some .int) RX8 TMW tm_NWR D cy tm_shR ad 13 [] A) (hK0 : ∀ (a2 : Int32) (w : tmM), tmG p l e ({ frames := 2, cells := 0, slots := 0, locals := 42 } : Room) s m args below meth c 0 0 (MQ below (va_Qi (fun r u => z = (r, u)) (tmAt tm_shR 13 D cy ad A) A) args s 0 0 A) 6 D cy tm_shR ad 13 [] A z 147 [(2, .int a2)] [] w (K0 a2 w)) (hL : ∀ (a1 a2 a3 : Int32) (w : tmM), tmG p l e ({ frames := 2, cells := 0, slots := 0, locals := 42 } : Room) s m args below meth c 0 0 (MQ below (va_Qi (fun r u => z = (r, u)) (tmAt tm_shR 13 D cy ad A) A) args s 0 0 A) 6 D cy tm_shR ad 13 [] A z 49 [(0, .ref (ad 0)), (1, .int a1), (2, .int a2), (3, .int a3)] [] w (L a1 a2 a3 w)) (x1 x2 x3 : Int32) (v : tmM) : tmG p l e ({ frames := 2, cells := 0, slots := 0, locals := 42 } : Room) s m args below meth c 0 0 (MQ below (va_Qi (fun r u => z = (r, u)) (tmAt tm_shR 13 D cy ad A) A) args s 0 0 A) 6 D cy tm_shR ad 13 [] A z 49 [(0, .ref (ad 0)), (1, .int x1), (2, .int x2), (3, .int x3)] [] v (f_X8_changed_49b K0 L x1 x2 x3 v) := by
  unfold f_X8_changed_49b
  refine tg_iload_n 3 C0 dX8_changed_49 rfl rfl ?_
  refine tg_bipush (x := 60) C0 dX8_changed_50 (by decide) ?_
  refine tg_icmp_ge 147 C0 dX8_changed_52 (by decide) (fun _ => ?_) (fun _ => ?_)
  · refine tg_sub [2] rfl ?_
    exact hK0 x2 v
  · refine tg_aload_n 0 C0 dX8_changed_55 rfl rfl ?_
    refine tg_get 0 1 C0 dX8_changed_56 (by decide) rfl rfl tu_X8 (by decide) tf_X8_7 rfl rfl rfl ?_
    refine tg_bipush (x := 11) C0 dX8_changed_59 (by decide) ?_
    refine tg_iload_n 3 C0 dX8_changed_61 rfl rfl ?_
    refine tg_iadd C0 dX8_changed_62 ?_
    refine tg_iald 1 C0 dX8_changed_63 (by decide) rfl (fun _ => ?_)
    refine tg_aload_n 0 C0 dX8_changed_64 rfl rfl ?_
    refine tg_get 0 4 C0 dX8_changed_65 (by decide) rfl rfl tu_X8 (by decide) tf_X8_16 rfl rfl rfl ?_
    refine tg_sipush (x := 491) C0 dX8_changed_68 (by decide) ?_
    refine tg_iload_n 1 C0 dX8_changed_71 rfl rfl ?_
    refine tg_imul C0 dX8_changed_72 ?_
    refine tg_bipush (x := 11) C0 dX8_changed_73 (by decide) ?_
    refine tg_iadd C0 dX8_changed_75 ?_
    refine tg_iload_n 3 C0 dX8_changed_76 rfl rfl ?_
    refine tg_iadd C0 dX8_changed_77 ?_
    refine tg_iald 3 C0 dX8_changed_78 (by decide) rfl (fun _ => ?_)
    refine tg_icmp_eq 86 C0 dX8_changed_79 (by decide) (fun _ => ?_) (fun _ => ?_)
    · refine tg_iconst (x := 0) C0 dX8_changed_86 (by decide) ?_
      exact w_X8_changed_87 C0 hK0 hL x1 x2 x3 0 v
    · refine tg_iconst (x := 1) C0 dX8_changed_82 (by decide) ?_
      refine tg_goto 87 C0 dX8_changed_83 (by decide) ?_
      exact w_X8_changed_87 C0 hK0 hL x1 x2 x3 1 v
def f_X8_changed_49 (K0 : Int32 → tmM → Option (Int32 × tmM)) : Nat → Int32 → Int32 → Int32 → tmM → Option (Int32 × tmM)
  | 0 => fun _ _ _ _ => none
  | n + 1 => f_X8_changed_49b K0 (f_X8_changed_49 K0 n)
theorem w_X8_changed_49 {p : Program} {l : Launch} {e : Env} {s : State} {m : MethodId} {args : Array Value} {below : List Frame} {meth : Method} {c : Code} {D : va_G} {cy : Nat → ClassId} {ad : Nat → Nat} {A : Nat → Prop} {z : (Int32 × tmM)} {K0 : Int32 → tmM → Option (Int32 × tmM)} (C0 : tmC p s m args meth c cX8_changed 6 (some .int) RX8 TMW tm_NWR D cy tm_shR ad 13 [] A) (hK0 : ∀ (a2 : Int32) (w : tmM), tmG p l e ({ frames := 2, cells := 0, slots := 0, locals := 42 } : Room) s m args below meth c 0 0 (MQ below (va_Qi (fun r u => z = (r, u)) (tmAt tm_shR 13 D cy ad A) A) args s 0 0 A) 6 D cy tm_shR ad 13 [] A z 147 [(2, .int a2)] [] w (K0 a2 w)) (nn : Nat) : ∀ (x1 x2 x3 : Int32) (v : tmM), tmG p l e ({ frames := 2, cells := 0, slots := 0, locals := 42 } : Room) s m args below meth c 0 0 (MQ below (va_Qi (fun r u => z = (r, u)) (tmAt tm_shR 13 D cy ad A) A) args s 0 0 A) 6 D cy tm_shR ad 13 [] A z 49 [(0, .ref (ad 0)), (1, .int x1), (2, .int x2), (3, .int x3)] [] v (f_X8_changed_49 K0 nn x1 x2 x3 v) := by
  induction nn with
  | zero => intro _ _ _ _; exact tg_none
  | succ n ih => intro x1 x2 x3 v; exact w_X8_changed_49b C0 hK0 ih x1 x2 x3 v
def f_X8_changed_13 (x1 s0 : Int32) (v : tmM) : Option (Int32 × tmM) := tm_lt (tm_up v 0 0 s0) fun v3 => (if 0 < (v3 0 0) then f_X8_changed_32 v3 else tm_g (tm_ix x1 2) ((if (v3 4 x1.toNatClampNeg) = 0 then f_X8_changed_32 v3 else f_X8_changed_49 (fun x5 v6 => some (x5, v6)) 10000 x1 0 0 v3)))
set_option maxRecDepth 100000 in
set_option maxHeartbeats 4000000 in
theorem w_X8_changed_13 {p : Program} {l : Launch} {e : Env} {s : State} {m : MethodId} {args : Array Value} {below : List Frame} {meth : Method} {c : Code} {D : va_G} {cy : Nat → ClassId} {ad : Nat → Nat} {A : Nat → Prop} {z : (Int32 × tmM)} (C0 : tmC p s m args meth c cX8_changed 6 (some .int) RX8 TMW tm_NWR D cy tm_shR ad 13 [] A) (x1 s0 : Int32) (v : tmM) : tmG p l e ({ frames := 2, cells := 0, slots := 0, locals := 42 } : Room) s m args below meth c 0 0 (MQ below (va_Qi (fun r u => z = (r, u)) (tmAt tm_shR 13 D cy ad A) A) args s 0 0 A) 6 D cy tm_shR ad 13 [] A z 13 [(0, .ref (ad 0)), (1, .int x1)] [.int s0, .ref (ad 0)] v (f_X8_changed_13 x1 s0 v) := by
  unfold f_X8_changed_13
  refine tg_put 0 0 C0 dX8_changed_13 (by decide) rfl rfl tu_X8 tyX8_ok nmX8 (by decide) tf_X8_56 rfl rfl rfl rfl rfl rfl ?_
  refine tg_letm (fun v3 _ => ?_)
  refine tg_aload_n 0 C0 dX8_changed_16 rfl rfl ?_
  refine tg_get 0 0 C0 dX8_changed_17 (by decide) rfl rfl tu_X8 (by decide) tf_X8_56 rfl rfl rfl ?_
  refine tg_if_gt 32 C0 dX8_changed_20 (by decide) (fun _ => ?_) (fun _ => ?_)
  · refine tg_sub [0] rfl ?_
    exact w_X8_changed_32 C0 v3
  · refine tg_aload_n 0 C0 dX8_changed_23 rfl rfl ?_
    refine tg_get 0 5 C0 dX8_changed_24 (by decide) rfl rfl tu_X8 (by decide) tf_X8_19 rfl rfl rfl ?_
    refine tg_iload_n 1 C0 dX8_changed_27 rfl rfl ?_
    refine tg_zald 4 C0 dX8_changed_28 (by decide) rfl (fun _ => ?_)
    refine tg_if_ne 45 C0 dX8_changed_29 (by decide) (fun _ => ?_) (fun _ => ?_)
    · refine tg_iconst (x := 0) C0 dX8_changed_45 (by decide) ?_
      refine tg_istore_n [(2, .int 0), (0, .ref (ad 0)), (1, .int x1)] C0 dX8_changed_46 rfl (by decide) rfl ?_
      refine tg_iconst (x := 0) C0 dX8_changed_47 (by decide) ?_
      refine tg_istore_n [(3, .int 0), (2, .int 0), (0, .ref (ad 0)), (1, .int x1)] C0 dX8_changed_48 rfl (by decide) rfl ?_
      refine tg_sub [2, 3, 1, 0] rfl ?_
      refine w_X8_changed_49 C0 (fun x5 v6 => ?_) 10000 x1 0 0 v3
      refine tg_iload_n 0 C0 dX8_changed_147 rfl rfl ?_
      exact tg_iret C0 dX8_changed_148
    · refine tg_sub [0] rfl ?_
      exact w_X8_changed_32 C0 v3
def f_X8_changed (x1 : Int32) (v : tmM) : Option (Int32 × tmM) := tm_cl (f_X8_isSide x1 v) fun r2 v1 => (if r2 = 0 then f_X8_changed_13 x1 1 v1 else f_X8_changed_13 x1 0 v1)
set_option maxRecDepth 100000 in
set_option maxHeartbeats 4000000 in
theorem w_X8_changed {p : Program} {l : Launch} {e : Env} {s : State} {m : MethodId} {args : Array Value} {below : List Frame} {meth : Method} {c : Code} {D : va_G} {cy : Nat → ClassId} {ad : Nat → Nat} {A : Nat → Prop} {z : (Int32 × tmM)} (C0 : tmC p s m args meth c cX8_changed 6 (some .int) RX8 TMW tm_NWR D cy tm_shR ad 13 [] A) (x1 : Int32) (v : tmM) : tmG p l e ({ frames := 2, cells := 0, slots := 0, locals := 42 } : Room) s m args below meth c 0 0 (MQ below (va_Qi (fun r u => z = (r, u)) (tmAt tm_shR 13 D cy ad A) A) args s 0 0 A) 6 D cy tm_shR ad 13 [] A z 0 [(0, .ref (ad 0)), (1, .int x1)] [] v (f_X8_changed x1 v) := by
  unfold f_X8_changed
  refine tg_aload_n 0 C0 dX8_changed_0 rfl rfl ?_
  refine tg_iload_n 1 C0 dX8_changed_1 rfl rfl ?_
  refine tg_callSi (As := [.int x1]) 1 C0 dX8_changed_2 (c_X8_isSide l x1 v) rfl rfl (tm_gc tc_X8_isSide) tl_X8_268 tn_X8 tst_X8_isSide  rfl rfl rfl rfl (by decide +kernel) ⟨by decide, by decide⟩ (Nat.le_of_ble_eq_true rfl) ⟨by decide, by decide⟩ (fun r2 v1 _ => ?_)
  refine tg_if_eq 12 C0 dX8_changed_5 (by decide) (fun _ => ?_) (fun _ => ?_)
  · refine tg_iconst (x := 1) C0 dX8_changed_12 (by decide) ?_
    exact w_X8_changed_13 C0 x1 1 v1
  · refine tg_iconst (x := 0) C0 dX8_changed_8 (by decide) ?_
    refine tg_goto 13 C0 dX8_changed_9 (by decide) ?_
    exact w_X8_changed_13 C0 x1 0 v1
theorem c_X8_changed (l : Launch) (x1 : Int32) (v : tmM) : tmMi tm_NWR tm_shR 13 l yX8_changed (Cond.code yX8_changed cX8_changed 6 (some .int) :: TMW) ({ frames := 2, cells := 0, slots := 0, locals := 42 } : Room) (fun ad => [.ref (ad 0), .int x1]) v (f_X8_changed x1 v) :=
  tmMi.of (cc := cX8_changed) (nL := 6) (by decide +kernel) rfl tm_NWR_ok (fun _ => Nat.le_of_ble_eq_true rfl) (fun p e s m args below meth c A D cy ad z C0 => w_X8_changed C0 x1 v)
-- ----- X8_eventsOf
theorem dX8_eventsOf_0 : decode cX8_eventsOf 0 = .ok (.aload_n 0, 1) := by decide +kernel
theorem dX8_eventsOf_1 : decode cX8_eventsOf 1 = .ok (.iload_n 1, 1) := by decide +kernel
theorem dX8_eventsOf_2 : decode cX8_eventsOf 2 = .ok (.iconst 0, 1) := by decide +kernel
theorem dX8_eventsOf_3 : decode cX8_eventsOf 3 = .ok (.bipush 8, 2) := by decide +kernel
theorem dX8_eventsOf_5 : decode cX8_eventsOf 5 = .ok (.invokestatic 63, 3) := by decide +kernel
theorem dX8_eventsOf_8 : decode cX8_eventsOf 8 = .ok (.ifCond .eq 16, 3) := by decide +kernel
theorem dX8_eventsOf_11 : decode cX8_eventsOf 11 = .ok (.iload_n 2, 1) := by decide +kernel
theorem dX8_eventsOf_12 : decode cX8_eventsOf 12 = .ok (.iconst 0, 1) := by decide +kernel
theorem dX8_eventsOf_13 : decode cX8_eventsOf 13 = .ok (.iconst 1, 1) := by decide +kernel
theorem dX8_eventsOf_14 : decode cX8_eventsOf 14 = .ok (.invokestatic 63, 3) := by decide +kernel
theorem dX8_eventsOf_17 : decode cX8_eventsOf 17 = .ok (.ifCond .eq 7, 3) := by decide +kernel
theorem dX8_eventsOf_20 : decode cX8_eventsOf 20 = .ok (.iconst 0, 1) := by decide +kernel
theorem dX8_eventsOf_21 : decode cX8_eventsOf 21 = .ok (.goto 4, 3) := by decide +kernel
theorem dX8_eventsOf_24 : decode cX8_eventsOf 24 = .ok (.iconst 1, 1) := by decide +kernel
theorem dX8_eventsOf_25 : decode cX8_eventsOf 25 = .ok (.putfield 56, 3) := by decide +kernel
theorem dX8_eventsOf_28 : decode cX8_eventsOf 28 = .ok (.aload_n 0, 1) := by decide +kernel
theorem dX8_eventsOf_29 : decode cX8_eventsOf 29 = .ok (.getfield 56, 3) := by decide +kernel
theorem dX8_eventsOf_32 : decode cX8_eventsOf 32 = .ok (.ifCond .le 5, 3) := by decide +kernel
theorem dX8_eventsOf_35 : decode cX8_eventsOf 35 = .ok (.iconst 0, 1) := by decide +kernel
theorem dX8_eventsOf_36 : decode cX8_eventsOf 36 = .ok (.ireturn, 1) := by decide +kernel
theorem dX8_eventsOf_37 : decode cX8_eventsOf 37 = .ok (.iconst 0, 1) := by decide +kernel
theorem dX8_eventsOf_38 : decode cX8_eventsOf 38 = .ok (.istore_n 3, 1) := by decide +kernel
theorem dX8_eventsOf_39 : decode cX8_eventsOf 39 = .ok (.iconst (-1), 1) := by decide +kernel
theorem dX8_eventsOf_40 : decode cX8_eventsOf 40 = .ok (.istore 4, 2) := by decide +kernel
theorem dX8_eventsOf_42 : decode cX8_eventsOf 42 = .ok (.iconst 0, 1) := by decide +kernel
theorem dX8_eventsOf_43 : decode cX8_eventsOf 43 = .ok (.istore 5, 2) := by decide +kernel
theorem dX8_eventsOf_45 : decode cX8_eventsOf 45 = .ok (.iload 5, 2) := by decide +kernel
theorem dX8_eventsOf_47 : decode cX8_eventsOf 47 = .ok (.aload_n 0, 1) := by decide +kernel
theorem dX8_eventsOf_48 : decode cX8_eventsOf 48 = .ok (.getfield 7, 3) := by decide +kernel
theorem dX8_eventsOf_51 : decode cX8_eventsOf 51 = .ok (.bipush 10, 2) := by decide +kernel
theorem dX8_eventsOf_53 : decode cX8_eventsOf 53 = .ok (.iaload, 1) := by decide +kernel
theorem dX8_eventsOf_54 : decode cX8_eventsOf 54 = .ok (.if_icmp .ge 73, 3) := by decide +kernel
theorem dX8_eventsOf_57 : decode cX8_eventsOf 57 = .ok (.aload_n 0, 1) := by decide +kernel
theorem dX8_eventsOf_58 : decode cX8_eventsOf 58 = .ok (.getfield 7, 3) := by decide +kernel
theorem dX8_eventsOf_61 : decode cX8_eventsOf 61 = .ok (.sipush 371, 3) := by decide +kernel
theorem dX8_eventsOf_64 : decode cX8_eventsOf 64 = .ok (.iconst 2, 1) := by decide +kernel
theorem dX8_eventsOf_65 : decode cX8_eventsOf 65 = .ok (.iload 5, 2) := by decide +kernel
theorem dX8_eventsOf_67 : decode cX8_eventsOf 67 = .ok (.imul, 1) := by decide +kernel
theorem dX8_eventsOf_68 : decode cX8_eventsOf 68 = .ok (.iadd, 1) := by decide +kernel
theorem dX8_eventsOf_69 : decode cX8_eventsOf 69 = .ok (.iaload, 1) := by decide +kernel
theorem dX8_eventsOf_70 : decode cX8_eventsOf 70 = .ok (.iload_n 1, 1) := by decide +kernel
theorem dX8_eventsOf_71 : decode cX8_eventsOf 71 = .ok (.if_icmp .ne 7, 3) := by decide +kernel
theorem dX8_eventsOf_74 : decode cX8_eventsOf 74 = .ok (.iconst 1, 1) := by decide +kernel
theorem dX8_eventsOf_75 : decode cX8_eventsOf 75 = .ok (.goto 4, 3) := by decide +kernel
theorem dX8_eventsOf_78 : decode cX8_eventsOf 78 = .ok (.iconst 0, 1) := by decide +kernel
theorem dX8_eventsOf_79 : decode cX8_eventsOf 79 = .ok (.istore 6, 2) := by decide +kernel
theorem dX8_eventsOf_81 : decode cX8_eventsOf 81 = .ok (.iload_n 3, 1) := by decide +kernel
theorem dX8_eventsOf_82 : decode cX8_eventsOf 82 = .ok (.iload 6, 2) := by decide +kernel
theorem dX8_eventsOf_84 : decode cX8_eventsOf 84 = .ok (.ifCond .eq 7, 3) := by decide +kernel
theorem dX8_eventsOf_87 : decode cX8_eventsOf 87 = .ok (.iconst 1, 1) := by decide +kernel
theorem dX8_eventsOf_88 : decode cX8_eventsOf 88 = .ok (.goto 4, 3) := by decide +kernel
theorem dX8_eventsOf_91 : decode cX8_eventsOf 91 = .ok (.iconst 0, 1) := by decide +kernel
theorem dX8_eventsOf_92 : decode cX8_eventsOf 92 = .ok (.iadd, 1) := by decide +kernel
theorem dX8_eventsOf_93 : decode cX8_eventsOf 93 = .ok (.istore_n 3, 1) := by decide +kernel
theorem dX8_eventsOf_94 : decode cX8_eventsOf 94 = .ok (.iload 6, 2) := by decide +kernel
theorem dX8_eventsOf_96 : decode cX8_eventsOf 96 = .ok (.ifCond .eq 21, 3) := by decide +kernel
theorem dX8_eventsOf_99 : decode cX8_eventsOf 99 = .ok (.aload_n 0, 1) := by decide +kernel
theorem dX8_eventsOf_100 : decode cX8_eventsOf 100 = .ok (.getfield 7, 3) := by decide +kernel
theorem dX8_eventsOf_103 : decode cX8_eventsOf 103 = .ok (.sipush 371, 3) := by decide +kernel
theorem dX8_eventsOf_106 : decode cX8_eventsOf 106 = .ok (.iconst 2, 1) := by decide +kernel
theorem dX8_eventsOf_107 : decode cX8_eventsOf 107 = .ok (.iload 5, 2) := by decide +kernel
theorem dX8_eventsOf_109 : decode cX8_eventsOf 109 = .ok (.imul, 1) := by decide +kernel
theorem dX8_eventsOf_110 : decode cX8_eventsOf 110 = .ok (.iadd, 1) := by decide +kernel
theorem dX8_eventsOf_111 : decode cX8_eventsOf 111 = .ok (.iconst 1, 1) := by decide +kernel
theorem dX8_eventsOf_112 : decode cX8_eventsOf 112 = .ok (.iadd, 1) := by decide +kernel
theorem dX8_eventsOf_113 : decode cX8_eventsOf 113 = .ok (.iaload, 1) := by decide +kernel
theorem dX8_eventsOf_114 : decode cX8_eventsOf 114 = .ok (.goto 5, 3) := by decide +kernel
theorem dX8_eventsOf_117 : decode cX8_eventsOf 117 = .ok (.iload 4, 2) := by decide +kernel
theorem dX8_eventsOf_119 : decode cX8_eventsOf 119 = .ok (.istore 4, 2) := by decide +kernel
theorem dX8_eventsOf_121 : decode cX8_eventsOf 121 = .ok (.iinc 5 1, 3) := by decide +kernel
theorem dX8_eventsOf_124 : decode cX8_eventsOf 124 = .ok (.goto (-79), 3) := by decide +kernel
theorem dX8_eventsOf_127 : decode cX8_eventsOf 127 = .ok (.iload_n 2, 1) := by decide +kernel
theorem dX8_eventsOf_128 : decode cX8_eventsOf 128 = .ok (.ifCond .ne 7, 3) := by decide +kernel
theorem dX8_eventsOf_131 : decode cX8_eventsOf 131 = .ok (.iload_n 3, 1) := by decide +kernel
theorem dX8_eventsOf_132 : decode cX8_eventsOf 132 = .ok (.goto 5, 3) := by decide +kernel
theorem dX8_eventsOf_135 : decode cX8_eventsOf 135 = .ok (.iload 4, 2) := by decide +kernel
theorem dX8_eventsOf_137 : decode cX8_eventsOf 137 = .ok (.ireturn, 1) := by decide +kernel
def f_X8_eventsOf_119 (K0 : Int32 → Int32 → Int32 → tmM → Option (Int32 × tmM)) (L : Int32 → Int32 → Int32 → Int32 → Int32 → tmM → Option (Int32 × tmM)) (x1 x2 x3 x5 s0 : Int32) (v : tmM) : Option (Int32 × tmM) := L x1 x2 x3 s0 (x5 + 1) v
set_option maxRecDepth 100000 in
set_option maxHeartbeats 4000000 in
theorem w_X8_eventsOf_119 {p : Program} {l : Launch} {e : Env} {s : State} {m : MethodId} {args : Array Value} {below : List Frame} {meth : Method} {c : Code} {D : va_G} {cy : Nat → ClassId} {ad : Nat → Nat} {A : Nat → Prop} {z : (Int32 × tmM)} {K0 : Int32 → Int32 → Int32 → tmM → Option (Int32 × tmM)} {L : Int32 → Int32 → Int32 → Int32 → Int32 → tmM → Option (Int32 × tmM)} (C0 : tmC p s m args meth c cX8_eventsOf 7 (some .int) RX8 TMW tm_NWR D cy tm_shR ad 13 [] A) (hK0 : ∀ (a2 a3 a4 : Int32) (w : tmM), tmG p l e ({ frames := 1, cells := 0, slots := 0, locals := 22 } : Room) s m args below meth c 0 0 (MQ below (va_Qi (fun r u => z = (r, u)) (tmAt tm_shR 13 D cy ad A) A) args s 0 0 A) 7 D cy tm_shR ad 13 [] A z 127 [(2, .int a2), (3, .int a3), (4, .int a4)] [] w (K0 a2 a3 a4 w)) (hL : ∀ (a1 a2 a3 a4 a5 : Int32) (w : tmM), tmG p l e ({ frames := 1, cells := 0, slots := 0, locals := 22 } : Room) s m args below meth c 0 0 (MQ below (va_Qi (fun r u => z = (r, u)) (tmAt tm_shR 13 D cy ad A) A) args s 0 0 A) 7 D cy tm_shR ad 13 [] A z 45 [(0, .ref (ad 0)), (1, .int a1), (2, .int a2), (3, .int a3), (4, .int a4), (5, .int a5)] [] w (L a1 a2 a3 a4 a5 w)) (x1 x2 x3 x5 s0 : Int32) (v : tmM) : tmG p l e ({ frames := 1, cells := 0, slots := 0, locals := 22 } : Room) s m args below meth c 0 0 (MQ below (va_Qi (fun r u => z = (r, u)) (tmAt tm_shR 13 D cy ad A) A) args s 0 0 A) 7 D cy tm_shR ad 13 [] A z 119 [(0, .ref (ad 0)), (1, .int x1), (2, .int x2), (3, .int x3), (5, .int x5)] [.int s0] v (f_X8_eventsOf_119 K0 L x1 x2 x3 x5 s0 v) := by
  unfold f_X8_eventsOf_119
  refine tg_istore [(4, .int s0), (0, .ref (ad 0)), (1, .int x1), (2, .int x2), (3, .int x3), (5, .int x5)] C0 dX8_eventsOf_119 (by decide) rfl ?_
  refine tg_iinc [(5, .int (x5 + 1)), (4, .int s0), (0, .ref (ad 0)), (1, .int x1), (2, .int x2), (3, .int x3)] 5 C0 dX8_eventsOf_121 rfl rfl (by decide) rfl ?_
  refine tg_goto 45 C0 dX8_eventsOf_124 (by decide) ?_
  refine tg_sub [2, 3, 4, 5, 1, 0] rfl ?_
  exact hL x1 x2 x3 s0 (x5 + 1) v
def f_X8_eventsOf_92 (K0 : Int32 → Int32 → Int32 → tmM → Option (Int32 × tmM)) (L : Int32 → Int32 → Int32 → Int32 → Int32 → tmM → Option (Int32 × tmM)) (x1 x2 x4 x5 x6 s0 s1 : Int32) (v : tmM) : Option (Int32 × tmM) := tm_lt (s1 + s0) fun y4 => (if x6 = 0 then f_X8_eventsOf_119 K0 L x1 x2 y4 x5 x4 v else tm_g (tm_ix ((371 + (2 * x5)) + 1) 491) (f_X8_eventsOf_119 K0 L x1 x2 y4 x5 (v 1 ((371 + (2 * x5)) + 1).toNatClampNeg) v))
set_option maxRecDepth 100000 in
set_option maxHeartbeats 4000000 in
theorem w_X8_eventsOf_92 {p : Program} {l : Launch} {e : Env} {s : State} {m : MethodId} {args : Array Value} {below : List Frame} {meth : Method} {c : Code} {D : va_G} {cy : Nat → ClassId} {ad : Nat → Nat} {A : Nat → Prop} {z : (Int32 × tmM)} {K0 : Int32 → Int32 → Int32 → tmM → Option (Int32 × tmM)} {L : Int32 → Int32 → Int32 → Int32 → Int32 → tmM → Option (Int32 × tmM)} (C0 : tmC p s m args meth c cX8_eventsOf 7 (some .int) RX8 TMW tm_NWR D cy tm_shR ad 13 [] A) (hK0 : ∀ (a2 a3 a4 : Int32) (w : tmM), tmG p l e ({ frames := 1, cells := 0, slots := 0, locals := 22 } : Room) s m args below meth c 0 0 (MQ below (va_Qi (fun r u => z = (r, u)) (tmAt tm_shR 13 D cy ad A) A) args s 0 0 A) 7 D cy tm_shR ad 13 [] A z 127 [(2, .int a2), (3, .int a3), (4, .int a4)] [] w (K0 a2 a3 a4 w)) (hL : ∀ (a1 a2 a3 a4 a5 : Int32) (w : tmM), tmG p l e ({ frames := 1, cells := 0, slots := 0, locals := 22 } : Room) s m args below meth c 0 0 (MQ below (va_Qi (fun r u => z = (r, u)) (tmAt tm_shR 13 D cy ad A) A) args s 0 0 A) 7 D cy tm_shR ad 13 [] A z 45 [(0, .ref (ad 0)), (1, .int a1), (2, .int a2), (3, .int a3), (4, .int a4), (5, .int a5)] [] w (L a1 a2 a3 a4 a5 w)) (x1 x2 x4 x5 x6 s0 s1 : Int32) (v : tmM) : tmG p l e ({ frames := 1, cells := 0, slots := 0, locals := 22 } : Room) s m args below meth c 0 0 (MQ below (va_Qi (fun r u => z = (r, u)) (tmAt tm_shR 13 D cy ad A) A) args s 0 0 A) 7 D cy tm_shR ad 13 [] A z 92 [(0, .ref (ad 0)), (1, .int x1), (2, .int x2), (4, .int x4), (5, .int x5), (6, .int x6)] [.int s0, .int s1] v (f_X8_eventsOf_92 K0 L x1 x2 x4 x5 x6 s0 s1 v) := by
  unfold f_X8_eventsOf_92
  refine tg_iadd C0 dX8_eventsOf_92 ?_
  refine tg_leti (fun y4 _ => ?_)
  refine tg_istore_n [(3, .int y4), (0, .ref (ad 0)), (1, .int x1), (2, .int x2), (4, .int x4), (5, .int x5), (6, .int x6)] C0 dX8_eventsOf_93 rfl (by decide) rfl ?_
  refine tg_iload 6 C0 dX8_eventsOf_94 rfl ?_
  refine tg_if_eq 117 C0 dX8_eventsOf_96 (by decide) (fun _ => ?_) (fun _ => ?_)
  · refine tg_iload 4 C0 dX8_eventsOf_117 rfl ?_
    refine tg_sub [1, 2, 3, 0, 5] rfl ?_
    exact w_X8_eventsOf_119 C0 hK0 hL x1 x2 y4 x5 x4 v
  · refine tg_aload_n 1 C0 dX8_eventsOf_99 rfl rfl ?_
    refine tg_get 0 1 C0 dX8_eventsOf_100 (by decide) rfl rfl tu_X8 (by decide) tf_X8_7 rfl rfl rfl ?_
    refine tg_sipush (x := 371) C0 dX8_eventsOf_103 (by decide) ?_
    refine tg_iconst (x := 2) C0 dX8_eventsOf_106 (by decide) ?_
    refine tg_iload 5 C0 dX8_eventsOf_107 rfl ?_
    refine tg_imul C0 dX8_eventsOf_109 ?_
    refine tg_iadd C0 dX8_eventsOf_110 ?_
    refine tg_iconst (x := 1) C0 dX8_eventsOf_111 (by decide) ?_
    refine tg_iadd C0 dX8_eventsOf_112 ?_
    refine tg_iald 1 C0 dX8_eventsOf_113 (by decide) rfl (fun _ => ?_)
    refine tg_goto 119 C0 dX8_eventsOf_114 (by decide) ?_
    refine tg_sub [1, 2, 3, 0, 5] rfl ?_
    exact w_X8_eventsOf_119 C0 hK0 hL x1 x2 y4 x5 (v 1 ((371 + (2 * x5)) + 1).toNatClampNeg) v
def f_X8_eventsOf_79 (K0 : Int32 → Int32 → Int32 → tmM → Option (Int32 × tmM)) (L : Int32 → Int32 → Int32 → Int32 → Int32 → tmM → Option (Int32 × tmM)) (x1 x2 x3 x4 x5 s0 : Int32) (v : tmM) : Option (Int32 × tmM) := (if s0 = 0 then f_X8_eventsOf_92 K0 L x1 x2 x4 x5 s0 0 x3 v else f_X8_eventsOf_92 K0 L x1 x2 x4 x5 s0 1 x3 v)
set_option maxRecDepth 100000 in
set_option maxHeartbeats 4000000 in
theorem w_X8_eventsOf_79 {p : Program} {l : Launch} {e : Env} {s : State} {m : MethodId} {args : Array Value} {below : List Frame} {meth : Method} {c : Code} {D : va_G} {cy : Nat → ClassId} {ad : Nat → Nat} {A : Nat → Prop} {z : (Int32 × tmM)} {K0 : Int32 → Int32 → Int32 → tmM → Option (Int32 × tmM)} {L : Int32 → Int32 → Int32 → Int32 → Int32 → tmM → Option (Int32 × tmM)} (C0 : tmC p s m args meth c cX8_eventsOf 7 (some .int) RX8 TMW tm_NWR D cy tm_shR ad 13 [] A) (hK0 : ∀ (a2 a3 a4 : Int32) (w : tmM), tmG p l e ({ frames := 1, cells := 0, slots := 0, locals := 22 } : Room) s m args below meth c 0 0 (MQ below (va_Qi (fun r u => z = (r, u)) (tmAt tm_shR 13 D cy ad A) A) args s 0 0 A) 7 D cy tm_shR ad 13 [] A z 127 [(2, .int a2), (3, .int a3), (4, .int a4)] [] w (K0 a2 a3 a4 w)) (hL : ∀ (a1 a2 a3 a4 a5 : Int32) (w : tmM), tmG p l e ({ frames := 1, cells := 0, slots := 0, locals := 22 } : Room) s m args below meth c 0 0 (MQ below (va_Qi (fun r u => z = (r, u)) (tmAt tm_shR 13 D cy ad A) A) args s 0 0 A) 7 D cy tm_shR ad 13 [] A z 45 [(0, .ref (ad 0)), (1, .int a1), (2, .int a2), (3, .int a3), (4, .int a4), (5, .int a5)] [] w (L a1 a2 a3 a4 a5 w)) (x1 x2 x3 x4 x5 s0 : Int32) (v : tmM) : tmG p l e ({ frames := 1, cells := 0, slots := 0, locals := 22 } : Room) s m args below meth c 0 0 (MQ below (va_Qi (fun r u => z = (r, u)) (tmAt tm_shR 13 D cy ad A) A) args s 0 0 A) 7 D cy tm_shR ad 13 [] A z 79 [(0, .ref (ad 0)), (1, .int x1), (2, .int x2), (3, .int x3), (4, .int x4), (5, .int x5)] [.int s0] v (f_X8_eventsOf_79 K0 L x1 x2 x3 x4 x5 s0 v) := by
  unfold f_X8_eventsOf_79
  refine tg_istore [(6, .int s0), (0, .ref (ad 0)), (1, .int x1), (2, .int x2), (3, .int x3), (4, .int x4), (5, .int x5)] C0 dX8_eventsOf_79 (by decide) rfl ?_
  refine tg_iload_n 4 C0 dX8_eventsOf_81 rfl rfl ?_
  refine tg_iload 0 C0 dX8_eventsOf_82 rfl ?_
  refine tg_if_eq 91 C0 dX8_eventsOf_84 (by decide) (fun _ => ?_) (fun _ => ?_)
  · refine tg_iconst (x := 0) C0 dX8_eventsOf_91 (by decide) ?_
    refine tg_sub [1, 2, 3, 5, 6, 0] rfl ?_
    exact w_X8_eventsOf_92 C0 hK0 hL x1 x2 x4 x5 s0 0 x3 v
  · refine tg_iconst (x := 1) C0 dX8_eventsOf_87 (by decide) ?_
    refine tg_goto 92 C0 dX8_eventsOf_88 (by decide) ?_
    refine tg_sub [1, 2, 3, 5, 6, 0] rfl ?_
    exact w_X8_eventsOf_92 C0 hK0 hL x1 x2 x4 x5 s0 1 x3 v
def f_X8_eventsOf_45b (K0 : Int32 → Int32 → Int32 → tmM → Option (Int32 × tmM)) (L : Int32 → Int32 → Int32 → Int32 → Int32 → tmM → Option (Int32 × tmM)) (x1 x2 x3 x4 x5 : Int32) (v : tmM) : Option (Int32 × tmM) := tm_g (tm_ix 10 491) ((if (v 1 (10 : Int32).toNatClampNeg) ≤ x5 then K0 x2 x3 x4 v else tm_g (tm_ix (371 + (2 * x5)) 491) ((if (v 1 (371 + (2 * x5)).toNatClampNeg) = x1 then f_X8_eventsOf_79 K0 L x1 x2 x3 x4 x5 1 v else f_X8_eventsOf_79 K0 L x1 x2 x3 x4 x5 0 v))))
set_option maxRecDepth 100000 in
set_option maxHeartbeats 4000000 in
theorem w_X8_eventsOf_45b {p : Program} {l : Launch} {e : Env} {s : State} {m : MethodId} {args : Array Value} {below : List Frame} {meth : Method} {c : Code} {D : va_G} {cy : Nat → ClassId} {ad : Nat → Nat} {A : Nat → Prop} {z : (Int32 × tmM)} {K0 : Int32 → Int32 → Int32 → tmM → Option (Int32 × tmM)} {L : Int32 → Int32 → Int32 → Int32 → Int32 → tmM → Option (Int32 × tmM)} (C0 : tmC p s m args meth c cX8_eventsOf 7 (some .int) RX8 TMW tm_NWR D cy tm_shR ad 13 [] A) (hK0 : ∀ (a2 a3 a4 : Int32) (w : tmM), tmG p l e ({ frames := 1, cells := 0, slots := 0, locals := 22 } : Room) s m args below meth c 0 0 (MQ below (va_Qi (fun r u => z = (r, u)) (tmAt tm_shR 13 D cy ad A) A) args s 0 0 A) 7 D cy tm_shR ad 13 [] A z 127 [(2, .int a2), (3, .int a3), (4, .int a4)] [] w (K0 a2 a3 a4 w)) (hL : ∀ (a1 a2 a3 a4 a5 : Int32) (w : tmM), tmG p l e ({ frames := 1, cells := 0, slots := 0, locals := 22 } : Room) s m args below meth c 0 0 (MQ below (va_Qi (fun r u => z = (r, u)) (tmAt tm_shR 13 D cy ad A) A) args s 0 0 A) 7 D cy tm_shR ad 13 [] A z 45 [(0, .ref (ad 0)), (1, .int a1), (2, .int a2), (3, .int a3), (4, .int a4), (5, .int a5)] [] w (L a1 a2 a3 a4 a5 w)) (x1 x2 x3 x4 x5 : Int32) (v : tmM) : tmG p l e ({ frames := 1, cells := 0, slots := 0, locals := 22 } : Room) s m args below meth c 0 0 (MQ below (va_Qi (fun r u => z = (r, u)) (tmAt tm_shR 13 D cy ad A) A) args s 0 0 A) 7 D cy tm_shR ad 13 [] A z 45 [(0, .ref (ad 0)), (1, .int x1), (2, .int x2), (3, .int x3), (4, .int x4), (5, .int x5)] [] v (f_X8_eventsOf_45b K0 L x1 x2 x3 x4 x5 v) := by
  unfold f_X8_eventsOf_45b
  refine tg_iload 5 C0 dX8_eventsOf_45 rfl ?_
  refine tg_aload_n 0 C0 dX8_eventsOf_47 rfl rfl ?_
  refine tg_get 0 1 C0 dX8_eventsOf_48 (by decide) rfl rfl tu_X8 (by decide) tf_X8_7 rfl rfl rfl ?_
  refine tg_bipush (x := 10) C0 dX8_eventsOf_51 (by decide) ?_
  refine tg_iald 1 C0 dX8_eventsOf_53 (by decide) rfl (fun _ => ?_)
  refine tg_icmp_ge 127 C0 dX8_eventsOf_54 (by decide) (fun _ => ?_) (fun _ => ?_)
  · refine tg_sub [2, 3, 4] rfl ?_
    exact hK0 x2 x3 x4 v
  · refine tg_aload_n 0 C0 dX8_eventsOf_57 rfl rfl ?_
    refine tg_get 0 1 C0 dX8_eventsOf_58 (by decide) rfl rfl tu_X8 (by decide) tf_X8_7 rfl rfl rfl ?_
    refine tg_sipush (x := 371) C0 dX8_eventsOf_61 (by decide) ?_
    refine tg_iconst (x := 2) C0 dX8_eventsOf_64 (by decide) ?_
    refine tg_iload 5 C0 dX8_eventsOf_65 rfl ?_
    refine tg_imul C0 dX8_eventsOf_67 ?_
    refine tg_iadd C0 dX8_eventsOf_68 ?_
    refine tg_iald 1 C0 dX8_eventsOf_69 (by decide) rfl (fun _ => ?_)
    refine tg_iload_n 1 C0 dX8_eventsOf_70 rfl rfl ?_
    refine tg_icmp_ne 78 C0 dX8_eventsOf_71 (by decide) (fun _ => ?_) (fun _ => ?_)
    · refine tg_iconst (x := 0) C0 dX8_eventsOf_78 (by decide) ?_
      exact w_X8_eventsOf_79 C0 hK0 hL x1 x2 x3 x4 x5 0 v
    · refine tg_iconst (x := 1) C0 dX8_eventsOf_74 (by decide) ?_
      refine tg_goto 79 C0 dX8_eventsOf_75 (by decide) ?_
      exact w_X8_eventsOf_79 C0 hK0 hL x1 x2 x3 x4 x5 1 v
def f_X8_eventsOf_45 (K0 : Int32 → Int32 → Int32 → tmM → Option (Int32 × tmM)) : Nat → Int32 → Int32 → Int32 → Int32 → Int32 → tmM → Option (Int32 × tmM)
  | 0 => fun _ _ _ _ _ _ => none
  | n + 1 => f_X8_eventsOf_45b K0 (f_X8_eventsOf_45 K0 n)
theorem w_X8_eventsOf_45 {p : Program} {l : Launch} {e : Env} {s : State} {m : MethodId} {args : Array Value} {below : List Frame} {meth : Method} {c : Code} {D : va_G} {cy : Nat → ClassId} {ad : Nat → Nat} {A : Nat → Prop} {z : (Int32 × tmM)} {K0 : Int32 → Int32 → Int32 → tmM → Option (Int32 × tmM)} (C0 : tmC p s m args meth c cX8_eventsOf 7 (some .int) RX8 TMW tm_NWR D cy tm_shR ad 13 [] A) (hK0 : ∀ (a2 a3 a4 : Int32) (w : tmM), tmG p l e ({ frames := 1, cells := 0, slots := 0, locals := 22 } : Room) s m args below meth c 0 0 (MQ below (va_Qi (fun r u => z = (r, u)) (tmAt tm_shR 13 D cy ad A) A) args s 0 0 A) 7 D cy tm_shR ad 13 [] A z 127 [(2, .int a2), (3, .int a3), (4, .int a4)] [] w (K0 a2 a3 a4 w)) (nn : Nat) : ∀ (x1 x2 x3 x4 x5 : Int32) (v : tmM), tmG p l e ({ frames := 1, cells := 0, slots := 0, locals := 22 } : Room) s m args below meth c 0 0 (MQ below (va_Qi (fun r u => z = (r, u)) (tmAt tm_shR 13 D cy ad A) A) args s 0 0 A) 7 D cy tm_shR ad 13 [] A z 45 [(0, .ref (ad 0)), (1, .int x1), (2, .int x2), (3, .int x3), (4, .int x4), (5, .int x5)] [] v (f_X8_eventsOf_45 K0 nn x1 x2 x3 x4 x5 v) := by
  induction nn with
  | zero => intro _ _ _ _ _ _; exact tg_none
  | succ n ih => intro x1 x2 x3 x4 x5 v; exact w_X8_eventsOf_45b C0 hK0 ih x1 x2 x3 x4 x5 v
def f_X8_eventsOf_25 (x1 x2 s0 : Int32) (v : tmM) : Option (Int32 × tmM) := tm_lt (tm_up v 0 0 s0) fun v3 => (if (v3 0 0) ≤ 0 then f_X8_eventsOf_45 (fun x5 x6 x7 v8 => (if x5 = 0 then some (x6, v8) else some (x7, v8))) 10000 x1 x2 0 (-1) 0 v3 else some (0, v3))
set_option maxRecDepth 100000 in
set_option maxHeartbeats 4000000 in
theorem w_X8_eventsOf_25 {p : Program} {l : Launch} {e : Env} {s : State} {m : MethodId} {args : Array Value} {below : List Frame} {meth : Method} {c : Code} {D : va_G} {cy : Nat → ClassId} {ad : Nat → Nat} {A : Nat → Prop} {z : (Int32 × tmM)} (C0 : tmC p s m args meth c cX8_eventsOf 7 (some .int) RX8 TMW tm_NWR D cy tm_shR ad 13 [] A) (x1 x2 s0 : Int32) (v : tmM) : tmG p l e ({ frames := 1, cells := 0, slots := 0, locals := 22 } : Room) s m args below meth c 0 0 (MQ below (va_Qi (fun r u => z = (r, u)) (tmAt tm_shR 13 D cy ad A) A) args s 0 0 A) 7 D cy tm_shR ad 13 [] A z 25 [(0, .ref (ad 0)), (1, .int x1), (2, .int x2)] [.int s0, .ref (ad 0)] v (f_X8_eventsOf_25 x1 x2 s0 v) := by
  unfold f_X8_eventsOf_25
  refine tg_put 0 0 C0 dX8_eventsOf_25 (by decide) rfl rfl tu_X8 tyX8_ok nmX8 (by decide) tf_X8_56 rfl rfl rfl rfl rfl rfl ?_
  refine tg_letm (fun v3 _ => ?_)
  refine tg_aload_n 0 C0 dX8_eventsOf_28 rfl rfl ?_
  refine tg_get 0 0 C0 dX8_eventsOf_29 (by decide) rfl rfl tu_X8 (by decide) tf_X8_56 rfl rfl rfl ?_
  refine tg_if_le 37 C0 dX8_eventsOf_32 (by decide) (fun _ => ?_) (fun _ => ?_)
  · refine tg_iconst (x := 0) C0 dX8_eventsOf_37 (by decide) ?_
    refine tg_istore_n [(3, .int 0), (0, .ref (ad 0)), (1, .int x1), (2, .int x2)] C0 dX8_eventsOf_38 rfl (by decide) rfl ?_
    refine tg_iconst (x := (-1)) C0 dX8_eventsOf_39 (by decide) ?_
    refine tg_istore [(4, .int (-1)), (3, .int 0), (0, .ref (ad 0)), (1, .int x1), (2, .int x2)] C0 dX8_eventsOf_40 (by decide) rfl ?_
    refine tg_iconst (x := 0) C0 dX8_eventsOf_42 (by decide) ?_
    refine tg_istore [(5, .int 0), (4, .int (-1)), (3, .int 0), (0, .ref (ad 0)), (1, .int x1), (2, .int x2)] C0 dX8_eventsOf_43 (by decide) rfl ?_
    refine tg_sub [3, 4, 5, 2, 1, 0] rfl ?_
    refine w_X8_eventsOf_45 C0 (fun x5 x6 x7 v8 => ?_) 10000 x1 x2 0 (-1) 0 v3
    refine tg_iload_n 0 C0 dX8_eventsOf_127 rfl rfl ?_
    refine tg_if_ne 135 C0 dX8_eventsOf_128 (by decide) (fun _ => ?_) (fun _ => ?_)
    · refine tg_iload 2 C0 dX8_eventsOf_135 rfl ?_
      exact tg_iret C0 dX8_eventsOf_137
    · refine tg_iload_n 1 C0 dX8_eventsOf_131 rfl rfl ?_
      refine tg_goto 137 C0 dX8_eventsOf_132 (by decide) ?_
      exact tg_iret C0 dX8_eventsOf_137
  · refine tg_iconst (x := 0) C0 dX8_eventsOf_35 (by decide) ?_
    exact tg_iret C0 dX8_eventsOf_36
def f_X8_eventsOf_24 (x1 x2 : Int32) (v : tmM) : Option (Int32 × tmM) := f_X8_eventsOf_25 x1 x2 1 v
set_option maxRecDepth 100000 in
set_option maxHeartbeats 4000000 in
theorem w_X8_eventsOf_24 {p : Program} {l : Launch} {e : Env} {s : State} {m : MethodId} {args : Array Value} {below : List Frame} {meth : Method} {c : Code} {D : va_G} {cy : Nat → ClassId} {ad : Nat → Nat} {A : Nat → Prop} {z : (Int32 × tmM)} (C0 : tmC p s m args meth c cX8_eventsOf 7 (some .int) RX8 TMW tm_NWR D cy tm_shR ad 13 [] A) (x1 x2 : Int32) (v : tmM) : tmG p l e ({ frames := 1, cells := 0, slots := 0, locals := 22 } : Room) s m args below meth c 0 0 (MQ below (va_Qi (fun r u => z = (r, u)) (tmAt tm_shR 13 D cy ad A) A) args s 0 0 A) 7 D cy tm_shR ad 13 [] A z 24 [(0, .ref (ad 0)), (1, .int x1), (2, .int x2)] [.ref (ad 0)] v (f_X8_eventsOf_24 x1 x2 v) := by
  unfold f_X8_eventsOf_24
  refine tg_iconst (x := 1) C0 dX8_eventsOf_24 (by decide) ?_
  exact w_X8_eventsOf_25 C0 x1 x2 1 v
def f_X8_eventsOf (x1 x2 : Int32) (v : tmM) : Option (Int32 × tmM) := tm_cl (f_X8_in x1 0 8 v) fun r2 v1 => (if r2 = 0 then f_X8_eventsOf_24 x1 x2 v1 else tm_cl (f_X8_in x2 0 1 v1) fun r10 v9 => (if r10 = 0 then f_X8_eventsOf_24 x1 x2 v9 else f_X8_eventsOf_25 x1 x2 0 v9))
set_option maxRecDepth 100000 in
set_option maxHeartbeats 4000000 in
theorem w_X8_eventsOf {p : Program} {l : Launch} {e : Env} {s : State} {m : MethodId} {args : Array Value} {below : List Frame} {meth : Method} {c : Code} {D : va_G} {cy : Nat → ClassId} {ad : Nat → Nat} {A : Nat → Prop} {z : (Int32 × tmM)} (C0 : tmC p s m args meth c cX8_eventsOf 7 (some .int) RX8 TMW tm_NWR D cy tm_shR ad 13 [] A) (x1 x2 : Int32) (v : tmM) : tmG p l e ({ frames := 1, cells := 0, slots := 0, locals := 22 } : Room) s m args below meth c 0 0 (MQ below (va_Qi (fun r u => z = (r, u)) (tmAt tm_shR 13 D cy ad A) A) args s 0 0 A) 7 D cy tm_shR ad 13 [] A z 0 [(0, .ref (ad 0)), (1, .int x1), (2, .int x2)] [] v (f_X8_eventsOf x1 x2 v) := by
  unfold f_X8_eventsOf
  refine tg_aload_n 0 C0 dX8_eventsOf_0 rfl rfl ?_
  refine tg_iload_n 1 C0 dX8_eventsOf_1 rfl rfl ?_
  refine tg_iconst (x := 0) C0 dX8_eventsOf_2 (by decide) ?_
  refine tg_bipush (x := 8) C0 dX8_eventsOf_3 (by decide) ?_
  refine tg_callSi (As := [.int x1, .int 0, .int 8]) 3 C0 dX8_eventsOf_5 (c_X8_in l x1 0 8 v) rfl rfl (tm_gc tc_X8_in) tl_X8_63 tn_X8 tst_X8_in  rfl rfl rfl rfl (by decide +kernel) ⟨by decide, by decide⟩ (Nat.le_of_ble_eq_true rfl) ⟨by decide, by decide⟩ (fun r2 v1 _ => ?_)
  refine tg_if_eq 24 C0 dX8_eventsOf_8 (by decide) (fun _ => ?_) (fun _ => ?_)
  · exact w_X8_eventsOf_24 C0 x1 x2 v1
  · refine tg_iload_n 2 C0 dX8_eventsOf_11 rfl rfl ?_
    refine tg_iconst (x := 0) C0 dX8_eventsOf_12 (by decide) ?_
    refine tg_iconst (x := 1) C0 dX8_eventsOf_13 (by decide) ?_
    refine tg_callSi (As := [.int x2, .int 0, .int 1]) 3 C0 dX8_eventsOf_14 (c_X8_in l x2 0 1 v1) rfl rfl (tm_gc tc_X8_in) tl_X8_63 tn_X8 tst_X8_in  rfl rfl rfl rfl (by decide +kernel) ⟨by decide, by decide⟩ (Nat.le_of_ble_eq_true rfl) ⟨by decide, by decide⟩ (fun r10 v9 _ => ?_)
    refine tg_if_eq 24 C0 dX8_eventsOf_17 (by decide) (fun _ => ?_) (fun _ => ?_)
    · exact w_X8_eventsOf_24 C0 x1 x2 v9
    · refine tg_iconst (x := 0) C0 dX8_eventsOf_20 (by decide) ?_
      refine tg_goto 25 C0 dX8_eventsOf_21 (by decide) ?_
      exact w_X8_eventsOf_25 C0 x1 x2 0 v9
theorem c_X8_eventsOf (l : Launch) (x1 x2 : Int32) (v : tmM) : tmMi tm_NWR tm_shR 13 l yX8_eventsOf (Cond.code yX8_eventsOf cX8_eventsOf 7 (some .int) :: TMW) ({ frames := 1, cells := 0, slots := 0, locals := 22 } : Room) (fun ad => [.ref (ad 0), .int x1, .int x2]) v (f_X8_eventsOf x1 x2 v) :=
  tmMi.of (cc := cX8_eventsOf) (nL := 7) (by decide +kernel) rfl tm_NWR_ok (fun _ => Nat.le_of_ble_eq_true rfl) (fun p e s m args below meth c A D cy ad z C0 => w_X8_eventsOf C0 x1 x2 v)
-- ----- X8_prints
theorem dX8_prints_0 : decode cX8_prints 0 = .ok (.aload_n 0, 1) := by decide +kernel
theorem dX8_prints_1 : decode cX8_prints 1 = .ok (.getfield 26, 3) := by decide +kernel
theorem dX8_prints_4 : decode cX8_prints 4 = .ok (.aload_n 0, 1) := by decide +kernel
theorem dX8_prints_5 : decode cX8_prints 5 = .ok (.getfield 294, 3) := by decide +kernel
theorem dX8_prints_8 : decode cX8_prints 8 = .ok (.iload_n 1, 1) := by decide +kernel
theorem dX8_prints_9 : decode cX8_prints 9 = .ok (.i2b, 1) := by decide +kernel
theorem dX8_prints_10 : decode cX8_prints 10 = .ok (.bastore, 1) := by decide +kernel
theorem dX8_prints_11 : decode cX8_prints 11 = .ok (.aload_n 0, 1) := by decide +kernel
theorem dX8_prints_12 : decode cX8_prints 12 = .ok (.dup, 1) := by decide +kernel
theorem dX8_prints_13 : decode cX8_prints 13 = .ok (.getfield 294, 3) := by decide +kernel
theorem dX8_prints_16 : decode cX8_prints 16 = .ok (.iconst 1, 1) := by decide +kernel
theorem dX8_prints_17 : decode cX8_prints 17 = .ok (.iadd, 1) := by decide +kernel
theorem dX8_prints_18 : decode cX8_prints 18 = .ok (.putfield 294, 3) := by decide +kernel
theorem dX8_prints_21 : decode cX8_prints 21 = .ok (.return_, 1) := by decide +kernel
theorem tf_X8_26 : Cond.fieldLink RX8 26 "TableMoveModel" (TX8 12).2.1 (TX8 12).2.2.1 ∈ TMW := tm_in 1563 (by decide +kernel) (by decide +kernel)
theorem tf_X8_294 : Cond.fieldLink RX8 294 "TableMoveModel" (TX8 13).2.1 (TX8 13).2.2.1 ∈ TMW := tm_in 1564 (by decide +kernel) (by decide +kernel)
def f_X8_prints (x1 : Int32) (v : tmM) : Option (Unit × tmM) := tm_g (tm_ix (v 0 13) 96) (tm_lt (tm_up v 6 (v 0 13).toNatClampNeg (vp_nar .byte (x1.toInt8.toInt32))) fun v1 => tm_lt (tm_up v1 0 13 ((v1 0 13) + 1)) fun v2 => some ((), v2))
set_option maxRecDepth 100000 in
set_option maxHeartbeats 4000000 in
theorem w_X8_prints {p : Program} {l : Launch} {e : Env} {s : State} {m : MethodId} {args : Array Value} {below : List Frame} {meth : Method} {c : Code} {D : va_G} {cy : Nat → ClassId} {ad : Nat → Nat} {A : Nat → Prop} {z : (Unit × tmM)} (C0 : tmC p s m args meth c cX8_prints 2 none RX8 TMW tm_NWR D cy tm_shR ad 13 [] A) (x1 : Int32) (v : tmM) : tmG p l e ({ frames := 0, cells := 0, slots := 0, locals := 0 } : Room) s m args below meth c 0 0 (MQ below (va_Qv (fun u => z = ((), u)) (tmAt tm_shR 13 D cy ad A) A) args s 0 0 A) 2 D cy tm_shR ad 13 [] A z 0 [(0, .ref (ad 0)), (1, .int x1)] [] v (f_X8_prints x1 v) := by
  unfold f_X8_prints
  refine tg_aload_n 0 C0 dX8_prints_0 rfl rfl ?_
  refine tg_get 0 12 C0 dX8_prints_1 (by decide) rfl rfl tu_X8 (by decide) tf_X8_26 rfl rfl rfl ?_
  refine tg_aload_n 0 C0 dX8_prints_4 rfl rfl ?_
  refine tg_get 0 13 C0 dX8_prints_5 (by decide) rfl rfl tu_X8 (by decide) tf_X8_294 rfl rfl rfl ?_
  refine tg_iload_n 1 C0 dX8_prints_8 rfl rfl ?_
  refine tg_i2b C0 dX8_prints_9 ?_
  refine tg_bast 6 C0 dX8_prints_10 (by decide) rfl (fun _ => ?_)
  refine tg_letm (fun v1 _ => ?_)
  refine tg_aload_n 0 C0 dX8_prints_11 rfl rfl ?_
  refine tg_dup C0 dX8_prints_12 rfl ?_
  refine tg_get 0 13 C0 dX8_prints_13 (by decide) rfl rfl tu_X8 (by decide) tf_X8_294 rfl rfl rfl ?_
  refine tg_iconst (x := 1) C0 dX8_prints_16 (by decide) ?_
  refine tg_iadd C0 dX8_prints_17 ?_
  refine tg_put 0 13 C0 dX8_prints_18 (by decide) rfl rfl tu_X8 tyX8_ok nmX8 (by decide) tf_X8_294 rfl rfl rfl rfl rfl rfl ?_
  refine tg_letm (fun v2 _ => ?_)
  exact tg_vret C0 dX8_prints_21
theorem c_X8_prints (l : Launch) (x1 : Int32) (v : tmM) : tmMv tm_NWR tm_shR 13 l yX8_prints (Cond.code yX8_prints cX8_prints 2 none :: TMW) ({ frames := 0, cells := 0, slots := 0, locals := 0 } : Room) (fun ad => [.ref (ad 0), .int x1]) v (f_X8_prints x1 v) :=
  tmMv.of (cc := cX8_prints) (nL := 2) (by decide +kernel) rfl tm_NWR_ok (fun _ => Nat.le_of_ble_eq_true rfl) (fun p e s m args below meth c A D cy ad z C0 => w_X8_prints C0 x1 v)
-- ----- X8_putsSigns
theorem dX8_putsSigns_0 : decode cX8_putsSigns 0 = .ok (.iload_n 1, 1) := by decide +kernel
theorem dX8_putsSigns_1 : decode cX8_putsSigns 1 = .ok (.istore_n 3, 1) := by decide +kernel
theorem dX8_putsSigns_2 : decode cX8_putsSigns 2 = .ok (.iload_n 3, 1) := by decide +kernel
theorem dX8_putsSigns_3 : decode cX8_putsSigns 3 = .ok (.iload_n 2, 1) := by decide +kernel
theorem dX8_putsSigns_4 : decode cX8_putsSigns 4 = .ok (.if_icmp .ge 19, 3) := by decide +kernel
theorem dX8_putsSigns_7 : decode cX8_putsSigns 7 = .ok (.aload_n 0, 1) := by decide +kernel
theorem dX8_putsSigns_8 : decode cX8_putsSigns 8 = .ok (.aload_n 0, 1) := by decide +kernel
theorem dX8_putsSigns_9 : decode cX8_putsSigns 9 = .ok (.getfield 30, 3) := by decide +kernel
theorem dX8_putsSigns_12 : decode cX8_putsSigns 12 = .ok (.iload_n 3, 1) := by decide +kernel
theorem dX8_putsSigns_13 : decode cX8_putsSigns 13 = .ok (.baload, 1) := by decide +kernel
theorem dX8_putsSigns_14 : decode cX8_putsSigns 14 = .ok (.invokevirtual 297, 3) := by decide +kernel
theorem dX8_putsSigns_17 : decode cX8_putsSigns 17 = .ok (.iinc 3 1, 3) := by decide +kernel
theorem dX8_putsSigns_20 : decode cX8_putsSigns 20 = .ok (.goto (-18), 3) := by decide +kernel
theorem dX8_putsSigns_23 : decode cX8_putsSigns 23 = .ok (.return_, 1) := by decide +kernel
theorem tf_X8_30 : Cond.fieldLink RX8 30 "TableMoveModel" (TX8 14).2.1 (TX8 14).2.2.1 ∈ TMW := tm_in 1565 (by decide +kernel) (by decide +kernel)
theorem tl_X8_297 : Cond.methodLink RX8 297 yX8_prints ∈ TMW := tm_in 2061 (by decide +kernel) (by decide +kernel)
theorem ti_X8_prints : Cond.instanceMethod yX8_prints ∈ TMW := tm_in 2063 (by decide +kernel) (by decide +kernel)
theorem ts_X8_prints : Cond.selects RX8 yX8_prints yX8_prints ∈ TMW := tm_in 95 (by decide +kernel) (by decide +kernel)
theorem tc_X8_prints : Cond.code yX8_prints cX8_prints 2 none ∈ TMW := tm_in 2064 (by decide +kernel) (by decide +kernel)
def f_X8_putsSigns_2b (K0 : tmM → Option (Unit × tmM)) (L : Int32 → Int32 → tmM → Option (Unit × tmM)) (x2 x3 : Int32) (v : tmM) : Option (Unit × tmM) := (if x2 ≤ x3 then K0 v else tm_g (tm_ix x3 15) (tm_cl (f_X8_prints (v 7 x3.toNatClampNeg) v) fun _ v1 => L x2 (x3 + 1) v1))
set_option maxRecDepth 100000 in
set_option maxHeartbeats 4000000 in
theorem w_X8_putsSigns_2b {p : Program} {l : Launch} {e : Env} {s : State} {m : MethodId} {args : Array Value} {below : List Frame} {meth : Method} {c : Code} {D : va_G} {cy : Nat → ClassId} {ad : Nat → Nat} {A : Nat → Prop} {z : (Unit × tmM)} {K0 : tmM → Option (Unit × tmM)} {L : Int32 → Int32 → tmM → Option (Unit × tmM)} (C0 : tmC p s m args meth c cX8_putsSigns 4 none RX8 TMW tm_NWR D cy tm_shR ad 13 [] A) (hK0 : ∀ (w : tmM), tmG p l e ({ frames := 1, cells := 0, slots := 0, locals := 21 } : Room) s m args below meth c 0 0 (MQ below (va_Qv (fun u => z = ((), u)) (tmAt tm_shR 13 D cy ad A) A) args s 0 0 A) 4 D cy tm_shR ad 13 [] A z 23 [] [] w (K0 w)) (hL : ∀ (a2 a3 : Int32) (w : tmM), tmG p l e ({ frames := 1, cells := 0, slots := 0, locals := 21 } : Room) s m args below meth c 0 0 (MQ below (va_Qv (fun u => z = ((), u)) (tmAt tm_shR 13 D cy ad A) A) args s 0 0 A) 4 D cy tm_shR ad 13 [] A z 2 [(0, .ref (ad 0)), (2, .int a2), (3, .int a3)] [] w (L a2 a3 w)) (x2 x3 : Int32) (v : tmM) : tmG p l e ({ frames := 1, cells := 0, slots := 0, locals := 21 } : Room) s m args below meth c 0 0 (MQ below (va_Qv (fun u => z = ((), u)) (tmAt tm_shR 13 D cy ad A) A) args s 0 0 A) 4 D cy tm_shR ad 13 [] A z 2 [(0, .ref (ad 0)), (2, .int x2), (3, .int x3)] [] v (f_X8_putsSigns_2b K0 L x2 x3 v) := by
  unfold f_X8_putsSigns_2b
  refine tg_iload_n 2 C0 dX8_putsSigns_2 rfl rfl ?_
  refine tg_iload_n 1 C0 dX8_putsSigns_3 rfl rfl ?_
  refine tg_icmp_ge 23 C0 dX8_putsSigns_4 (by decide) (fun _ => ?_) (fun _ => ?_)
  · refine tg_sub [] rfl ?_
    exact hK0 v
  · refine tg_aload_n 0 C0 dX8_putsSigns_7 rfl rfl ?_
    refine tg_aload_n 0 C0 dX8_putsSigns_8 rfl rfl ?_
    refine tg_get 0 14 C0 dX8_putsSigns_9 (by decide) rfl rfl tu_X8 (by decide) tf_X8_30 rfl rfl rfl ?_
    refine tg_iload_n 2 C0 dX8_putsSigns_12 rfl rfl ?_
    refine tg_bald 7 C0 dX8_putsSigns_13 (by decide) rfl (fun _ => ?_)
    refine tg_callVv (As := [.int (v 7 x3.toNatClampNeg)]) 0 1 C0 dX8_putsSigns_14 (c_X8_prints l (v 7 x3.toNatClampNeg) v) rfl rfl (by decide) rfl rfl (tm_gV tl_X8_297 ti_X8_prints ts_X8_prints tn_X8 tc_X8_prints)  rfl rfl rfl rfl (by decide +kernel) ⟨by decide, by decide⟩ (Nat.le_of_ble_eq_true rfl) ⟨by decide, by decide⟩ (fun v1 _ => ?_)
    refine tg_iinc [(3, .int (x3 + 1)), (0, .ref (ad 0)), (2, .int x2)] 2 C0 dX8_putsSigns_17 rfl rfl (by decide) rfl ?_
    refine tg_goto 2 C0 dX8_putsSigns_20 (by decide) ?_
    refine tg_sub [1, 2, 0] rfl ?_
    exact hL x2 (x3 + 1) v1
def f_X8_putsSigns_2 (K0 : tmM → Option (Unit × tmM)) : Nat → Int32 → Int32 → tmM → Option (Unit × tmM)
  | 0 => fun _ _ _ => none
  | n + 1 => f_X8_putsSigns_2b K0 (f_X8_putsSigns_2 K0 n)
theorem w_X8_putsSigns_2 {p : Program} {l : Launch} {e : Env} {s : State} {m : MethodId} {args : Array Value} {below : List Frame} {meth : Method} {c : Code} {D : va_G} {cy : Nat → ClassId} {ad : Nat → Nat} {A : Nat → Prop} {z : (Unit × tmM)} {K0 : tmM → Option (Unit × tmM)} (C0 : tmC p s m args meth c cX8_putsSigns 4 none RX8 TMW tm_NWR D cy tm_shR ad 13 [] A) (hK0 : ∀ (w : tmM), tmG p l e ({ frames := 1, cells := 0, slots := 0, locals := 21 } : Room) s m args below meth c 0 0 (MQ below (va_Qv (fun u => z = ((), u)) (tmAt tm_shR 13 D cy ad A) A) args s 0 0 A) 4 D cy tm_shR ad 13 [] A z 23 [] [] w (K0 w)) (nn : Nat) : ∀ (x2 x3 : Int32) (v : tmM), tmG p l e ({ frames := 1, cells := 0, slots := 0, locals := 21 } : Room) s m args below meth c 0 0 (MQ below (va_Qv (fun u => z = ((), u)) (tmAt tm_shR 13 D cy ad A) A) args s 0 0 A) 4 D cy tm_shR ad 13 [] A z 2 [(0, .ref (ad 0)), (2, .int x2), (3, .int x3)] [] v (f_X8_putsSigns_2 K0 nn x2 x3 v) := by
  induction nn with
  | zero => intro _ _ _; exact tg_none
  | succ n ih => intro x2 x3 v; exact w_X8_putsSigns_2b C0 hK0 ih x2 x3 v
def f_X8_putsSigns (x1 x2 : Int32) (v : tmM) : Option (Unit × tmM) := f_X8_putsSigns_2 (fun v3 => some ((), v3)) 10000 x2 x1 v
set_option maxRecDepth 100000 in
set_option maxHeartbeats 4000000 in
theorem w_X8_putsSigns {p : Program} {l : Launch} {e : Env} {s : State} {m : MethodId} {args : Array Value} {below : List Frame} {meth : Method} {c : Code} {D : va_G} {cy : Nat → ClassId} {ad : Nat → Nat} {A : Nat → Prop} {z : (Unit × tmM)} (C0 : tmC p s m args meth c cX8_putsSigns 4 none RX8 TMW tm_NWR D cy tm_shR ad 13 [] A) (x1 x2 : Int32) (v : tmM) : tmG p l e ({ frames := 1, cells := 0, slots := 0, locals := 21 } : Room) s m args below meth c 0 0 (MQ below (va_Qv (fun u => z = ((), u)) (tmAt tm_shR 13 D cy ad A) A) args s 0 0 A) 4 D cy tm_shR ad 13 [] A z 0 [(0, .ref (ad 0)), (1, .int x1), (2, .int x2)] [] v (f_X8_putsSigns x1 x2 v) := by
  unfold f_X8_putsSigns
  refine tg_iload_n 1 C0 dX8_putsSigns_0 rfl rfl ?_
  refine tg_istore_n [(3, .int x1), (0, .ref (ad 0)), (1, .int x1), (2, .int x2)] C0 dX8_putsSigns_1 rfl (by decide) rfl ?_
  refine tg_sub [1, 3, 0] rfl ?_
  refine w_X8_putsSigns_2 C0 (fun v3 => ?_) 10000 x2 x1 v
  exact tg_vret C0 dX8_putsSigns_23
theorem c_X8_putsSigns (l : Launch) (x1 x2 : Int32) (v : tmM) : tmMv tm_NWR tm_shR 13 l yX8_putsSigns (Cond.code yX8_putsSigns cX8_putsSigns 4 none :: TMW) ({ frames := 1, cells := 0, slots := 0, locals := 21 } : Room) (fun ad => [.ref (ad 0), .int x1, .int x2]) v (f_X8_putsSigns x1 x2 v) :=
  tmMv.of (cc := cX8_putsSigns) (nL := 4) (by decide +kernel) rfl tm_NWR_ok (fun _ => Nat.le_of_ble_eq_true rfl) (fun p e s m args below meth c A D cy ad z C0 => w_X8_putsSigns C0 x1 x2 v)
-- ----- X8_putsNumber
theorem dX8_putsNumber_0 : decode cX8_putsNumber 0 = .ok (.iload_n 1, 1) := by decide +kernel
theorem dX8_putsNumber_1 : decode cX8_putsNumber 1 = .ok (.bipush 99, 2) := by decide +kernel
theorem dX8_putsNumber_3 : decode cX8_putsNumber 3 = .ok (.if_icmp .le 14, 3) := by decide +kernel
theorem dX8_putsNumber_6 : decode cX8_putsNumber 6 = .ok (.aload_n 0, 1) := by decide +kernel
theorem dX8_putsNumber_7 : decode cX8_putsNumber 7 = .ok (.bipush 48, 2) := by decide +kernel
theorem dX8_putsNumber_9 : decode cX8_putsNumber 9 = .ok (.iload_n 1, 1) := by decide +kernel
theorem dX8_putsNumber_10 : decode cX8_putsNumber 10 = .ok (.bipush 100, 2) := by decide +kernel
theorem dX8_putsNumber_12 : decode cX8_putsNumber 12 = .ok (.idiv, 1) := by decide +kernel
theorem dX8_putsNumber_13 : decode cX8_putsNumber 13 = .ok (.iadd, 1) := by decide +kernel
theorem dX8_putsNumber_14 : decode cX8_putsNumber 14 = .ok (.invokevirtual 297, 3) := by decide +kernel
theorem dX8_putsNumber_17 : decode cX8_putsNumber 17 = .ok (.iload_n 1, 1) := by decide +kernel
theorem dX8_putsNumber_18 : decode cX8_putsNumber 18 = .ok (.bipush 9, 2) := by decide +kernel
theorem dX8_putsNumber_20 : decode cX8_putsNumber 20 = .ok (.if_icmp .le 17, 3) := by decide +kernel
theorem dX8_putsNumber_23 : decode cX8_putsNumber 23 = .ok (.aload_n 0, 1) := by decide +kernel
theorem dX8_putsNumber_24 : decode cX8_putsNumber 24 = .ok (.bipush 48, 2) := by decide +kernel
theorem dX8_putsNumber_26 : decode cX8_putsNumber 26 = .ok (.iload_n 1, 1) := by decide +kernel
theorem dX8_putsNumber_27 : decode cX8_putsNumber 27 = .ok (.bipush 10, 2) := by decide +kernel
theorem dX8_putsNumber_29 : decode cX8_putsNumber 29 = .ok (.idiv, 1) := by decide +kernel
theorem dX8_putsNumber_30 : decode cX8_putsNumber 30 = .ok (.bipush 10, 2) := by decide +kernel
theorem dX8_putsNumber_32 : decode cX8_putsNumber 32 = .ok (.irem, 1) := by decide +kernel
theorem dX8_putsNumber_33 : decode cX8_putsNumber 33 = .ok (.iadd, 1) := by decide +kernel
theorem dX8_putsNumber_34 : decode cX8_putsNumber 34 = .ok (.invokevirtual 297, 3) := by decide +kernel
theorem dX8_putsNumber_37 : decode cX8_putsNumber 37 = .ok (.aload_n 0, 1) := by decide +kernel
theorem dX8_putsNumber_38 : decode cX8_putsNumber 38 = .ok (.bipush 48, 2) := by decide +kernel
theorem dX8_putsNumber_40 : decode cX8_putsNumber 40 = .ok (.iload_n 1, 1) := by decide +kernel
theorem dX8_putsNumber_41 : decode cX8_putsNumber 41 = .ok (.bipush 10, 2) := by decide +kernel
theorem dX8_putsNumber_43 : decode cX8_putsNumber 43 = .ok (.irem, 1) := by decide +kernel
theorem dX8_putsNumber_44 : decode cX8_putsNumber 44 = .ok (.iadd, 1) := by decide +kernel
theorem dX8_putsNumber_45 : decode cX8_putsNumber 45 = .ok (.invokevirtual 297, 3) := by decide +kernel
theorem dX8_putsNumber_48 : decode cX8_putsNumber 48 = .ok (.return_, 1) := by decide +kernel
def f_X8_putsNumber_37 (x1 : Int32) (v : tmM) : Option (Unit × tmM) := tm_g (decide (¬ 10 = 0)) (tm_cl (f_X8_prints (48 + (x1 - x1 / 10 * 10)) v) fun _ v1 => some ((), v1))
set_option maxRecDepth 100000 in
set_option maxHeartbeats 4000000 in
theorem w_X8_putsNumber_37 {p : Program} {l : Launch} {e : Env} {s : State} {m : MethodId} {args : Array Value} {below : List Frame} {meth : Method} {c : Code} {D : va_G} {cy : Nat → ClassId} {ad : Nat → Nat} {A : Nat → Prop} {z : (Unit × tmM)} (C0 : tmC p s m args meth c cX8_putsNumber 2 none RX8 TMW tm_NWR D cy tm_shR ad 13 [] A) (x1 : Int32) (v : tmM) : tmG p l e ({ frames := 1, cells := 0, slots := 0, locals := 21 } : Room) s m args below meth c 0 0 (MQ below (va_Qv (fun u => z = ((), u)) (tmAt tm_shR 13 D cy ad A) A) args s 0 0 A) 2 D cy tm_shR ad 13 [] A z 37 [(0, .ref (ad 0)), (1, .int x1)] [] v (f_X8_putsNumber_37 x1 v) := by
  unfold f_X8_putsNumber_37
  refine tg_aload_n 0 C0 dX8_putsNumber_37 rfl rfl ?_
  refine tg_bipush (x := 48) C0 dX8_putsNumber_38 (by decide) ?_
  refine tg_iload_n 1 C0 dX8_putsNumber_40 rfl rfl ?_
  refine tg_bipush (x := 10) C0 dX8_putsNumber_41 (by decide) ?_
  refine tg_irem C0 dX8_putsNumber_43 (fun _ => ?_)
  refine tg_iadd C0 dX8_putsNumber_44 ?_
  refine tg_callVv (As := [.int (48 + (x1 - x1 / 10 * 10))]) 0 1 C0 dX8_putsNumber_45 (c_X8_prints l (48 + (x1 - x1 / 10 * 10)) v) rfl rfl (by decide) rfl rfl (tm_gV tl_X8_297 ti_X8_prints ts_X8_prints tn_X8 tc_X8_prints)  rfl rfl rfl rfl (by decide +kernel) ⟨by decide, by decide⟩ (Nat.le_of_ble_eq_true rfl) ⟨by decide, by decide⟩ (fun v1 _ => ?_)
  exact tg_vret C0 dX8_putsNumber_48
def f_X8_putsNumber_17 (x1 : Int32) (v : tmM) : Option (Unit × tmM) := (if x1 ≤ 9 then f_X8_putsNumber_37 x1 v else tm_g (decide (¬ 10 = 0)) (tm_g (decide (¬ 10 = 0)) (tm_cl (f_X8_prints (48 + ((x1 / 10) - (x1 / 10) / 10 * 10)) v) fun _ v3 => f_X8_putsNumber_37 x1 v3)))
set_option maxRecDepth 100000 in
set_option maxHeartbeats 4000000 in
theorem w_X8_putsNumber_17 {p : Program} {l : Launch} {e : Env} {s : State} {m : MethodId} {args : Array Value} {below : List Frame} {meth : Method} {c : Code} {D : va_G} {cy : Nat → ClassId} {ad : Nat → Nat} {A : Nat → Prop} {z : (Unit × tmM)} (C0 : tmC p s m args meth c cX8_putsNumber 2 none RX8 TMW tm_NWR D cy tm_shR ad 13 [] A) (x1 : Int32) (v : tmM) : tmG p l e ({ frames := 1, cells := 0, slots := 0, locals := 21 } : Room) s m args below meth c 0 0 (MQ below (va_Qv (fun u => z = ((), u)) (tmAt tm_shR 13 D cy ad A) A) args s 0 0 A) 2 D cy tm_shR ad 13 [] A z 17 [(0, .ref (ad 0)), (1, .int x1)] [] v (f_X8_putsNumber_17 x1 v) := by
  unfold f_X8_putsNumber_17
  refine tg_iload_n 1 C0 dX8_putsNumber_17 rfl rfl ?_
  refine tg_bipush (x := 9) C0 dX8_putsNumber_18 (by decide) ?_
  refine tg_icmp_le 37 C0 dX8_putsNumber_20 (by decide) (fun _ => ?_) (fun _ => ?_)
  · exact w_X8_putsNumber_37 C0 x1 v
  · refine tg_aload_n 0 C0 dX8_putsNumber_23 rfl rfl ?_
    refine tg_bipush (x := 48) C0 dX8_putsNumber_24 (by decide) ?_
    refine tg_iload_n 1 C0 dX8_putsNumber_26 rfl rfl ?_
    refine tg_bipush (x := 10) C0 dX8_putsNumber_27 (by decide) ?_
    refine tg_idiv C0 dX8_putsNumber_29 (fun _ => ?_)
    refine tg_bipush (x := 10) C0 dX8_putsNumber_30 (by decide) ?_
    refine tg_irem C0 dX8_putsNumber_32 (fun _ => ?_)
    refine tg_iadd C0 dX8_putsNumber_33 ?_
    refine tg_callVv (As := [.int (48 + ((x1 / 10) - (x1 / 10) / 10 * 10))]) 0 1 C0 dX8_putsNumber_34 (c_X8_prints l (48 + ((x1 / 10) - (x1 / 10) / 10 * 10)) v) rfl rfl (by decide) rfl rfl (tm_gV tl_X8_297 ti_X8_prints ts_X8_prints tn_X8 tc_X8_prints)  rfl rfl rfl rfl (by decide +kernel) ⟨by decide, by decide⟩ (Nat.le_of_ble_eq_true rfl) ⟨by decide, by decide⟩ (fun v3 _ => ?_)
    exact w_X8_putsNumber_37 C0 x1 v3
def f_X8_putsNumber (x1 : Int32) (v : tmM) : Option (Unit × tmM) := (if x1 ≤ 99 then f_X8_putsNumber_17 x1 v else tm_g (decide (¬ 100 = 0)) (tm_cl (f_X8_prints (48 + (x1 / 100)) v) fun _ v5 => f_X8_putsNumber_17 x1 v5))
set_option maxRecDepth 100000 in
set_option maxHeartbeats 4000000 in
theorem w_X8_putsNumber {p : Program} {l : Launch} {e : Env} {s : State} {m : MethodId} {args : Array Value} {below : List Frame} {meth : Method} {c : Code} {D : va_G} {cy : Nat → ClassId} {ad : Nat → Nat} {A : Nat → Prop} {z : (Unit × tmM)} (C0 : tmC p s m args meth c cX8_putsNumber 2 none RX8 TMW tm_NWR D cy tm_shR ad 13 [] A) (x1 : Int32) (v : tmM) : tmG p l e ({ frames := 1, cells := 0, slots := 0, locals := 21 } : Room) s m args below meth c 0 0 (MQ below (va_Qv (fun u => z = ((), u)) (tmAt tm_shR 13 D cy ad A) A) args s 0 0 A) 2 D cy tm_shR ad 13 [] A z 0 [(0, .ref (ad 0)), (1, .int x1)] [] v (f_X8_putsNumber x1 v) := by
  unfold f_X8_putsNumber
  refine tg_iload_n 1 C0 dX8_putsNumber_0 rfl rfl ?_
  refine tg_bipush (x := 99) C0 dX8_putsNumber_1 (by decide) ?_
  refine tg_icmp_le 17 C0 dX8_putsNumber_3 (by decide) (fun _ => ?_) (fun _ => ?_)
  · exact w_X8_putsNumber_17 C0 x1 v
  · refine tg_aload_n 0 C0 dX8_putsNumber_6 rfl rfl ?_
    refine tg_bipush (x := 48) C0 dX8_putsNumber_7 (by decide) ?_
    refine tg_iload_n 1 C0 dX8_putsNumber_9 rfl rfl ?_
    refine tg_bipush (x := 100) C0 dX8_putsNumber_10 (by decide) ?_
    refine tg_idiv C0 dX8_putsNumber_12 (fun _ => ?_)
    refine tg_iadd C0 dX8_putsNumber_13 ?_
    refine tg_callVv (As := [.int (48 + (x1 / 100))]) 0 1 C0 dX8_putsNumber_14 (c_X8_prints l (48 + (x1 / 100)) v) rfl rfl (by decide) rfl rfl (tm_gV tl_X8_297 ti_X8_prints ts_X8_prints tn_X8 tc_X8_prints)  rfl rfl rfl rfl (by decide +kernel) ⟨by decide, by decide⟩ (Nat.le_of_ble_eq_true rfl) ⟨by decide, by decide⟩ (fun v5 _ => ?_)
    exact w_X8_putsNumber_17 C0 x1 v5
theorem c_X8_putsNumber (l : Launch) (x1 : Int32) (v : tmM) : tmMv tm_NWR tm_shR 13 l yX8_putsNumber (Cond.code yX8_putsNumber cX8_putsNumber 2 none :: TMW) ({ frames := 1, cells := 0, slots := 0, locals := 21 } : Room) (fun ad => [.ref (ad 0), .int x1]) v (f_X8_putsNumber x1 v) :=
  tmMv.of (cc := cX8_putsNumber) (nL := 2) (by decide +kernel) rfl tm_NWR_ok (fun _ => Nat.le_of_ble_eq_true rfl) (fun p e s m args below meth c A D cy ad z C0 => w_X8_putsNumber C0 x1 v)
-- ----- X8_putsValue
theorem dX8_putsValue_0 : decode cX8_putsValue 0 = .ok (.iload_n 1, 1) := by decide +kernel
theorem dX8_putsValue_1 : decode cX8_putsValue 1 = .ok (.ifCond .ge 22, 3) := by decide +kernel
theorem dX8_putsValue_4 : decode cX8_putsValue 4 = .ok (.aload_n 0, 1) := by decide +kernel
theorem dX8_putsValue_5 : decode cX8_putsValue 5 = .ok (.iload_n 1, 1) := by decide +kernel
theorem dX8_putsValue_6 : decode cX8_putsValue 6 = .ok (.iconst (-1), 1) := by decide +kernel
theorem dX8_putsValue_7 : decode cX8_putsValue 7 = .ok (.if_icmp .ne 8, 3) := by decide +kernel
theorem dX8_putsValue_10 : decode cX8_putsValue 10 = .ok (.bipush 45, 2) := by decide +kernel
theorem dX8_putsValue_12 : decode cX8_putsValue 12 = .ok (.goto 5, 3) := by decide +kernel
theorem dX8_putsValue_15 : decode cX8_putsValue 15 = .ok (.bipush 63, 2) := by decide +kernel
theorem dX8_putsValue_17 : decode cX8_putsValue 17 = .ok (.invokevirtual 297, 3) := by decide +kernel
theorem dX8_putsValue_20 : decode cX8_putsValue 20 = .ok (.goto 8, 3) := by decide +kernel
theorem dX8_putsValue_23 : decode cX8_putsValue 23 = .ok (.aload_n 0, 1) := by decide +kernel
theorem dX8_putsValue_24 : decode cX8_putsValue 24 = .ok (.iload_n 1, 1) := by decide +kernel
theorem dX8_putsValue_25 : decode cX8_putsValue 25 = .ok (.invokevirtual 300, 3) := by decide +kernel
theorem dX8_putsValue_28 : decode cX8_putsValue 28 = .ok (.return_, 1) := by decide +kernel
theorem tl_X8_300 : Cond.methodLink RX8 300 yX8_putsNumber ∈ TMW := tm_in 2057 (by decide +kernel) (by decide +kernel)
theorem ti_X8_putsNumber : Cond.instanceMethod yX8_putsNumber ∈ TMW := tm_in 2059 (by decide +kernel) (by decide +kernel)
theorem ts_X8_putsNumber : Cond.selects RX8 yX8_putsNumber yX8_putsNumber ∈ TMW := tm_in 94 (by decide +kernel) (by decide +kernel)
theorem tc_X8_putsNumber : Cond.code yX8_putsNumber cX8_putsNumber 2 none ∈ TMW := tm_in 2060 (by decide +kernel) (by decide +kernel)
def f_X8_putsValue_17 (s0 : Int32) (v : tmM) : Option (Unit × tmM) := tm_cl (f_X8_prints s0 v) fun _ v3 => some ((), v3)
set_option maxRecDepth 100000 in
set_option maxHeartbeats 4000000 in
theorem w_X8_putsValue_17 {p : Program} {l : Launch} {e : Env} {s : State} {m : MethodId} {args : Array Value} {below : List Frame} {meth : Method} {c : Code} {D : va_G} {cy : Nat → ClassId} {ad : Nat → Nat} {A : Nat → Prop} {z : (Unit × tmM)} (C0 : tmC p s m args meth c cX8_putsValue 2 none RX8 TMW tm_NWR D cy tm_shR ad 13 [] A) (s0 : Int32) (v : tmM) : tmG p l e ({ frames := 2, cells := 0, slots := 0, locals := 42 } : Room) s m args below meth c 0 0 (MQ below (va_Qv (fun u => z = ((), u)) (tmAt tm_shR 13 D cy ad A) A) args s 0 0 A) 2 D cy tm_shR ad 13 [] A z 17 [] [.int s0, .ref (ad 0)] v (f_X8_putsValue_17 s0 v) := by
  unfold f_X8_putsValue_17
  refine tg_callVv (As := [.int s0]) 0 1 C0 dX8_putsValue_17 (c_X8_prints l s0 v) rfl rfl (by decide) rfl rfl (tm_gV tl_X8_297 ti_X8_prints ts_X8_prints tn_X8 tc_X8_prints)  rfl rfl rfl rfl (by decide +kernel) ⟨by decide, by decide⟩ (Nat.le_of_ble_eq_true rfl) ⟨by decide, by decide⟩ (fun v3 _ => ?_)
  refine tg_goto 28 C0 dX8_putsValue_20 (by decide) ?_
  exact tg_vret C0 dX8_putsValue_28
def f_X8_putsValue (x1 : Int32) (v : tmM) : Option (Unit × tmM) := (if 0 ≤ x1 then tm_cl (f_X8_putsNumber x1 v) fun _ v1 => some ((), v1) else (if x1 = (-1) then f_X8_putsValue_17 45 v else f_X8_putsValue_17 63 v))
set_option maxRecDepth 100000 in
set_option maxHeartbeats 4000000 in
theorem w_X8_putsValue {p : Program} {l : Launch} {e : Env} {s : State} {m : MethodId} {args : Array Value} {below : List Frame} {meth : Method} {c : Code} {D : va_G} {cy : Nat → ClassId} {ad : Nat → Nat} {A : Nat → Prop} {z : (Unit × tmM)} (C0 : tmC p s m args meth c cX8_putsValue 2 none RX8 TMW tm_NWR D cy tm_shR ad 13 [] A) (x1 : Int32) (v : tmM) : tmG p l e ({ frames := 2, cells := 0, slots := 0, locals := 42 } : Room) s m args below meth c 0 0 (MQ below (va_Qv (fun u => z = ((), u)) (tmAt tm_shR 13 D cy ad A) A) args s 0 0 A) 2 D cy tm_shR ad 13 [] A z 0 [(0, .ref (ad 0)), (1, .int x1)] [] v (f_X8_putsValue x1 v) := by
  unfold f_X8_putsValue
  refine tg_iload_n 1 C0 dX8_putsValue_0 rfl rfl ?_
  refine tg_if_ge 23 C0 dX8_putsValue_1 (by decide) (fun _ => ?_) (fun _ => ?_)
  · refine tg_aload_n 0 C0 dX8_putsValue_23 rfl rfl ?_
    refine tg_iload_n 1 C0 dX8_putsValue_24 rfl rfl ?_
    refine tg_callVv (As := [.int x1]) 0 1 C0 dX8_putsValue_25 (c_X8_putsNumber l x1 v) rfl rfl (by decide) rfl rfl (tm_gV tl_X8_300 ti_X8_putsNumber ts_X8_putsNumber tn_X8 tc_X8_putsNumber)  rfl rfl rfl rfl (by decide +kernel) ⟨by decide, by decide⟩ (Nat.le_of_ble_eq_true rfl) ⟨by decide, by decide⟩ (fun v1 _ => ?_)
    exact tg_vret C0 dX8_putsValue_28
  · refine tg_aload_n 0 C0 dX8_putsValue_4 rfl rfl ?_
    refine tg_iload_n 1 C0 dX8_putsValue_5 rfl rfl ?_
    refine tg_iconst (x := (-1)) C0 dX8_putsValue_6 (by decide) ?_
    refine tg_icmp_ne 15 C0 dX8_putsValue_7 (by decide) (fun _ => ?_) (fun _ => ?_)
    · refine tg_bipush (x := 63) C0 dX8_putsValue_15 (by decide) ?_
      refine tg_sub [] rfl ?_
      exact w_X8_putsValue_17 C0 63 v
    · refine tg_bipush (x := 45) C0 dX8_putsValue_10 (by decide) ?_
      refine tg_goto 17 C0 dX8_putsValue_12 (by decide) ?_
      refine tg_sub [] rfl ?_
      exact w_X8_putsValue_17 C0 45 v
theorem c_X8_putsValue (l : Launch) (x1 : Int32) (v : tmM) : tmMv tm_NWR tm_shR 13 l yX8_putsValue (Cond.code yX8_putsValue cX8_putsValue 2 none :: TMW) ({ frames := 2, cells := 0, slots := 0, locals := 42 } : Room) (fun ad => [.ref (ad 0), .int x1]) v (f_X8_putsValue x1 v) :=
  tmMv.of (cc := cX8_putsValue) (nL := 2) (by decide +kernel) rfl tm_NWR_ok (fun _ => Nat.le_of_ble_eq_true rfl) (fun p e s m args below meth c A D cy ad z C0 => w_X8_putsValue C0 x1 v)
-- ----- X8_write
theorem dX8_write_0 : decode cX8_write 0 = .ok (.aload_n 0, 1) := by decide +kernel
theorem dX8_write_1 : decode cX8_write 1 = .ok (.iload_n 1, 1) := by decide +kernel
theorem dX8_write_2 : decode cX8_write 2 = .ok (.invokestatic 131, 3) := by decide +kernel
theorem dX8_write_5 : decode cX8_write 5 = .ok (.ifCond .eq 7, 3) := by decide +kernel
theorem dX8_write_8 : decode cX8_write 8 = .ok (.iconst 0, 1) := by decide +kernel
theorem dX8_write_9 : decode cX8_write 9 = .ok (.goto 4, 3) := by decide +kernel
theorem dX8_write_12 : decode cX8_write 12 = .ok (.iconst 1, 1) := by decide +kernel
theorem dX8_write_13 : decode cX8_write 13 = .ok (.putfield 56, 3) := by decide +kernel
theorem dX8_write_16 : decode cX8_write 16 = .ok (.aload_n 0, 1) := by decide +kernel
theorem dX8_write_17 : decode cX8_write 17 = .ok (.getfield 56, 3) := by decide +kernel
theorem dX8_write_20 : decode cX8_write 20 = .ok (.ifCond .le 5, 3) := by decide +kernel
theorem dX8_write_23 : decode cX8_write 23 = .ok (.iconst 0, 1) := by decide +kernel
theorem dX8_write_24 : decode cX8_write 24 = .ok (.ireturn, 1) := by decide +kernel
theorem dX8_write_25 : decode cX8_write 25 = .ok (.aload_n 0, 1) := by decide +kernel
theorem dX8_write_26 : decode cX8_write 26 = .ok (.iconst 0, 1) := by decide +kernel
theorem dX8_write_27 : decode cX8_write 27 = .ok (.putfield 294, 3) := by decide +kernel
theorem dX8_write_30 : decode cX8_write 30 = .ok (.aload_n 0, 1) := by decide +kernel
theorem dX8_write_31 : decode cX8_write 31 = .ok (.iload_n 1, 1) := by decide +kernel
theorem dX8_write_32 : decode cX8_write 32 = .ok (.invokevirtual 300, 3) := by decide +kernel
theorem dX8_write_35 : decode cX8_write 35 = .ok (.aload_n 0, 1) := by decide +kernel
theorem dX8_write_36 : decode cX8_write 36 = .ok (.iconst 0, 1) := by decide +kernel
theorem dX8_write_37 : decode cX8_write 37 = .ok (.aload_n 0, 1) := by decide +kernel
theorem dX8_write_38 : decode cX8_write 38 = .ok (.getfield 7, 3) := by decide +kernel
theorem dX8_write_41 : decode cX8_write 41 = .ok (.iconst 3, 1) := by decide +kernel
theorem dX8_write_42 : decode cX8_write 42 = .ok (.iaload, 1) := by decide +kernel
theorem dX8_write_43 : decode cX8_write 43 = .ok (.iload_n 1, 1) := by decide +kernel
theorem dX8_write_44 : decode cX8_write 44 = .ok (.invokestatic 59, 3) := by decide +kernel
theorem dX8_write_47 : decode cX8_write 47 = .ok (.ifCond .eq 8, 3) := by decide +kernel
theorem dX8_write_50 : decode cX8_write 50 = .ok (.bipush 7, 2) := by decide +kernel
theorem dX8_write_52 : decode cX8_write 52 = .ok (.goto 4, 3) := by decide +kernel
theorem dX8_write_55 : decode cX8_write 55 = .ok (.iconst 0, 1) := by decide +kernel
theorem dX8_write_56 : decode cX8_write 56 = .ok (.invokevirtual 303, 3) := by decide +kernel
theorem dX8_write_59 : decode cX8_write 59 = .ok (.aload_n 0, 1) := by decide +kernel
theorem dX8_write_60 : decode cX8_write 60 = .ok (.bipush 7, 2) := by decide +kernel
theorem dX8_write_62 : decode cX8_write 62 = .ok (.aload_n 0, 1) := by decide +kernel
theorem dX8_write_63 : decode cX8_write 63 = .ok (.getfield 7, 3) := by decide +kernel
theorem dX8_write_66 : decode cX8_write 66 = .ok (.iconst 4, 1) := by decide +kernel
theorem dX8_write_67 : decode cX8_write 67 = .ok (.iaload, 1) := by decide +kernel
theorem dX8_write_68 : decode cX8_write 68 = .ok (.iload_n 1, 1) := by decide +kernel
theorem dX8_write_69 : decode cX8_write 69 = .ok (.invokestatic 59, 3) := by decide +kernel
theorem dX8_write_72 : decode cX8_write 72 = .ok (.ifCond .eq 8, 3) := by decide +kernel
theorem dX8_write_75 : decode cX8_write 75 = .ok (.bipush 15, 2) := by decide +kernel
theorem dX8_write_77 : decode cX8_write 77 = .ok (.goto 5, 3) := by decide +kernel
theorem dX8_write_80 : decode cX8_write 80 = .ok (.bipush 7, 2) := by decide +kernel
theorem dX8_write_82 : decode cX8_write 82 = .ok (.invokevirtual 303, 3) := by decide +kernel
theorem dX8_write_85 : decode cX8_write 85 = .ok (.iconst 4, 1) := by decide +kernel
theorem dX8_write_86 : decode cX8_write 86 = .ok (.iload_n 1, 1) := by decide +kernel
theorem dX8_write_87 : decode cX8_write 87 = .ok (.imul, 1) := by decide +kernel
theorem dX8_write_88 : decode cX8_write 88 = .ok (.istore_n 2, 1) := by decide +kernel
theorem dX8_write_89 : decode cX8_write 89 = .ok (.iload_n 2, 1) := by decide +kernel
theorem dX8_write_90 : decode cX8_write 90 = .ok (.iconst 4, 1) := by decide +kernel
theorem dX8_write_91 : decode cX8_write 91 = .ok (.iload_n 1, 1) := by decide +kernel
theorem dX8_write_92 : decode cX8_write 92 = .ok (.imul, 1) := by decide +kernel
theorem dX8_write_93 : decode cX8_write 93 = .ok (.iconst 4, 1) := by decide +kernel
theorem dX8_write_94 : decode cX8_write 94 = .ok (.iadd, 1) := by decide +kernel
theorem dX8_write_95 : decode cX8_write 95 = .ok (.if_icmp .ge 78, 3) := by decide +kernel
theorem dX8_write_98 : decode cX8_write 98 = .ok (.aload_n 0, 1) := by decide +kernel
theorem dX8_write_99 : decode cX8_write 99 = .ok (.iload_n 2, 1) := by decide +kernel
theorem dX8_write_100 : decode cX8_write 100 = .ok (.invokevirtual 291, 3) := by decide +kernel
theorem dX8_write_103 : decode cX8_write 103 = .ok (.ifCond .ne 6, 3) := by decide +kernel
theorem dX8_write_106 : decode cX8_write 106 = .ok (.goto 61, 3) := by decide +kernel
theorem dX8_write_109 : decode cX8_write 109 = .ok (.aload_n 0, 1) := by decide +kernel
theorem dX8_write_110 : decode cX8_write 110 = .ok (.bipush 32, 2) := by decide +kernel
theorem dX8_write_112 : decode cX8_write 112 = .ok (.invokevirtual 297, 3) := by decide +kernel
theorem dX8_write_115 : decode cX8_write 115 = .ok (.aload_n 0, 1) := by decide +kernel
theorem dX8_write_116 : decode cX8_write 116 = .ok (.iload_n 2, 1) := by decide +kernel
theorem dX8_write_117 : decode cX8_write 117 = .ok (.invokevirtual 300, 3) := by decide +kernel
theorem dX8_write_120 : decode cX8_write 120 = .ok (.aload_n 0, 1) := by decide +kernel
theorem dX8_write_121 : decode cX8_write 121 = .ok (.bipush 58, 2) := by decide +kernel
theorem dX8_write_123 : decode cX8_write 123 = .ok (.invokevirtual 297, 3) := by decide +kernel
theorem dX8_write_126 : decode cX8_write 126 = .ok (.aload_n 0, 1) := by decide +kernel
theorem dX8_write_127 : decode cX8_write 127 = .ok (.aload_n 0, 1) := by decide +kernel
theorem dX8_write_128 : decode cX8_write 128 = .ok (.iconst 0, 1) := by decide +kernel
theorem dX8_write_129 : decode cX8_write 129 = .ok (.iload_n 2, 1) := by decide +kernel
theorem dX8_write_130 : decode cX8_write 130 = .ok (.invokevirtual 74, 3) := by decide +kernel
theorem dX8_write_133 : decode cX8_write 133 = .ok (.invokevirtual 306, 3) := by decide +kernel
theorem dX8_write_136 : decode cX8_write 136 = .ok (.aload_n 0, 1) := by decide +kernel
theorem dX8_write_137 : decode cX8_write 137 = .ok (.bipush 47, 2) := by decide +kernel
theorem dX8_write_139 : decode cX8_write 139 = .ok (.invokevirtual 297, 3) := by decide +kernel
theorem dX8_write_142 : decode cX8_write 142 = .ok (.aload_n 0, 1) := by decide +kernel
theorem dX8_write_143 : decode cX8_write 143 = .ok (.aload_n 0, 1) := by decide +kernel
theorem dX8_write_144 : decode cX8_write 144 = .ok (.iconst 1, 1) := by decide +kernel
theorem dX8_write_145 : decode cX8_write 145 = .ok (.iload_n 2, 1) := by decide +kernel
theorem dX8_write_146 : decode cX8_write 146 = .ok (.invokevirtual 74, 3) := by decide +kernel
theorem dX8_write_149 : decode cX8_write 149 = .ok (.invokevirtual 306, 3) := by decide +kernel
theorem dX8_write_152 : decode cX8_write 152 = .ok (.aload_n 0, 1) := by decide +kernel
theorem dX8_write_153 : decode cX8_write 153 = .ok (.iload_n 2, 1) := by decide +kernel
theorem dX8_write_154 : decode cX8_write 154 = .ok (.invokevirtual 82, 3) := by decide +kernel
theorem dX8_write_157 : decode cX8_write 157 = .ok (.iconst (-1), 1) := by decide +kernel
theorem dX8_write_158 : decode cX8_write 158 = .ok (.if_icmp .eq 9, 3) := by decide +kernel
theorem dX8_write_161 : decode cX8_write 161 = .ok (.aload_n 0, 1) := by decide +kernel
theorem dX8_write_162 : decode cX8_write 162 = .ok (.bipush 33, 2) := by decide +kernel
theorem dX8_write_164 : decode cX8_write 164 = .ok (.invokevirtual 297, 3) := by decide +kernel
theorem dX8_write_167 : decode cX8_write 167 = .ok (.iinc 2 1, 3) := by decide +kernel
theorem dX8_write_170 : decode cX8_write 170 = .ok (.goto (-81), 3) := by decide +kernel
theorem dX8_write_173 : decode cX8_write 173 = .ok (.aload_n 0, 1) := by decide +kernel
theorem dX8_write_174 : decode cX8_write 174 = .ok (.getfield 294, 3) := by decide +kernel
theorem dX8_write_177 : decode cX8_write 177 = .ok (.ireturn, 1) := by decide +kernel
theorem tl_X8_303 : Cond.methodLink RX8 303 yX8_putsSigns ∈ TMW := tm_in 2065 (by decide +kernel) (by decide +kernel)
theorem ti_X8_putsSigns : Cond.instanceMethod yX8_putsSigns ∈ TMW := tm_in 2067 (by decide +kernel) (by decide +kernel)
theorem ts_X8_putsSigns : Cond.selects RX8 yX8_putsSigns yX8_putsSigns ∈ TMW := tm_in 96 (by decide +kernel) (by decide +kernel)
theorem tc_X8_putsSigns : Cond.code yX8_putsSigns cX8_putsSigns 4 none ∈ TMW := tm_in 2068 (by decide +kernel) (by decide +kernel)
theorem tl_X8_291 : Cond.methodLink RX8 291 yX8_hasKey ∈ TMW := tm_in 2033 (by decide +kernel) (by decide +kernel)
theorem ti_X8_hasKey : Cond.instanceMethod yX8_hasKey ∈ TMW := tm_in 2035 (by decide +kernel) (by decide +kernel)
theorem ts_X8_hasKey : Cond.selects RX8 yX8_hasKey yX8_hasKey ∈ TMW := tm_in 93 (by decide +kernel) (by decide +kernel)
theorem tc_X8_hasKey : Cond.code yX8_hasKey cX8_hasKey 2 (some .boolean) ∈ TMW := tm_in 2036 (by decide +kernel) (by decide +kernel)
theorem tl_X8_306 : Cond.methodLink RX8 306 yX8_putsValue ∈ TMW := tm_in 2069 (by decide +kernel) (by decide +kernel)
theorem ti_X8_putsValue : Cond.instanceMethod yX8_putsValue ∈ TMW := tm_in 2071 (by decide +kernel) (by decide +kernel)
theorem ts_X8_putsValue : Cond.selects RX8 yX8_putsValue yX8_putsValue ∈ TMW := tm_in 97 (by decide +kernel) (by decide +kernel)
theorem tc_X8_putsValue : Cond.code yX8_putsValue cX8_putsValue 2 none ∈ TMW := tm_in 2072 (by decide +kernel) (by decide +kernel)
def f_X8_write_167 (K0 : tmM → Option (Int32 × tmM)) (L : Int32 → Int32 → tmM → Option (Int32 × tmM)) (x1 x2 : Int32) (v : tmM) : Option (Int32 × tmM) := L x1 (x2 + 1) v
set_option maxRecDepth 100000 in
set_option maxHeartbeats 4000000 in
theorem w_X8_write_167 {p : Program} {l : Launch} {e : Env} {s : State} {m : MethodId} {args : Array Value} {below : List Frame} {meth : Method} {c : Code} {D : va_G} {cy : Nat → ClassId} {ad : Nat → Nat} {A : Nat → Prop} {z : (Int32 × tmM)} {K0 : tmM → Option (Int32 × tmM)} {L : Int32 → Int32 → tmM → Option (Int32 × tmM)} (C0 : tmC p s m args meth c cX8_write 3 (some .int) RX8 TMW tm_NWR D cy tm_shR ad 13 [] A) (hK0 : ∀ (w : tmM), tmG p l e ({ frames := 3, cells := 0, slots := 0, locals := 67 } : Room) s m args below meth c 0 0 (MQ below (va_Qi (fun r u => z = (r, u)) (tmAt tm_shR 13 D cy ad A) A) args s 0 0 A) 3 D cy tm_shR ad 13 [] A z 173 [(0, .ref (ad 0))] [] w (K0 w)) (hL : ∀ (a1 a2 : Int32) (w : tmM), tmG p l e ({ frames := 3, cells := 0, slots := 0, locals := 67 } : Room) s m args below meth c 0 0 (MQ below (va_Qi (fun r u => z = (r, u)) (tmAt tm_shR 13 D cy ad A) A) args s 0 0 A) 3 D cy tm_shR ad 13 [] A z 89 [(0, .ref (ad 0)), (1, .int a1), (2, .int a2)] [] w (L a1 a2 w)) (x1 x2 : Int32) (v : tmM) : tmG p l e ({ frames := 3, cells := 0, slots := 0, locals := 67 } : Room) s m args below meth c 0 0 (MQ below (va_Qi (fun r u => z = (r, u)) (tmAt tm_shR 13 D cy ad A) A) args s 0 0 A) 3 D cy tm_shR ad 13 [] A z 167 [(0, .ref (ad 0)), (1, .int x1), (2, .int x2)] [] v (f_X8_write_167 K0 L x1 x2 v) := by
  unfold f_X8_write_167
  refine tg_iinc [(2, .int (x2 + 1)), (0, .ref (ad 0)), (1, .int x1)] 2 C0 dX8_write_167 rfl rfl (by decide) rfl ?_
  refine tg_goto 89 C0 dX8_write_170 (by decide) ?_
  refine tg_sub [1, 2, 0] rfl ?_
  exact hL x1 (x2 + 1) v
def f_X8_write_89b (K0 : tmM → Option (Int32 × tmM)) (L : Int32 → Int32 → tmM → Option (Int32 × tmM)) (x1 x2 : Int32) (v : tmM) : Option (Int32 × tmM) := (if ((4 * x1) + 4) ≤ x2 then K0 v else tm_cl (f_X8_hasKey x2 v) fun r17 v16 => (if r17 = 0 then f_X8_write_167 K0 L x1 x2 v16 else tm_cl (f_X8_prints 32 v16) fun _ v18 => tm_cl (f_X8_putsNumber x2 v18) fun _ v20 => tm_cl (f_X8_prints 58 v20) fun _ v22 => tm_cl (f_X8_valueIn 0 x2 v22) fun r25 v24 => tm_cl (f_X8_putsValue r25 v24) fun _ v26 => tm_cl (f_X8_prints 47 v26) fun _ v28 => tm_cl (f_X8_valueIn 1 x2 v28) fun r31 v30 => tm_cl (f_X8_putsValue r31 v30) fun _ v32 => tm_cl (f_X8_placeOf x2 v32) fun r35 v34 => (if r35 = (-1) then f_X8_write_167 K0 L x1 x2 v34 else tm_cl (f_X8_prints 33 v34) fun _ v36 => f_X8_write_167 K0 L x1 x2 v36)))
set_option maxRecDepth 100000 in
set_option maxHeartbeats 4000000 in
theorem w_X8_write_89b {p : Program} {l : Launch} {e : Env} {s : State} {m : MethodId} {args : Array Value} {below : List Frame} {meth : Method} {c : Code} {D : va_G} {cy : Nat → ClassId} {ad : Nat → Nat} {A : Nat → Prop} {z : (Int32 × tmM)} {K0 : tmM → Option (Int32 × tmM)} {L : Int32 → Int32 → tmM → Option (Int32 × tmM)} (C0 : tmC p s m args meth c cX8_write 3 (some .int) RX8 TMW tm_NWR D cy tm_shR ad 13 [] A) (hK0 : ∀ (w : tmM), tmG p l e ({ frames := 3, cells := 0, slots := 0, locals := 67 } : Room) s m args below meth c 0 0 (MQ below (va_Qi (fun r u => z = (r, u)) (tmAt tm_shR 13 D cy ad A) A) args s 0 0 A) 3 D cy tm_shR ad 13 [] A z 173 [(0, .ref (ad 0))] [] w (K0 w)) (hL : ∀ (a1 a2 : Int32) (w : tmM), tmG p l e ({ frames := 3, cells := 0, slots := 0, locals := 67 } : Room) s m args below meth c 0 0 (MQ below (va_Qi (fun r u => z = (r, u)) (tmAt tm_shR 13 D cy ad A) A) args s 0 0 A) 3 D cy tm_shR ad 13 [] A z 89 [(0, .ref (ad 0)), (1, .int a1), (2, .int a2)] [] w (L a1 a2 w)) (x1 x2 : Int32) (v : tmM) : tmG p l e ({ frames := 3, cells := 0, slots := 0, locals := 67 } : Room) s m args below meth c 0 0 (MQ below (va_Qi (fun r u => z = (r, u)) (tmAt tm_shR 13 D cy ad A) A) args s 0 0 A) 3 D cy tm_shR ad 13 [] A z 89 [(0, .ref (ad 0)), (1, .int x1), (2, .int x2)] [] v (f_X8_write_89b K0 L x1 x2 v) := by
  unfold f_X8_write_89b
  refine tg_iload_n 2 C0 dX8_write_89 rfl rfl ?_
  refine tg_iconst (x := 4) C0 dX8_write_90 (by decide) ?_
  refine tg_iload_n 1 C0 dX8_write_91 rfl rfl ?_
  refine tg_imul C0 dX8_write_92 ?_
  refine tg_iconst (x := 4) C0 dX8_write_93 (by decide) ?_
  refine tg_iadd C0 dX8_write_94 ?_
  refine tg_icmp_ge 173 C0 dX8_write_95 (by decide) (fun _ => ?_) (fun _ => ?_)
  · refine tg_sub [0] rfl ?_
    exact hK0 v
  · refine tg_aload_n 0 C0 dX8_write_98 rfl rfl ?_
    refine tg_iload_n 2 C0 dX8_write_99 rfl rfl ?_
    refine tg_callVi (As := [.int x2]) 0 1 C0 dX8_write_100 (c_X8_hasKey l x2 v) rfl rfl (by decide) rfl rfl (tm_gV tl_X8_291 ti_X8_hasKey ts_X8_hasKey tn_X8 tc_X8_hasKey)  rfl rfl rfl rfl (by decide +kernel) ⟨by decide, by decide⟩ (Nat.le_of_ble_eq_true rfl) ⟨by decide, by decide⟩ (fun r17 v16 _ => ?_)
    refine tg_if_ne 109 C0 dX8_write_103 (by decide) (fun _ => ?_) (fun _ => ?_)
    · refine tg_aload_n 0 C0 dX8_write_109 rfl rfl ?_
      refine tg_bipush (x := 32) C0 dX8_write_110 (by decide) ?_
      refine tg_callVv (As := [.int 32]) 0 1 C0 dX8_write_112 (c_X8_prints l 32 v16) rfl rfl (by decide) rfl rfl (tm_gV tl_X8_297 ti_X8_prints ts_X8_prints tn_X8 tc_X8_prints)  rfl rfl rfl rfl (by decide +kernel) ⟨by decide, by decide⟩ (Nat.le_of_ble_eq_true rfl) ⟨by decide, by decide⟩ (fun v18 _ => ?_)
      refine tg_aload_n 0 C0 dX8_write_115 rfl rfl ?_
      refine tg_iload_n 2 C0 dX8_write_116 rfl rfl ?_
      refine tg_callVv (As := [.int x2]) 0 1 C0 dX8_write_117 (c_X8_putsNumber l x2 v18) rfl rfl (by decide) rfl rfl (tm_gV tl_X8_300 ti_X8_putsNumber ts_X8_putsNumber tn_X8 tc_X8_putsNumber)  rfl rfl rfl rfl (by decide +kernel) ⟨by decide, by decide⟩ (Nat.le_of_ble_eq_true rfl) ⟨by decide, by decide⟩ (fun v20 _ => ?_)
      refine tg_aload_n 0 C0 dX8_write_120 rfl rfl ?_
      refine tg_bipush (x := 58) C0 dX8_write_121 (by decide) ?_
      refine tg_callVv (As := [.int 58]) 0 1 C0 dX8_write_123 (c_X8_prints l 58 v20) rfl rfl (by decide) rfl rfl (tm_gV tl_X8_297 ti_X8_prints ts_X8_prints tn_X8 tc_X8_prints)  rfl rfl rfl rfl (by decide +kernel) ⟨by decide, by decide⟩ (Nat.le_of_ble_eq_true rfl) ⟨by decide, by decide⟩ (fun v22 _ => ?_)
      refine tg_aload_n 0 C0 dX8_write_126 rfl rfl ?_
      refine tg_aload_n 0 C0 dX8_write_127 rfl rfl ?_
      refine tg_iconst (x := 0) C0 dX8_write_128 (by decide) ?_
      refine tg_iload_n 2 C0 dX8_write_129 rfl rfl ?_
      refine tg_callVi (As := [.int 0, .int x2]) 0 2 C0 dX8_write_130 (c_X8_valueIn l 0 x2 v22) rfl rfl (by decide) rfl rfl (tm_gV tl_X8_74 ti_X8_valueIn ts_X8_valueIn tn_X8 tc_X8_valueIn)  rfl rfl rfl rfl (by decide +kernel) ⟨by decide, by decide⟩ (Nat.le_of_ble_eq_true rfl) ⟨by decide, by decide⟩ (fun r25 v24 _ => ?_)
      refine tg_callVv (As := [.int r25]) 0 1 C0 dX8_write_133 (c_X8_putsValue l r25 v24) rfl rfl (by decide) rfl rfl (tm_gV tl_X8_306 ti_X8_putsValue ts_X8_putsValue tn_X8 tc_X8_putsValue)  rfl rfl rfl rfl (by decide +kernel) ⟨by decide, by decide⟩ (Nat.le_of_ble_eq_true rfl) ⟨by decide, by decide⟩ (fun v26 _ => ?_)
      refine tg_aload_n 0 C0 dX8_write_136 rfl rfl ?_
      refine tg_bipush (x := 47) C0 dX8_write_137 (by decide) ?_
      refine tg_callVv (As := [.int 47]) 0 1 C0 dX8_write_139 (c_X8_prints l 47 v26) rfl rfl (by decide) rfl rfl (tm_gV tl_X8_297 ti_X8_prints ts_X8_prints tn_X8 tc_X8_prints)  rfl rfl rfl rfl (by decide +kernel) ⟨by decide, by decide⟩ (Nat.le_of_ble_eq_true rfl) ⟨by decide, by decide⟩ (fun v28 _ => ?_)
      refine tg_aload_n 0 C0 dX8_write_142 rfl rfl ?_
      refine tg_aload_n 0 C0 dX8_write_143 rfl rfl ?_
      refine tg_iconst (x := 1) C0 dX8_write_144 (by decide) ?_
      refine tg_iload_n 2 C0 dX8_write_145 rfl rfl ?_
      refine tg_callVi (As := [.int 1, .int x2]) 0 2 C0 dX8_write_146 (c_X8_valueIn l 1 x2 v28) rfl rfl (by decide) rfl rfl (tm_gV tl_X8_74 ti_X8_valueIn ts_X8_valueIn tn_X8 tc_X8_valueIn)  rfl rfl rfl rfl (by decide +kernel) ⟨by decide, by decide⟩ (Nat.le_of_ble_eq_true rfl) ⟨by decide, by decide⟩ (fun r31 v30 _ => ?_)
      refine tg_callVv (As := [.int r31]) 0 1 C0 dX8_write_149 (c_X8_putsValue l r31 v30) rfl rfl (by decide) rfl rfl (tm_gV tl_X8_306 ti_X8_putsValue ts_X8_putsValue tn_X8 tc_X8_putsValue)  rfl rfl rfl rfl (by decide +kernel) ⟨by decide, by decide⟩ (Nat.le_of_ble_eq_true rfl) ⟨by decide, by decide⟩ (fun v32 _ => ?_)
      refine tg_aload_n 0 C0 dX8_write_152 rfl rfl ?_
      refine tg_iload_n 2 C0 dX8_write_153 rfl rfl ?_
      refine tg_callVi (As := [.int x2]) 0 1 C0 dX8_write_154 (c_X8_placeOf l x2 v32) rfl rfl (by decide) rfl rfl (tm_gV tl_X8_82 ti_X8_placeOf ts_X8_placeOf tn_X8 tc_X8_placeOf)  rfl rfl rfl rfl (by decide +kernel) ⟨by decide, by decide⟩ (Nat.le_of_ble_eq_true rfl) ⟨by decide, by decide⟩ (fun r35 v34 _ => ?_)
      refine tg_iconst (x := (-1)) C0 dX8_write_157 (by decide) ?_
      refine tg_icmp_eq 167 C0 dX8_write_158 (by decide) (fun _ => ?_) (fun _ => ?_)
      · exact w_X8_write_167 C0 hK0 hL x1 x2 v34
      · refine tg_aload_n 0 C0 dX8_write_161 rfl rfl ?_
        refine tg_bipush (x := 33) C0 dX8_write_162 (by decide) ?_
        refine tg_callVv (As := [.int 33]) 0 1 C0 dX8_write_164 (c_X8_prints l 33 v34) rfl rfl (by decide) rfl rfl (tm_gV tl_X8_297 ti_X8_prints ts_X8_prints tn_X8 tc_X8_prints)  rfl rfl rfl rfl (by decide +kernel) ⟨by decide, by decide⟩ (Nat.le_of_ble_eq_true rfl) ⟨by decide, by decide⟩ (fun v36 _ => ?_)
        exact w_X8_write_167 C0 hK0 hL x1 x2 v36
    · refine tg_goto 167 C0 dX8_write_106 (by decide) ?_
      exact w_X8_write_167 C0 hK0 hL x1 x2 v16
def f_X8_write_89 (K0 : tmM → Option (Int32 × tmM)) : Nat → Int32 → Int32 → tmM → Option (Int32 × tmM)
  | 0 => fun _ _ _ => none
  | n + 1 => f_X8_write_89b K0 (f_X8_write_89 K0 n)
theorem w_X8_write_89 {p : Program} {l : Launch} {e : Env} {s : State} {m : MethodId} {args : Array Value} {below : List Frame} {meth : Method} {c : Code} {D : va_G} {cy : Nat → ClassId} {ad : Nat → Nat} {A : Nat → Prop} {z : (Int32 × tmM)} {K0 : tmM → Option (Int32 × tmM)} (C0 : tmC p s m args meth c cX8_write 3 (some .int) RX8 TMW tm_NWR D cy tm_shR ad 13 [] A) (hK0 : ∀ (w : tmM), tmG p l e ({ frames := 3, cells := 0, slots := 0, locals := 67 } : Room) s m args below meth c 0 0 (MQ below (va_Qi (fun r u => z = (r, u)) (tmAt tm_shR 13 D cy ad A) A) args s 0 0 A) 3 D cy tm_shR ad 13 [] A z 173 [(0, .ref (ad 0))] [] w (K0 w)) (nn : Nat) : ∀ (x1 x2 : Int32) (v : tmM), tmG p l e ({ frames := 3, cells := 0, slots := 0, locals := 67 } : Room) s m args below meth c 0 0 (MQ below (va_Qi (fun r u => z = (r, u)) (tmAt tm_shR 13 D cy ad A) A) args s 0 0 A) 3 D cy tm_shR ad 13 [] A z 89 [(0, .ref (ad 0)), (1, .int x1), (2, .int x2)] [] v (f_X8_write_89 K0 nn x1 x2 v) := by
  induction nn with
  | zero => intro _ _ _; exact tg_none
  | succ n ih => intro x1 x2 v; exact w_X8_write_89b C0 hK0 ih x1 x2 v
def f_X8_write_82 (x1 s0 s1 : Int32) (v : tmM) : Option (Int32 × tmM) := tm_cl (f_X8_putsSigns s1 s0 v) fun _ v13 => tm_lt (4 * x1) fun y15 => f_X8_write_89 (fun v38 => some (v38 0 13, v38)) 10000 x1 y15 v13
set_option maxRecDepth 100000 in
set_option maxHeartbeats 4000000 in
theorem w_X8_write_82 {p : Program} {l : Launch} {e : Env} {s : State} {m : MethodId} {args : Array Value} {below : List Frame} {meth : Method} {c : Code} {D : va_G} {cy : Nat → ClassId} {ad : Nat → Nat} {A : Nat → Prop} {z : (Int32 × tmM)} (C0 : tmC p s m args meth c cX8_write 3 (some .int) RX8 TMW tm_NWR D cy tm_shR ad 13 [] A) (x1 s0 s1 : Int32) (v : tmM) : tmG p l e ({ frames := 3, cells := 0, slots := 0, locals := 67 } : Room) s m args below meth c 0 0 (MQ below (va_Qi (fun r u => z = (r, u)) (tmAt tm_shR 13 D cy ad A) A) args s 0 0 A) 3 D cy tm_shR ad 13 [] A z 82 [(0, .ref (ad 0)), (1, .int x1)] [.int s0, .int s1, .ref (ad 0)] v (f_X8_write_82 x1 s0 s1 v) := by
  unfold f_X8_write_82
  refine tg_callVv (As := [.int s1, .int s0]) 0 2 C0 dX8_write_82 (c_X8_putsSigns l s1 s0 v) rfl rfl (by decide) rfl rfl (tm_gV tl_X8_303 ti_X8_putsSigns ts_X8_putsSigns tn_X8 tc_X8_putsSigns)  rfl rfl rfl rfl (by decide +kernel) ⟨by decide, by decide⟩ (Nat.le_of_ble_eq_true rfl) ⟨by decide, by decide⟩ (fun v13 _ => ?_)
  refine tg_iconst (x := 4) C0 dX8_write_85 (by decide) ?_
  refine tg_iload_n 1 C0 dX8_write_86 rfl rfl ?_
  refine tg_imul C0 dX8_write_87 ?_
  refine tg_leti (fun y15 _ => ?_)
  refine tg_istore_n [(2, .int y15), (0, .ref (ad 0)), (1, .int x1)] C0 dX8_write_88 rfl (by decide) rfl ?_
  refine tg_sub [1, 2, 0] rfl ?_
  refine w_X8_write_89 C0 (fun v38 => ?_) 10000 x1 y15 v13
  refine tg_aload_n 0 C0 dX8_write_173 rfl rfl ?_
  refine tg_get 0 13 C0 dX8_write_174 (by decide) rfl rfl tu_X8 (by decide) tf_X8_294 rfl rfl rfl ?_
  exact tg_iret C0 dX8_write_177
def f_X8_write_56 (x1 s0 s1 : Int32) (v : tmM) : Option (Int32 × tmM) := tm_cl (f_X8_putsSigns s1 s0 v) fun _ v9 => tm_g (tm_ix 4 491) (tm_cl (f_X8_has (v9 1 (4 : Int32).toNatClampNeg) x1 v9) fun r12 v11 => (if r12 = 0 then f_X8_write_82 x1 7 7 v11 else f_X8_write_82 x1 15 7 v11))
set_option maxRecDepth 100000 in
set_option maxHeartbeats 4000000 in
theorem w_X8_write_56 {p : Program} {l : Launch} {e : Env} {s : State} {m : MethodId} {args : Array Value} {below : List Frame} {meth : Method} {c : Code} {D : va_G} {cy : Nat → ClassId} {ad : Nat → Nat} {A : Nat → Prop} {z : (Int32 × tmM)} (C0 : tmC p s m args meth c cX8_write 3 (some .int) RX8 TMW tm_NWR D cy tm_shR ad 13 [] A) (x1 s0 s1 : Int32) (v : tmM) : tmG p l e ({ frames := 3, cells := 0, slots := 0, locals := 67 } : Room) s m args below meth c 0 0 (MQ below (va_Qi (fun r u => z = (r, u)) (tmAt tm_shR 13 D cy ad A) A) args s 0 0 A) 3 D cy tm_shR ad 13 [] A z 56 [(0, .ref (ad 0)), (1, .int x1)] [.int s0, .int s1, .ref (ad 0)] v (f_X8_write_56 x1 s0 s1 v) := by
  unfold f_X8_write_56
  refine tg_callVv (As := [.int s1, .int s0]) 0 2 C0 dX8_write_56 (c_X8_putsSigns l s1 s0 v) rfl rfl (by decide) rfl rfl (tm_gV tl_X8_303 ti_X8_putsSigns ts_X8_putsSigns tn_X8 tc_X8_putsSigns)  rfl rfl rfl rfl (by decide +kernel) ⟨by decide, by decide⟩ (Nat.le_of_ble_eq_true rfl) ⟨by decide, by decide⟩ (fun v9 _ => ?_)
  refine tg_aload_n 0 C0 dX8_write_59 rfl rfl ?_
  refine tg_bipush (x := 7) C0 dX8_write_60 (by decide) ?_
  refine tg_aload_n 0 C0 dX8_write_62 rfl rfl ?_
  refine tg_get 0 1 C0 dX8_write_63 (by decide) rfl rfl tu_X8 (by decide) tf_X8_7 rfl rfl rfl ?_
  refine tg_iconst (x := 4) C0 dX8_write_66 (by decide) ?_
  refine tg_iald 1 C0 dX8_write_67 (by decide) rfl (fun _ => ?_)
  refine tg_iload_n 1 C0 dX8_write_68 rfl rfl ?_
  refine tg_callSi (As := [.int (v9 1 (4 : Int32).toNatClampNeg), .int x1]) 2 C0 dX8_write_69 (c_X8_has l (v9 1 (4 : Int32).toNatClampNeg) x1 v9) rfl rfl (tm_gc tc_X8_has) tl_X8_59 tn_X8 tst_X8_has  rfl rfl rfl rfl (by decide +kernel) ⟨by decide, by decide⟩ (Nat.le_of_ble_eq_true rfl) ⟨by decide, by decide⟩ (fun r12 v11 _ => ?_)
  refine tg_if_eq 80 C0 dX8_write_72 (by decide) (fun _ => ?_) (fun _ => ?_)
  · refine tg_bipush (x := 7) C0 dX8_write_80 (by decide) ?_
    exact w_X8_write_82 C0 x1 7 7 v11
  · refine tg_bipush (x := 15) C0 dX8_write_75 (by decide) ?_
    refine tg_goto 82 C0 dX8_write_77 (by decide) ?_
    exact w_X8_write_82 C0 x1 15 7 v11
def f_X8_write_13 (x1 s0 : Int32) (v : tmM) : Option (Int32 × tmM) := tm_lt (tm_up v 0 0 s0) fun v3 => (if (v3 0 0) ≤ 0 then tm_lt (tm_up v3 0 13 0) fun v4 => tm_cl (f_X8_putsNumber x1 v4) fun _ v5 => tm_g (tm_ix 3 491) (tm_cl (f_X8_has (v5 1 (3 : Int32).toNatClampNeg) x1 v5) fun r8 v7 => (if r8 = 0 then f_X8_write_56 x1 0 0 v7 else f_X8_write_56 x1 7 0 v7)) else some (0, v3))
set_option maxRecDepth 100000 in
set_option maxHeartbeats 4000000 in
theorem w_X8_write_13 {p : Program} {l : Launch} {e : Env} {s : State} {m : MethodId} {args : Array Value} {below : List Frame} {meth : Method} {c : Code} {D : va_G} {cy : Nat → ClassId} {ad : Nat → Nat} {A : Nat → Prop} {z : (Int32 × tmM)} (C0 : tmC p s m args meth c cX8_write 3 (some .int) RX8 TMW tm_NWR D cy tm_shR ad 13 [] A) (x1 s0 : Int32) (v : tmM) : tmG p l e ({ frames := 3, cells := 0, slots := 0, locals := 67 } : Room) s m args below meth c 0 0 (MQ below (va_Qi (fun r u => z = (r, u)) (tmAt tm_shR 13 D cy ad A) A) args s 0 0 A) 3 D cy tm_shR ad 13 [] A z 13 [(0, .ref (ad 0)), (1, .int x1)] [.int s0, .ref (ad 0)] v (f_X8_write_13 x1 s0 v) := by
  unfold f_X8_write_13
  refine tg_put 0 0 C0 dX8_write_13 (by decide) rfl rfl tu_X8 tyX8_ok nmX8 (by decide) tf_X8_56 rfl rfl rfl rfl rfl rfl ?_
  refine tg_letm (fun v3 _ => ?_)
  refine tg_aload_n 0 C0 dX8_write_16 rfl rfl ?_
  refine tg_get 0 0 C0 dX8_write_17 (by decide) rfl rfl tu_X8 (by decide) tf_X8_56 rfl rfl rfl ?_
  refine tg_if_le 25 C0 dX8_write_20 (by decide) (fun _ => ?_) (fun _ => ?_)
  · refine tg_aload_n 0 C0 dX8_write_25 rfl rfl ?_
    refine tg_iconst (x := 0) C0 dX8_write_26 (by decide) ?_
    refine tg_put 0 13 C0 dX8_write_27 (by decide) rfl rfl tu_X8 tyX8_ok nmX8 (by decide) tf_X8_294 rfl rfl rfl rfl rfl rfl ?_
    refine tg_letm (fun v4 _ => ?_)
    refine tg_aload_n 0 C0 dX8_write_30 rfl rfl ?_
    refine tg_iload_n 1 C0 dX8_write_31 rfl rfl ?_
    refine tg_callVv (As := [.int x1]) 0 1 C0 dX8_write_32 (c_X8_putsNumber l x1 v4) rfl rfl (by decide) rfl rfl (tm_gV tl_X8_300 ti_X8_putsNumber ts_X8_putsNumber tn_X8 tc_X8_putsNumber)  rfl rfl rfl rfl (by decide +kernel) ⟨by decide, by decide⟩ (Nat.le_of_ble_eq_true rfl) ⟨by decide, by decide⟩ (fun v5 _ => ?_)
    refine tg_aload_n 0 C0 dX8_write_35 rfl rfl ?_
    refine tg_iconst (x := 0) C0 dX8_write_36 (by decide) ?_
    refine tg_aload_n 0 C0 dX8_write_37 rfl rfl ?_
    refine tg_get 0 1 C0 dX8_write_38 (by decide) rfl rfl tu_X8 (by decide) tf_X8_7 rfl rfl rfl ?_
    refine tg_iconst (x := 3) C0 dX8_write_41 (by decide) ?_
    refine tg_iald 1 C0 dX8_write_42 (by decide) rfl (fun _ => ?_)
    refine tg_iload_n 1 C0 dX8_write_43 rfl rfl ?_
    refine tg_callSi (As := [.int (v5 1 (3 : Int32).toNatClampNeg), .int x1]) 2 C0 dX8_write_44 (c_X8_has l (v5 1 (3 : Int32).toNatClampNeg) x1 v5) rfl rfl (tm_gc tc_X8_has) tl_X8_59 tn_X8 tst_X8_has  rfl rfl rfl rfl (by decide +kernel) ⟨by decide, by decide⟩ (Nat.le_of_ble_eq_true rfl) ⟨by decide, by decide⟩ (fun r8 v7 _ => ?_)
    refine tg_if_eq 55 C0 dX8_write_47 (by decide) (fun _ => ?_) (fun _ => ?_)
    · refine tg_iconst (x := 0) C0 dX8_write_55 (by decide) ?_
      exact w_X8_write_56 C0 x1 0 0 v7
    · refine tg_bipush (x := 7) C0 dX8_write_50 (by decide) ?_
      refine tg_goto 56 C0 dX8_write_52 (by decide) ?_
      exact w_X8_write_56 C0 x1 7 0 v7
  · refine tg_iconst (x := 0) C0 dX8_write_23 (by decide) ?_
    exact tg_iret C0 dX8_write_24
def f_X8_write (x1 : Int32) (v : tmM) : Option (Int32 × tmM) := tm_cl (f_X8_isChunk x1 v) fun r2 v1 => (if r2 = 0 then f_X8_write_13 x1 1 v1 else f_X8_write_13 x1 0 v1)
set_option maxRecDepth 100000 in
set_option maxHeartbeats 4000000 in
theorem w_X8_write {p : Program} {l : Launch} {e : Env} {s : State} {m : MethodId} {args : Array Value} {below : List Frame} {meth : Method} {c : Code} {D : va_G} {cy : Nat → ClassId} {ad : Nat → Nat} {A : Nat → Prop} {z : (Int32 × tmM)} (C0 : tmC p s m args meth c cX8_write 3 (some .int) RX8 TMW tm_NWR D cy tm_shR ad 13 [] A) (x1 : Int32) (v : tmM) : tmG p l e ({ frames := 3, cells := 0, slots := 0, locals := 67 } : Room) s m args below meth c 0 0 (MQ below (va_Qi (fun r u => z = (r, u)) (tmAt tm_shR 13 D cy ad A) A) args s 0 0 A) 3 D cy tm_shR ad 13 [] A z 0 [(0, .ref (ad 0)), (1, .int x1)] [] v (f_X8_write x1 v) := by
  unfold f_X8_write
  refine tg_aload_n 0 C0 dX8_write_0 rfl rfl ?_
  refine tg_iload_n 1 C0 dX8_write_1 rfl rfl ?_
  refine tg_callSi (As := [.int x1]) 1 C0 dX8_write_2 (c_X8_isChunk l x1 v) rfl rfl (tm_gc tc_X8_isChunk) tl_X8_131 tn_X8 tst_X8_isChunk  rfl rfl rfl rfl (by decide +kernel) ⟨by decide, by decide⟩ (Nat.le_of_ble_eq_true rfl) ⟨by decide, by decide⟩ (fun r2 v1 _ => ?_)
  refine tg_if_eq 12 C0 dX8_write_5 (by decide) (fun _ => ?_) (fun _ => ?_)
  · refine tg_iconst (x := 1) C0 dX8_write_12 (by decide) ?_
    exact w_X8_write_13 C0 x1 1 v1
  · refine tg_iconst (x := 0) C0 dX8_write_8 (by decide) ?_
    refine tg_goto 13 C0 dX8_write_9 (by decide) ?_
    exact w_X8_write_13 C0 x1 0 v1
theorem c_X8_write (l : Launch) (x1 : Int32) (v : tmM) : tmMi tm_NWR tm_shR 13 l yX8_write (Cond.code yX8_write cX8_write 3 (some .int) :: TMW) ({ frames := 3, cells := 0, slots := 0, locals := 67 } : Room) (fun ad => [.ref (ad 0), .int x1]) v (f_X8_write x1 v) :=
  tmMi.of (cc := cX8_write) (nL := 3) (by decide +kernel) rfl tm_NWR_ok (fun _ => Nat.le_of_ble_eq_true rfl) (fun p e s m args below meth c A D cy ad z C0 => w_X8_write C0 x1 v)
-- ----- X8_output
theorem dX8_output_0 : decode cX8_output 0 = .ok (.aload_n 0, 1) := by decide +kernel
theorem dX8_output_1 : decode cX8_output 1 = .ok (.iconst 0, 1) := by decide +kernel
theorem dX8_output_2 : decode cX8_output 2 = .ok (.putfield 56, 3) := by decide +kernel
theorem dX8_output_5 : decode cX8_output 5 = .ok (.iload_n 1, 1) := by decide +kernel
theorem dX8_output_6 : decode cX8_output 6 = .ok (.iconst 0, 1) := by decide +kernel
theorem dX8_output_7 : decode cX8_output 7 = .ok (.aload_n 0, 1) := by decide +kernel
theorem dX8_output_8 : decode cX8_output 8 = .ok (.getfield 294, 3) := by decide +kernel
theorem dX8_output_11 : decode cX8_output 11 = .ok (.iconst 1, 1) := by decide +kernel
theorem dX8_output_12 : decode cX8_output 12 = .ok (.isub, 1) := by decide +kernel
theorem dX8_output_13 : decode cX8_output 13 = .ok (.invokestatic 63, 3) := by decide +kernel
theorem dX8_output_16 : decode cX8_output 16 = .ok (.ifCond .eq 12, 3) := by decide +kernel
theorem dX8_output_19 : decode cX8_output 19 = .ok (.aload_n 0, 1) := by decide +kernel
theorem dX8_output_20 : decode cX8_output 20 = .ok (.getfield 26, 3) := by decide +kernel
theorem dX8_output_23 : decode cX8_output 23 = .ok (.iload_n 1, 1) := by decide +kernel
theorem dX8_output_24 : decode cX8_output 24 = .ok (.baload, 1) := by decide +kernel
theorem dX8_output_25 : decode cX8_output 25 = .ok (.goto 4, 3) := by decide +kernel
theorem dX8_output_28 : decode cX8_output 28 = .ok (.iconst (-1), 1) := by decide +kernel
theorem dX8_output_29 : decode cX8_output 29 = .ok (.ireturn, 1) := by decide +kernel
def f_X8_output (x1 : Int32) (v : tmM) : Option (Int32 × tmM) := tm_lt (tm_up v 0 0 0) fun v1 => tm_cl (f_X8_in x1 0 ((v1 0 13) - 1) v1) fun r3 v2 => (if r3 = 0 then some ((-1), v2) else tm_g (tm_ix x1 96) (some (v2 6 x1.toNatClampNeg, v2)))
set_option maxRecDepth 100000 in
set_option maxHeartbeats 4000000 in
theorem w_X8_output {p : Program} {l : Launch} {e : Env} {s : State} {m : MethodId} {args : Array Value} {below : List Frame} {meth : Method} {c : Code} {D : va_G} {cy : Nat → ClassId} {ad : Nat → Nat} {A : Nat → Prop} {z : (Int32 × tmM)} (C0 : tmC p s m args meth c cX8_output 2 (some .int) RX8 TMW tm_NWR D cy tm_shR ad 13 [] A) (x1 : Int32) (v : tmM) : tmG p l e ({ frames := 1, cells := 0, slots := 0, locals := 22 } : Room) s m args below meth c 0 0 (MQ below (va_Qi (fun r u => z = (r, u)) (tmAt tm_shR 13 D cy ad A) A) args s 0 0 A) 2 D cy tm_shR ad 13 [] A z 0 [(0, .ref (ad 0)), (1, .int x1)] [] v (f_X8_output x1 v) := by
  unfold f_X8_output
  refine tg_aload_n 0 C0 dX8_output_0 rfl rfl ?_
  refine tg_iconst (x := 0) C0 dX8_output_1 (by decide) ?_
  refine tg_put 0 0 C0 dX8_output_2 (by decide) rfl rfl tu_X8 tyX8_ok nmX8 (by decide) tf_X8_56 rfl rfl rfl rfl rfl rfl ?_
  refine tg_letm (fun v1 _ => ?_)
  refine tg_iload_n 1 C0 dX8_output_5 rfl rfl ?_
  refine tg_iconst (x := 0) C0 dX8_output_6 (by decide) ?_
  refine tg_aload_n 0 C0 dX8_output_7 rfl rfl ?_
  refine tg_get 0 13 C0 dX8_output_8 (by decide) rfl rfl tu_X8 (by decide) tf_X8_294 rfl rfl rfl ?_
  refine tg_iconst (x := 1) C0 dX8_output_11 (by decide) ?_
  refine tg_isub C0 dX8_output_12 ?_
  refine tg_callSi (As := [.int x1, .int 0, .int ((v1 0 13) - 1)]) 3 C0 dX8_output_13 (c_X8_in l x1 0 ((v1 0 13) - 1) v1) rfl rfl (tm_gc tc_X8_in) tl_X8_63 tn_X8 tst_X8_in  rfl rfl rfl rfl (by decide +kernel) ⟨by decide, by decide⟩ (Nat.le_of_ble_eq_true rfl) ⟨by decide, by decide⟩ (fun r3 v2 _ => ?_)
  refine tg_if_eq 28 C0 dX8_output_16 (by decide) (fun _ => ?_) (fun _ => ?_)
  · refine tg_iconst (x := (-1)) C0 dX8_output_28 (by decide) ?_
    exact tg_iret C0 dX8_output_29
  · refine tg_aload_n 0 C0 dX8_output_19 rfl rfl ?_
    refine tg_get 0 12 C0 dX8_output_20 (by decide) rfl rfl tu_X8 (by decide) tf_X8_26 rfl rfl rfl ?_
    refine tg_iload_n 1 C0 dX8_output_23 rfl rfl ?_
    refine tg_bald 6 C0 dX8_output_24 (by decide) rfl (fun _ => ?_)
    refine tg_goto 29 C0 dX8_output_25 (by decide) ?_
    exact tg_iret C0 dX8_output_29
theorem c_X8_output (l : Launch) (x1 : Int32) (v : tmM) : tmMi tm_NWR tm_shR 13 l yX8_output (Cond.code yX8_output cX8_output 2 (some .int) :: TMW) ({ frames := 1, cells := 0, slots := 0, locals := 22 } : Room) (fun ad => [.ref (ad 0), .int x1]) v (f_X8_output x1 v) :=
  tmMi.of (cc := cX8_output) (nL := 2) (by decide +kernel) rfl tm_NWR_ok (fun _ => Nat.le_of_ble_eq_true rfl) (fun p e s m args below meth c A D cy ad z C0 => w_X8_output C0 x1 v)
-- ----- X8_appendText
theorem dX8_appendText_0 : decode cX8_appendText 0 = .ok (.aload_n 0, 1) := by decide +kernel
theorem dX8_appendText_1 : decode cX8_appendText 1 = .ok (.aload_n 0, 1) := by decide +kernel
theorem dX8_appendText_2 : decode cX8_appendText 2 = .ok (.getfield 309, 3) := by decide +kernel
theorem dX8_appendText_5 : decode cX8_appendText 5 = .ok (.iconst 4, 1) := by decide +kernel
theorem dX8_appendText_6 : decode cX8_appendText 6 = .ok (.iadd, 1) := by decide +kernel
theorem dX8_appendText_7 : decode cX8_appendText 7 = .ok (.sipush 600, 3) := by decide +kernel
theorem dX8_appendText_10 : decode cX8_appendText 10 = .ok (.if_icmp .gt 7, 3) := by decide +kernel
theorem dX8_appendText_13 : decode cX8_appendText 13 = .ok (.iconst 0, 1) := by decide +kernel
theorem dX8_appendText_14 : decode cX8_appendText 14 = .ok (.goto 4, 3) := by decide +kernel
theorem dX8_appendText_17 : decode cX8_appendText 17 = .ok (.iconst 1, 1) := by decide +kernel
theorem dX8_appendText_18 : decode cX8_appendText 18 = .ok (.putfield 56, 3) := by decide +kernel
theorem dX8_appendText_21 : decode cX8_appendText 21 = .ok (.aload_n 0, 1) := by decide +kernel
theorem dX8_appendText_22 : decode cX8_appendText 22 = .ok (.getfield 56, 3) := by decide +kernel
theorem dX8_appendText_25 : decode cX8_appendText 25 = .ok (.ifCond .le 5, 3) := by decide +kernel
theorem dX8_appendText_28 : decode cX8_appendText 28 = .ok (.iconst 0, 1) := by decide +kernel
theorem dX8_appendText_29 : decode cX8_appendText 29 = .ok (.ireturn, 1) := by decide +kernel
theorem dX8_appendText_30 : decode cX8_appendText 30 = .ok (.bipush 24, 2) := by decide +kernel
theorem dX8_appendText_32 : decode cX8_appendText 32 = .ok (.istore_n 2, 1) := by decide +kernel
theorem dX8_appendText_33 : decode cX8_appendText 33 = .ok (.iload_n 2, 1) := by decide +kernel
theorem dX8_appendText_34 : decode cX8_appendText 34 = .ok (.ifCond .lt 32, 3) := by decide +kernel
theorem dX8_appendText_37 : decode cX8_appendText 37 = .ok (.aload_n 0, 1) := by decide +kernel
theorem dX8_appendText_38 : decode cX8_appendText 38 = .ok (.getfield 33, 3) := by decide +kernel
theorem dX8_appendText_41 : decode cX8_appendText 41 = .ok (.aload_n 0, 1) := by decide +kernel
theorem dX8_appendText_42 : decode cX8_appendText 42 = .ok (.getfield 309, 3) := by decide +kernel
theorem dX8_appendText_45 : decode cX8_appendText 45 = .ok (.iload_n 1, 1) := by decide +kernel
theorem dX8_appendText_46 : decode cX8_appendText 46 = .ok (.iload_n 2, 1) := by decide +kernel
theorem dX8_appendText_47 : decode cX8_appendText 47 = .ok (.ishr, 1) := by decide +kernel
theorem dX8_appendText_48 : decode cX8_appendText 48 = .ok (.i2b, 1) := by decide +kernel
theorem dX8_appendText_49 : decode cX8_appendText 49 = .ok (.bastore, 1) := by decide +kernel
theorem dX8_appendText_50 : decode cX8_appendText 50 = .ok (.aload_n 0, 1) := by decide +kernel
theorem dX8_appendText_51 : decode cX8_appendText 51 = .ok (.dup, 1) := by decide +kernel
theorem dX8_appendText_52 : decode cX8_appendText 52 = .ok (.getfield 309, 3) := by decide +kernel
theorem dX8_appendText_55 : decode cX8_appendText 55 = .ok (.iconst 1, 1) := by decide +kernel
theorem dX8_appendText_56 : decode cX8_appendText 56 = .ok (.iadd, 1) := by decide +kernel
theorem dX8_appendText_57 : decode cX8_appendText 57 = .ok (.putfield 309, 3) := by decide +kernel
theorem dX8_appendText_60 : decode cX8_appendText 60 = .ok (.iinc 2 (-8), 3) := by decide +kernel
theorem dX8_appendText_63 : decode cX8_appendText 63 = .ok (.goto (-30), 3) := by decide +kernel
theorem dX8_appendText_66 : decode cX8_appendText 66 = .ok (.aload_n 0, 1) := by decide +kernel
theorem dX8_appendText_67 : decode cX8_appendText 67 = .ok (.getfield 309, 3) := by decide +kernel
theorem dX8_appendText_70 : decode cX8_appendText 70 = .ok (.ireturn, 1) := by decide +kernel
theorem tf_X8_309 : Cond.fieldLink RX8 309 "TableMoveModel" (TX8 16).2.1 (TX8 16).2.2.1 ∈ TMW := tm_in 1567 (by decide +kernel) (by decide +kernel)
theorem tf_X8_33 : Cond.fieldLink RX8 33 "TableMoveModel" (TX8 15).2.1 (TX8 15).2.2.1 ∈ TMW := tm_in 1566 (by decide +kernel) (by decide +kernel)
def f_X8_appendText_33b (K0 : tmM → Option (Int32 × tmM)) (L : Int32 → Int32 → tmM → Option (Int32 × tmM)) (x1 x2 : Int32) (v : tmM) : Option (Int32 × tmM) := (if x2 < 0 then K0 v else tm_g (tm_ix (v 0 16) 600) (tm_lt (tm_up v 8 (v 0 16).toNatClampNeg (vp_nar .byte ((x1 >>> (x2 &&& 31)).toInt8.toInt32))) fun v2 => tm_lt (tm_up v2 0 16 ((v2 0 16) + 1)) fun v3 => L x1 (x2 + (-8)) v3))
set_option maxRecDepth 100000 in
set_option maxHeartbeats 4000000 in
theorem w_X8_appendText_33b {p : Program} {l : Launch} {e : Env} {s : State} {m : MethodId} {args : Array Value} {below : List Frame} {meth : Method} {c : Code} {D : va_G} {cy : Nat → ClassId} {ad : Nat → Nat} {A : Nat → Prop} {z : (Int32 × tmM)} {K0 : tmM → Option (Int32 × tmM)} {L : Int32 → Int32 → tmM → Option (Int32 × tmM)} (C0 : tmC p s m args meth c cX8_appendText 3 (some .int) RX8 TMW tm_NWR D cy tm_shR ad 13 [] A) (hK0 : ∀ (w : tmM), tmG p l e ({ frames := 0, cells := 0, slots := 0, locals := 0 } : Room) s m args below meth c 0 0 (MQ below (va_Qi (fun r u => z = (r, u)) (tmAt tm_shR 13 D cy ad A) A) args s 0 0 A) 3 D cy tm_shR ad 13 [] A z 66 [(0, .ref (ad 0))] [] w (K0 w)) (hL : ∀ (a1 a2 : Int32) (w : tmM), tmG p l e ({ frames := 0, cells := 0, slots := 0, locals := 0 } : Room) s m args below meth c 0 0 (MQ below (va_Qi (fun r u => z = (r, u)) (tmAt tm_shR 13 D cy ad A) A) args s 0 0 A) 3 D cy tm_shR ad 13 [] A z 33 [(0, .ref (ad 0)), (1, .int a1), (2, .int a2)] [] w (L a1 a2 w)) (x1 x2 : Int32) (v : tmM) : tmG p l e ({ frames := 0, cells := 0, slots := 0, locals := 0 } : Room) s m args below meth c 0 0 (MQ below (va_Qi (fun r u => z = (r, u)) (tmAt tm_shR 13 D cy ad A) A) args s 0 0 A) 3 D cy tm_shR ad 13 [] A z 33 [(0, .ref (ad 0)), (1, .int x1), (2, .int x2)] [] v (f_X8_appendText_33b K0 L x1 x2 v) := by
  unfold f_X8_appendText_33b
  refine tg_iload_n 2 C0 dX8_appendText_33 rfl rfl ?_
  refine tg_if_lt 66 C0 dX8_appendText_34 (by decide) (fun _ => ?_) (fun _ => ?_)
  · refine tg_sub [0] rfl ?_
    exact hK0 v
  · refine tg_aload_n 0 C0 dX8_appendText_37 rfl rfl ?_
    refine tg_get 0 15 C0 dX8_appendText_38 (by decide) rfl rfl tu_X8 (by decide) tf_X8_33 rfl rfl rfl ?_
    refine tg_aload_n 0 C0 dX8_appendText_41 rfl rfl ?_
    refine tg_get 0 16 C0 dX8_appendText_42 (by decide) rfl rfl tu_X8 (by decide) tf_X8_309 rfl rfl rfl ?_
    refine tg_iload_n 1 C0 dX8_appendText_45 rfl rfl ?_
    refine tg_iload_n 2 C0 dX8_appendText_46 rfl rfl ?_
    refine tg_ishr C0 dX8_appendText_47 ?_
    refine tg_i2b C0 dX8_appendText_48 ?_
    refine tg_bast 8 C0 dX8_appendText_49 (by decide) rfl (fun _ => ?_)
    refine tg_letm (fun v2 _ => ?_)
    refine tg_aload_n 0 C0 dX8_appendText_50 rfl rfl ?_
    refine tg_dup C0 dX8_appendText_51 rfl ?_
    refine tg_get 0 16 C0 dX8_appendText_52 (by decide) rfl rfl tu_X8 (by decide) tf_X8_309 rfl rfl rfl ?_
    refine tg_iconst (x := 1) C0 dX8_appendText_55 (by decide) ?_
    refine tg_iadd C0 dX8_appendText_56 ?_
    refine tg_put 0 16 C0 dX8_appendText_57 (by decide) rfl rfl tu_X8 tyX8_ok nmX8 (by decide) tf_X8_309 rfl rfl rfl rfl rfl rfl ?_
    refine tg_letm (fun v3 _ => ?_)
    refine tg_iinc [(2, .int (x2 + (-8))), (0, .ref (ad 0)), (1, .int x1)] 2 C0 dX8_appendText_60 rfl rfl (by decide) rfl ?_
    refine tg_goto 33 C0 dX8_appendText_63 (by decide) ?_
    refine tg_sub [1, 2, 0] rfl ?_
    exact hL x1 (x2 + (-8)) v3
def f_X8_appendText_33 (K0 : tmM → Option (Int32 × tmM)) : Nat → Int32 → Int32 → tmM → Option (Int32 × tmM)
  | 0 => fun _ _ _ => none
  | n + 1 => f_X8_appendText_33b K0 (f_X8_appendText_33 K0 n)
theorem w_X8_appendText_33 {p : Program} {l : Launch} {e : Env} {s : State} {m : MethodId} {args : Array Value} {below : List Frame} {meth : Method} {c : Code} {D : va_G} {cy : Nat → ClassId} {ad : Nat → Nat} {A : Nat → Prop} {z : (Int32 × tmM)} {K0 : tmM → Option (Int32 × tmM)} (C0 : tmC p s m args meth c cX8_appendText 3 (some .int) RX8 TMW tm_NWR D cy tm_shR ad 13 [] A) (hK0 : ∀ (w : tmM), tmG p l e ({ frames := 0, cells := 0, slots := 0, locals := 0 } : Room) s m args below meth c 0 0 (MQ below (va_Qi (fun r u => z = (r, u)) (tmAt tm_shR 13 D cy ad A) A) args s 0 0 A) 3 D cy tm_shR ad 13 [] A z 66 [(0, .ref (ad 0))] [] w (K0 w)) (nn : Nat) : ∀ (x1 x2 : Int32) (v : tmM), tmG p l e ({ frames := 0, cells := 0, slots := 0, locals := 0 } : Room) s m args below meth c 0 0 (MQ below (va_Qi (fun r u => z = (r, u)) (tmAt tm_shR 13 D cy ad A) A) args s 0 0 A) 3 D cy tm_shR ad 13 [] A z 33 [(0, .ref (ad 0)), (1, .int x1), (2, .int x2)] [] v (f_X8_appendText_33 K0 nn x1 x2 v) := by
  induction nn with
  | zero => intro _ _ _; exact tg_none
  | succ n ih => intro x1 x2 v; exact w_X8_appendText_33b C0 hK0 ih x1 x2 v
def f_X8_appendText_18 (x1 s0 : Int32) (v : tmM) : Option (Int32 × tmM) := tm_lt (tm_up v 0 0 s0) fun v1 => (if (v1 0 0) ≤ 0 then f_X8_appendText_33 (fun v4 => some (v4 0 16, v4)) 10000 x1 24 v1 else some (0, v1))
set_option maxRecDepth 100000 in
set_option maxHeartbeats 4000000 in
theorem w_X8_appendText_18 {p : Program} {l : Launch} {e : Env} {s : State} {m : MethodId} {args : Array Value} {below : List Frame} {meth : Method} {c : Code} {D : va_G} {cy : Nat → ClassId} {ad : Nat → Nat} {A : Nat → Prop} {z : (Int32 × tmM)} (C0 : tmC p s m args meth c cX8_appendText 3 (some .int) RX8 TMW tm_NWR D cy tm_shR ad 13 [] A) (x1 s0 : Int32) (v : tmM) : tmG p l e ({ frames := 0, cells := 0, slots := 0, locals := 0 } : Room) s m args below meth c 0 0 (MQ below (va_Qi (fun r u => z = (r, u)) (tmAt tm_shR 13 D cy ad A) A) args s 0 0 A) 3 D cy tm_shR ad 13 [] A z 18 [(0, .ref (ad 0)), (1, .int x1)] [.int s0, .ref (ad 0)] v (f_X8_appendText_18 x1 s0 v) := by
  unfold f_X8_appendText_18
  refine tg_put 0 0 C0 dX8_appendText_18 (by decide) rfl rfl tu_X8 tyX8_ok nmX8 (by decide) tf_X8_56 rfl rfl rfl rfl rfl rfl ?_
  refine tg_letm (fun v1 _ => ?_)
  refine tg_aload_n 0 C0 dX8_appendText_21 rfl rfl ?_
  refine tg_get 0 0 C0 dX8_appendText_22 (by decide) rfl rfl tu_X8 (by decide) tf_X8_56 rfl rfl rfl ?_
  refine tg_if_le 30 C0 dX8_appendText_25 (by decide) (fun _ => ?_) (fun _ => ?_)
  · refine tg_bipush (x := 24) C0 dX8_appendText_30 (by decide) ?_
    refine tg_istore_n [(2, .int 24), (0, .ref (ad 0)), (1, .int x1)] C0 dX8_appendText_32 rfl (by decide) rfl ?_
    refine tg_sub [1, 2, 0] rfl ?_
    refine w_X8_appendText_33 C0 (fun v4 => ?_) 10000 x1 24 v1
    refine tg_aload_n 0 C0 dX8_appendText_66 rfl rfl ?_
    refine tg_get 0 16 C0 dX8_appendText_67 (by decide) rfl rfl tu_X8 (by decide) tf_X8_309 rfl rfl rfl ?_
    exact tg_iret C0 dX8_appendText_70
  · refine tg_iconst (x := 0) C0 dX8_appendText_28 (by decide) ?_
    exact tg_iret C0 dX8_appendText_29
def f_X8_appendText (x1 : Int32) (v : tmM) : Option (Int32 × tmM) := (if 600 < ((v 0 16) + 4) then f_X8_appendText_18 x1 1 v else f_X8_appendText_18 x1 0 v)
set_option maxRecDepth 100000 in
set_option maxHeartbeats 4000000 in
theorem w_X8_appendText {p : Program} {l : Launch} {e : Env} {s : State} {m : MethodId} {args : Array Value} {below : List Frame} {meth : Method} {c : Code} {D : va_G} {cy : Nat → ClassId} {ad : Nat → Nat} {A : Nat → Prop} {z : (Int32 × tmM)} (C0 : tmC p s m args meth c cX8_appendText 3 (some .int) RX8 TMW tm_NWR D cy tm_shR ad 13 [] A) (x1 : Int32) (v : tmM) : tmG p l e ({ frames := 0, cells := 0, slots := 0, locals := 0 } : Room) s m args below meth c 0 0 (MQ below (va_Qi (fun r u => z = (r, u)) (tmAt tm_shR 13 D cy ad A) A) args s 0 0 A) 3 D cy tm_shR ad 13 [] A z 0 [(0, .ref (ad 0)), (1, .int x1)] [] v (f_X8_appendText x1 v) := by
  unfold f_X8_appendText
  refine tg_aload_n 0 C0 dX8_appendText_0 rfl rfl ?_
  refine tg_aload_n 0 C0 dX8_appendText_1 rfl rfl ?_
  refine tg_get 0 16 C0 dX8_appendText_2 (by decide) rfl rfl tu_X8 (by decide) tf_X8_309 rfl rfl rfl ?_
  refine tg_iconst (x := 4) C0 dX8_appendText_5 (by decide) ?_
  refine tg_iadd C0 dX8_appendText_6 ?_
  refine tg_sipush (x := 600) C0 dX8_appendText_7 (by decide) ?_
  refine tg_icmp_gt 17 C0 dX8_appendText_10 (by decide) (fun _ => ?_) (fun _ => ?_)
  · refine tg_iconst (x := 1) C0 dX8_appendText_17 (by decide) ?_
    exact w_X8_appendText_18 C0 x1 1 v
  · refine tg_iconst (x := 0) C0 dX8_appendText_13 (by decide) ?_
    refine tg_goto 18 C0 dX8_appendText_14 (by decide) ?_
    exact w_X8_appendText_18 C0 x1 0 v
theorem c_X8_appendText (l : Launch) (x1 : Int32) (v : tmM) : tmMi tm_NWR tm_shR 13 l yX8_appendText (Cond.code yX8_appendText cX8_appendText 3 (some .int) :: TMW) ({ frames := 0, cells := 0, slots := 0, locals := 0 } : Room) (fun ad => [.ref (ad 0), .int x1]) v (f_X8_appendText x1 v) :=
  tmMi.of (cc := cX8_appendText) (nL := 3) (by decide +kernel) rfl tm_NWR_ok (fun _ => Nat.le_of_ble_eq_true rfl) (fun p e s m args below meth c A D cy ad z C0 => w_X8_appendText C0 x1 v)
-- ----- X8_truncateText
theorem dX8_truncateText_0 : decode cX8_truncateText 0 = .ok (.aload_n 0, 1) := by decide +kernel
theorem dX8_truncateText_1 : decode cX8_truncateText 1 = .ok (.iload_n 1, 1) := by decide +kernel
theorem dX8_truncateText_2 : decode cX8_truncateText 2 = .ok (.iconst 0, 1) := by decide +kernel
theorem dX8_truncateText_3 : decode cX8_truncateText 3 = .ok (.aload_n 0, 1) := by decide +kernel
theorem dX8_truncateText_4 : decode cX8_truncateText 4 = .ok (.getfield 309, 3) := by decide +kernel
theorem dX8_truncateText_7 : decode cX8_truncateText 7 = .ok (.invokestatic 63, 3) := by decide +kernel
theorem dX8_truncateText_10 : decode cX8_truncateText 10 = .ok (.ifCond .eq 7, 3) := by decide +kernel
theorem dX8_truncateText_13 : decode cX8_truncateText 13 = .ok (.iconst 0, 1) := by decide +kernel
theorem dX8_truncateText_14 : decode cX8_truncateText 14 = .ok (.goto 4, 3) := by decide +kernel
theorem dX8_truncateText_17 : decode cX8_truncateText 17 = .ok (.iconst 1, 1) := by decide +kernel
theorem dX8_truncateText_18 : decode cX8_truncateText 18 = .ok (.putfield 56, 3) := by decide +kernel
theorem dX8_truncateText_21 : decode cX8_truncateText 21 = .ok (.aload_n 0, 1) := by decide +kernel
theorem dX8_truncateText_22 : decode cX8_truncateText 22 = .ok (.getfield 56, 3) := by decide +kernel
theorem dX8_truncateText_25 : decode cX8_truncateText 25 = .ok (.ifCond .le 5, 3) := by decide +kernel
theorem dX8_truncateText_28 : decode cX8_truncateText 28 = .ok (.iconst 0, 1) := by decide +kernel
theorem dX8_truncateText_29 : decode cX8_truncateText 29 = .ok (.ireturn, 1) := by decide +kernel
theorem dX8_truncateText_30 : decode cX8_truncateText 30 = .ok (.aload_n 0, 1) := by decide +kernel
theorem dX8_truncateText_31 : decode cX8_truncateText 31 = .ok (.iload_n 1, 1) := by decide +kernel
theorem dX8_truncateText_32 : decode cX8_truncateText 32 = .ok (.putfield 309, 3) := by decide +kernel
theorem dX8_truncateText_35 : decode cX8_truncateText 35 = .ok (.aload_n 0, 1) := by decide +kernel
theorem dX8_truncateText_36 : decode cX8_truncateText 36 = .ok (.getfield 309, 3) := by decide +kernel
theorem dX8_truncateText_39 : decode cX8_truncateText 39 = .ok (.ireturn, 1) := by decide +kernel
def f_X8_truncateText_18 (x1 s0 : Int32) (v : tmM) : Option (Int32 × tmM) := tm_lt (tm_up v 0 0 s0) fun v3 => (if (v3 0 0) ≤ 0 then tm_lt (tm_up v3 0 16 x1) fun v4 => some (v4 0 16, v4) else some (0, v3))
set_option maxRecDepth 100000 in
set_option maxHeartbeats 4000000 in
theorem w_X8_truncateText_18 {p : Program} {l : Launch} {e : Env} {s : State} {m : MethodId} {args : Array Value} {below : List Frame} {meth : Method} {c : Code} {D : va_G} {cy : Nat → ClassId} {ad : Nat → Nat} {A : Nat → Prop} {z : (Int32 × tmM)} (C0 : tmC p s m args meth c cX8_truncateText 2 (some .int) RX8 TMW tm_NWR D cy tm_shR ad 13 [] A) (x1 s0 : Int32) (v : tmM) : tmG p l e ({ frames := 1, cells := 0, slots := 0, locals := 22 } : Room) s m args below meth c 0 0 (MQ below (va_Qi (fun r u => z = (r, u)) (tmAt tm_shR 13 D cy ad A) A) args s 0 0 A) 2 D cy tm_shR ad 13 [] A z 18 [(0, .ref (ad 0)), (1, .int x1)] [.int s0, .ref (ad 0)] v (f_X8_truncateText_18 x1 s0 v) := by
  unfold f_X8_truncateText_18
  refine tg_put 0 0 C0 dX8_truncateText_18 (by decide) rfl rfl tu_X8 tyX8_ok nmX8 (by decide) tf_X8_56 rfl rfl rfl rfl rfl rfl ?_
  refine tg_letm (fun v3 _ => ?_)
  refine tg_aload_n 0 C0 dX8_truncateText_21 rfl rfl ?_
  refine tg_get 0 0 C0 dX8_truncateText_22 (by decide) rfl rfl tu_X8 (by decide) tf_X8_56 rfl rfl rfl ?_
  refine tg_if_le 30 C0 dX8_truncateText_25 (by decide) (fun _ => ?_) (fun _ => ?_)
  · refine tg_aload_n 0 C0 dX8_truncateText_30 rfl rfl ?_
    refine tg_iload_n 1 C0 dX8_truncateText_31 rfl rfl ?_
    refine tg_put 0 16 C0 dX8_truncateText_32 (by decide) rfl rfl tu_X8 tyX8_ok nmX8 (by decide) tf_X8_309 rfl rfl rfl rfl rfl rfl ?_
    refine tg_letm (fun v4 _ => ?_)
    refine tg_aload_n 0 C0 dX8_truncateText_35 rfl rfl ?_
    refine tg_get 0 16 C0 dX8_truncateText_36 (by decide) rfl rfl tu_X8 (by decide) tf_X8_309 rfl rfl rfl ?_
    exact tg_iret C0 dX8_truncateText_39
  · refine tg_iconst (x := 0) C0 dX8_truncateText_28 (by decide) ?_
    exact tg_iret C0 dX8_truncateText_29
def f_X8_truncateText (x1 : Int32) (v : tmM) : Option (Int32 × tmM) := tm_cl (f_X8_in x1 0 (v 0 16) v) fun r2 v1 => (if r2 = 0 then f_X8_truncateText_18 x1 1 v1 else f_X8_truncateText_18 x1 0 v1)
set_option maxRecDepth 100000 in
set_option maxHeartbeats 4000000 in
theorem w_X8_truncateText {p : Program} {l : Launch} {e : Env} {s : State} {m : MethodId} {args : Array Value} {below : List Frame} {meth : Method} {c : Code} {D : va_G} {cy : Nat → ClassId} {ad : Nat → Nat} {A : Nat → Prop} {z : (Int32 × tmM)} (C0 : tmC p s m args meth c cX8_truncateText 2 (some .int) RX8 TMW tm_NWR D cy tm_shR ad 13 [] A) (x1 : Int32) (v : tmM) : tmG p l e ({ frames := 1, cells := 0, slots := 0, locals := 22 } : Room) s m args below meth c 0 0 (MQ below (va_Qi (fun r u => z = (r, u)) (tmAt tm_shR 13 D cy ad A) A) args s 0 0 A) 2 D cy tm_shR ad 13 [] A z 0 [(0, .ref (ad 0)), (1, .int x1)] [] v (f_X8_truncateText x1 v) := by
  unfold f_X8_truncateText
  refine tg_aload_n 0 C0 dX8_truncateText_0 rfl rfl ?_
  refine tg_iload_n 1 C0 dX8_truncateText_1 rfl rfl ?_
  refine tg_iconst (x := 0) C0 dX8_truncateText_2 (by decide) ?_
  refine tg_aload_n 0 C0 dX8_truncateText_3 rfl rfl ?_
  refine tg_get 0 16 C0 dX8_truncateText_4 (by decide) rfl rfl tu_X8 (by decide) tf_X8_309 rfl rfl rfl ?_
  refine tg_callSi (As := [.int x1, .int 0, .int (v 0 16)]) 3 C0 dX8_truncateText_7 (c_X8_in l x1 0 (v 0 16) v) rfl rfl (tm_gc tc_X8_in) tl_X8_63 tn_X8 tst_X8_in  rfl rfl rfl rfl (by decide +kernel) ⟨by decide, by decide⟩ (Nat.le_of_ble_eq_true rfl) ⟨by decide, by decide⟩ (fun r2 v1 _ => ?_)
  refine tg_if_eq 17 C0 dX8_truncateText_10 (by decide) (fun _ => ?_) (fun _ => ?_)
  · refine tg_iconst (x := 1) C0 dX8_truncateText_17 (by decide) ?_
    exact w_X8_truncateText_18 C0 x1 1 v1
  · refine tg_iconst (x := 0) C0 dX8_truncateText_13 (by decide) ?_
    refine tg_goto 18 C0 dX8_truncateText_14 (by decide) ?_
    exact w_X8_truncateText_18 C0 x1 0 v1
theorem c_X8_truncateText (l : Launch) (x1 : Int32) (v : tmM) : tmMi tm_NWR tm_shR 13 l yX8_truncateText (Cond.code yX8_truncateText cX8_truncateText 2 (some .int) :: TMW) ({ frames := 1, cells := 0, slots := 0, locals := 22 } : Room) (fun ad => [.ref (ad 0), .int x1]) v (f_X8_truncateText x1 v) :=
  tmMi.of (cc := cX8_truncateText) (nL := 2) (by decide +kernel) rfl tm_NWR_ok (fun _ => Nat.le_of_ble_eq_true rfl) (fun p e s m args below meth c A D cy ad z C0 => w_X8_truncateText C0 x1 v)
-- ----- X8_see
theorem dX8_see_0 : decode cX8_see 0 = .ok (.aload_n 0, 1) := by decide +kernel
theorem dX8_see_1 : decode cX8_see 1 = .ok (.getfield 312, 3) := by decide +kernel
theorem dX8_see_4 : decode cX8_see 4 = .ok (.aload_n 0, 1) := by decide +kernel
theorem dX8_see_5 : decode cX8_see 5 = .ok (.getfield 309, 3) := by decide +kernel
theorem dX8_see_8 : decode cX8_see 8 = .ok (.if_icmp .ge 19, 3) := by decide +kernel
theorem dX8_see_11 : decode cX8_see 11 = .ok (.aload_n 0, 1) := by decide +kernel
theorem dX8_see_12 : decode cX8_see 12 = .ok (.getfield 33, 3) := by decide +kernel
theorem dX8_see_15 : decode cX8_see 15 = .ok (.aload_n 0, 1) := by decide +kernel
theorem dX8_see_16 : decode cX8_see 16 = .ok (.getfield 312, 3) := by decide +kernel
theorem dX8_see_19 : decode cX8_see 19 = .ok (.baload, 1) := by decide +kernel
theorem dX8_see_20 : decode cX8_see 20 = .ok (.sipush 255, 3) := by decide +kernel
theorem dX8_see_23 : decode cX8_see 23 = .ok (.iand, 1) := by decide +kernel
theorem dX8_see_24 : decode cX8_see 24 = .ok (.goto 4, 3) := by decide +kernel
theorem dX8_see_27 : decode cX8_see 27 = .ok (.iconst (-1), 1) := by decide +kernel
theorem dX8_see_28 : decode cX8_see 28 = .ok (.ireturn, 1) := by decide +kernel
theorem tf_X8_312 : Cond.fieldLink RX8 312 "TableMoveModel" (TX8 17).2.1 (TX8 17).2.2.1 ∈ TMW := tm_in 1568 (by decide +kernel) (by decide +kernel)
def f_X8_see (v : tmM) : Option (Int32 × tmM) := (if (v 0 16) ≤ (v 0 17) then some ((-1), v) else tm_g (tm_ix (v 0 17) 600) (some ((v 8 (v 0 17).toNatClampNeg) &&& 255, v)))
set_option maxRecDepth 100000 in
set_option maxHeartbeats 4000000 in
theorem w_X8_see {p : Program} {l : Launch} {e : Env} {s : State} {m : MethodId} {args : Array Value} {below : List Frame} {meth : Method} {c : Code} {D : va_G} {cy : Nat → ClassId} {ad : Nat → Nat} {A : Nat → Prop} {z : (Int32 × tmM)} (C0 : tmC p s m args meth c cX8_see 1 (some .int) RX8 TMW tm_NWR D cy tm_shR ad 13 [] A) (v : tmM) : tmG p l e ({ frames := 0, cells := 0, slots := 0, locals := 0 } : Room) s m args below meth c 0 0 (MQ below (va_Qi (fun r u => z = (r, u)) (tmAt tm_shR 13 D cy ad A) A) args s 0 0 A) 1 D cy tm_shR ad 13 [] A z 0 [(0, .ref (ad 0))] [] v (f_X8_see v) := by
  unfold f_X8_see
  refine tg_aload_n 0 C0 dX8_see_0 rfl rfl ?_
  refine tg_get 0 17 C0 dX8_see_1 (by decide) rfl rfl tu_X8 (by decide) tf_X8_312 rfl rfl rfl ?_
  refine tg_aload_n 0 C0 dX8_see_4 rfl rfl ?_
  refine tg_get 0 16 C0 dX8_see_5 (by decide) rfl rfl tu_X8 (by decide) tf_X8_309 rfl rfl rfl ?_
  refine tg_icmp_ge 27 C0 dX8_see_8 (by decide) (fun _ => ?_) (fun _ => ?_)
  · refine tg_iconst (x := (-1)) C0 dX8_see_27 (by decide) ?_
    exact tg_iret C0 dX8_see_28
  · refine tg_aload_n 0 C0 dX8_see_11 rfl rfl ?_
    refine tg_get 0 15 C0 dX8_see_12 (by decide) rfl rfl tu_X8 (by decide) tf_X8_33 rfl rfl rfl ?_
    refine tg_aload_n 0 C0 dX8_see_15 rfl rfl ?_
    refine tg_get 0 17 C0 dX8_see_16 (by decide) rfl rfl tu_X8 (by decide) tf_X8_312 rfl rfl rfl ?_
    refine tg_bald 8 C0 dX8_see_19 (by decide) rfl (fun _ => ?_)
    refine tg_sipush (x := 255) C0 dX8_see_20 (by decide) ?_
    refine tg_iand C0 dX8_see_23 ?_
    refine tg_goto 28 C0 dX8_see_24 (by decide) ?_
    exact tg_iret C0 dX8_see_28
theorem c_X8_see (l : Launch) (v : tmM) : tmMi tm_NWR tm_shR 13 l yX8_see (Cond.code yX8_see cX8_see 1 (some .int) :: TMW) ({ frames := 0, cells := 0, slots := 0, locals := 0 } : Room) (fun ad => [.ref (ad 0)]) v (f_X8_see v) :=
  tmMi.of (cc := cX8_see) (nL := 1) (by decide +kernel) rfl tm_NWR_ok (fun _ => Nat.le_of_ble_eq_true rfl) (fun p e s m args below meth c A D cy ad z C0 => w_X8_see C0 v)
-- ----- X8_isSmall
theorem dX8_isSmall_0 : decode cX8_isSmall 0 = .ok (.aload_n 0, 1) := by decide +kernel
theorem dX8_isSmall_1 : decode cX8_isSmall 1 = .ok (.invokevirtual 315, 3) := by decide +kernel
theorem dX8_isSmall_4 : decode cX8_isSmall 4 = .ok (.bipush 97, 2) := by decide +kernel
theorem dX8_isSmall_6 : decode cX8_isSmall 6 = .ok (.bipush 122, 2) := by decide +kernel
theorem dX8_isSmall_8 : decode cX8_isSmall 8 = .ok (.invokestatic 63, 3) := by decide +kernel
theorem dX8_isSmall_11 : decode cX8_isSmall 11 = .ok (.ireturn, 1) := by decide +kernel
theorem tl_X8_315 : Cond.methodLink RX8 315 yX8_see ∈ TMW := tm_in 2093 (by decide +kernel) (by decide +kernel)
theorem ti_X8_see : Cond.instanceMethod yX8_see ∈ TMW := tm_in 2095 (by decide +kernel) (by decide +kernel)
theorem ts_X8_see : Cond.selects RX8 yX8_see yX8_see ∈ TMW := tm_in 99 (by decide +kernel) (by decide +kernel)
theorem tc_X8_see : Cond.code yX8_see cX8_see 1 (some .int) ∈ TMW := tm_in 2096 (by decide +kernel) (by decide +kernel)
def f_X8_isSmall (v : tmM) : Option (Int32 × tmM) := tm_cl (f_X8_see v) fun r2 v1 => tm_cl (f_X8_in r2 97 122 v1) fun r4 v3 => tm_g (tm_bi r4) (some (r4, v3))
set_option maxRecDepth 100000 in
set_option maxHeartbeats 4000000 in
theorem w_X8_isSmall {p : Program} {l : Launch} {e : Env} {s : State} {m : MethodId} {args : Array Value} {below : List Frame} {meth : Method} {c : Code} {D : va_G} {cy : Nat → ClassId} {ad : Nat → Nat} {A : Nat → Prop} {z : (Int32 × tmM)} (C0 : tmC p s m args meth c cX8_isSmall 1 (some .boolean) RX8 TMW tm_NWR D cy tm_shR ad 13 [] A) (v : tmM) : tmG p l e ({ frames := 1, cells := 0, slots := 0, locals := 22 } : Room) s m args below meth c 0 0 (MQ below (va_Qi (fun r u => z = (r, u)) (tmAt tm_shR 13 D cy ad A) A) args s 0 0 A) 1 D cy tm_shR ad 13 [] A z 0 [(0, .ref (ad 0))] [] v (f_X8_isSmall v) := by
  unfold f_X8_isSmall
  refine tg_aload_n 0 C0 dX8_isSmall_0 rfl rfl ?_
  refine tg_callVi (As := []) 0 0 C0 dX8_isSmall_1 (c_X8_see l v) rfl rfl (by decide) rfl rfl (tm_gV tl_X8_315 ti_X8_see ts_X8_see tn_X8 tc_X8_see)  rfl rfl rfl rfl (by decide +kernel) ⟨by decide, by decide⟩ (Nat.le_of_ble_eq_true rfl) ⟨by decide, by decide⟩ (fun r2 v1 _ => ?_)
  refine tg_bipush (x := 97) C0 dX8_isSmall_4 (by decide) ?_
  refine tg_bipush (x := 122) C0 dX8_isSmall_6 (by decide) ?_
  refine tg_callSi (As := [.int r2, .int 97, .int 122]) 3 C0 dX8_isSmall_8 (c_X8_in l r2 97 122 v1) rfl rfl (tm_gc tc_X8_in) tl_X8_63 tn_X8 tst_X8_in  rfl rfl rfl rfl (by decide +kernel) ⟨by decide, by decide⟩ (Nat.le_of_ble_eq_true rfl) ⟨by decide, by decide⟩ (fun r4 v3 _ => ?_)
  exact tg_bret C0 dX8_isSmall_11
theorem c_X8_isSmall (l : Launch) (v : tmM) : tmMi tm_NWR tm_shR 13 l yX8_isSmall (Cond.code yX8_isSmall cX8_isSmall 1 (some .boolean) :: TMW) ({ frames := 1, cells := 0, slots := 0, locals := 22 } : Room) (fun ad => [.ref (ad 0)]) v (f_X8_isSmall v) :=
  tmMi.of (cc := cX8_isSmall) (nL := 1) (by decide +kernel) rfl tm_NWR_ok (fun _ => Nat.le_of_ble_eq_true rfl) (fun p e s m args below meth c A D cy ad z C0 => w_X8_isSmall C0 v)
-- ----- X8_isDigit
theorem dX8_isDigit_0 : decode cX8_isDigit 0 = .ok (.aload_n 0, 1) := by decide +kernel
theorem dX8_isDigit_1 : decode cX8_isDigit 1 = .ok (.invokevirtual 315, 3) := by decide +kernel
theorem dX8_isDigit_4 : decode cX8_isDigit 4 = .ok (.bipush 48, 2) := by decide +kernel
theorem dX8_isDigit_6 : decode cX8_isDigit 6 = .ok (.bipush 57, 2) := by decide +kernel
theorem dX8_isDigit_8 : decode cX8_isDigit 8 = .ok (.invokestatic 63, 3) := by decide +kernel
theorem dX8_isDigit_11 : decode cX8_isDigit 11 = .ok (.ireturn, 1) := by decide +kernel
def f_X8_isDigit (v : tmM) : Option (Int32 × tmM) := tm_cl (f_X8_see v) fun r2 v1 => tm_cl (f_X8_in r2 48 57 v1) fun r4 v3 => tm_g (tm_bi r4) (some (r4, v3))
set_option maxRecDepth 100000 in
set_option maxHeartbeats 4000000 in
theorem w_X8_isDigit {p : Program} {l : Launch} {e : Env} {s : State} {m : MethodId} {args : Array Value} {below : List Frame} {meth : Method} {c : Code} {D : va_G} {cy : Nat → ClassId} {ad : Nat → Nat} {A : Nat → Prop} {z : (Int32 × tmM)} (C0 : tmC p s m args meth c cX8_isDigit 1 (some .boolean) RX8 TMW tm_NWR D cy tm_shR ad 13 [] A) (v : tmM) : tmG p l e ({ frames := 1, cells := 0, slots := 0, locals := 22 } : Room) s m args below meth c 0 0 (MQ below (va_Qi (fun r u => z = (r, u)) (tmAt tm_shR 13 D cy ad A) A) args s 0 0 A) 1 D cy tm_shR ad 13 [] A z 0 [(0, .ref (ad 0))] [] v (f_X8_isDigit v) := by
  unfold f_X8_isDigit
  refine tg_aload_n 0 C0 dX8_isDigit_0 rfl rfl ?_
  refine tg_callVi (As := []) 0 0 C0 dX8_isDigit_1 (c_X8_see l v) rfl rfl (by decide) rfl rfl (tm_gV tl_X8_315 ti_X8_see ts_X8_see tn_X8 tc_X8_see)  rfl rfl rfl rfl (by decide +kernel) ⟨by decide, by decide⟩ (Nat.le_of_ble_eq_true rfl) ⟨by decide, by decide⟩ (fun r2 v1 _ => ?_)
  refine tg_bipush (x := 48) C0 dX8_isDigit_4 (by decide) ?_
  refine tg_bipush (x := 57) C0 dX8_isDigit_6 (by decide) ?_
  refine tg_callSi (As := [.int r2, .int 48, .int 57]) 3 C0 dX8_isDigit_8 (c_X8_in l r2 48 57 v1) rfl rfl (tm_gc tc_X8_in) tl_X8_63 tn_X8 tst_X8_in  rfl rfl rfl rfl (by decide +kernel) ⟨by decide, by decide⟩ (Nat.le_of_ble_eq_true rfl) ⟨by decide, by decide⟩ (fun r4 v3 _ => ?_)
  exact tg_bret C0 dX8_isDigit_11
theorem c_X8_isDigit (l : Launch) (v : tmM) : tmMi tm_NWR tm_shR 13 l yX8_isDigit (Cond.code yX8_isDigit cX8_isDigit 1 (some .boolean) :: TMW) ({ frames := 1, cells := 0, slots := 0, locals := 22 } : Room) (fun ad => [.ref (ad 0)]) v (f_X8_isDigit v) :=
  tmMi.of (cc := cX8_isDigit) (nL := 1) (by decide +kernel) rfl tm_NWR_ok (fun _ => Nat.le_of_ble_eq_true rfl) (fun p e s m args below meth c A D cy ad z C0 => w_X8_isDigit C0 v)
-- ----- X8_goesOn
theorem dX8_goesOn_0 : decode cX8_goesOn 0 = .ok (.aload_n 0, 1) := by decide +kernel
theorem dX8_goesOn_1 : decode cX8_goesOn 1 = .ok (.invokevirtual 315, 3) := by decide +kernel
theorem dX8_goesOn_4 : decode cX8_goesOn 4 = .ok (.bipush 32, 2) := by decide +kernel
theorem dX8_goesOn_6 : decode cX8_goesOn 6 = .ok (.if_icmp .eq 12, 3) := by decide +kernel
theorem dX8_goesOn_9 : decode cX8_goesOn 9 = .ok (.aload_n 0, 1) := by decide +kernel
theorem dX8_goesOn_10 : decode cX8_goesOn 10 = .ok (.invokevirtual 315, 3) := by decide +kernel
theorem dX8_goesOn_13 : decode cX8_goesOn 13 = .ok (.bipush 10, 2) := by decide +kernel
theorem dX8_goesOn_15 : decode cX8_goesOn 15 = .ok (.if_icmp .ne 16, 3) := by decide +kernel
theorem dX8_goesOn_18 : decode cX8_goesOn 18 = .ok (.aload_n 0, 1) := by decide +kernel
theorem dX8_goesOn_19 : decode cX8_goesOn 19 = .ok (.dup, 1) := by decide +kernel
theorem dX8_goesOn_20 : decode cX8_goesOn 20 = .ok (.getfield 312, 3) := by decide +kernel
theorem dX8_goesOn_23 : decode cX8_goesOn 23 = .ok (.iconst 1, 1) := by decide +kernel
theorem dX8_goesOn_24 : decode cX8_goesOn 24 = .ok (.iadd, 1) := by decide +kernel
theorem dX8_goesOn_25 : decode cX8_goesOn 25 = .ok (.putfield 312, 3) := by decide +kernel
theorem dX8_goesOn_28 : decode cX8_goesOn 28 = .ok (.goto (-28), 3) := by decide +kernel
theorem dX8_goesOn_31 : decode cX8_goesOn 31 = .ok (.aload_n 0, 1) := by decide +kernel
theorem dX8_goesOn_32 : decode cX8_goesOn 32 = .ok (.aload_n 0, 1) := by decide +kernel
theorem dX8_goesOn_33 : decode cX8_goesOn 33 = .ok (.getfield 312, 3) := by decide +kernel
theorem dX8_goesOn_36 : decode cX8_goesOn 36 = .ok (.putfield 318, 3) := by decide +kernel
theorem dX8_goesOn_39 : decode cX8_goesOn 39 = .ok (.aload_n 0, 1) := by decide +kernel
theorem dX8_goesOn_40 : decode cX8_goesOn 40 = .ok (.aload_n 0, 1) := by decide +kernel
theorem dX8_goesOn_41 : decode cX8_goesOn 41 = .ok (.invokevirtual 315, 3) := by decide +kernel
theorem dX8_goesOn_44 : decode cX8_goesOn 44 = .ok (.iconst (-1), 1) := by decide +kernel
theorem dX8_goesOn_45 : decode cX8_goesOn 45 = .ok (.if_icmp .ne 7, 3) := by decide +kernel
theorem dX8_goesOn_48 : decode cX8_goesOn 48 = .ok (.iconst 0, 1) := by decide +kernel
theorem dX8_goesOn_49 : decode cX8_goesOn 49 = .ok (.goto 39, 3) := by decide +kernel
theorem dX8_goesOn_52 : decode cX8_goesOn 52 = .ok (.aload_n 0, 1) := by decide +kernel
theorem dX8_goesOn_53 : decode cX8_goesOn 53 = .ok (.invokevirtual 321, 3) := by decide +kernel
theorem dX8_goesOn_56 : decode cX8_goesOn 56 = .ok (.ifCond .eq 7, 3) := by decide +kernel
theorem dX8_goesOn_59 : decode cX8_goesOn 59 = .ok (.iconst 1, 1) := by decide +kernel
theorem dX8_goesOn_60 : decode cX8_goesOn 60 = .ok (.goto 28, 3) := by decide +kernel
theorem dX8_goesOn_63 : decode cX8_goesOn 63 = .ok (.aload_n 0, 1) := by decide +kernel
theorem dX8_goesOn_64 : decode cX8_goesOn 64 = .ok (.invokevirtual 324, 3) := by decide +kernel
theorem dX8_goesOn_67 : decode cX8_goesOn 67 = .ok (.ifCond .eq 7, 3) := by decide +kernel
theorem dX8_goesOn_70 : decode cX8_goesOn 70 = .ok (.iconst 2, 1) := by decide +kernel
theorem dX8_goesOn_71 : decode cX8_goesOn 71 = .ok (.goto 17, 3) := by decide +kernel
theorem dX8_goesOn_74 : decode cX8_goesOn 74 = .ok (.aload_n 0, 1) := by decide +kernel
theorem dX8_goesOn_75 : decode cX8_goesOn 75 = .ok (.invokevirtual 315, 3) := by decide +kernel
theorem dX8_goesOn_78 : decode cX8_goesOn 78 = .ok (.bipush 59, 2) := by decide +kernel
theorem dX8_goesOn_80 : decode cX8_goesOn 80 = .ok (.if_icmp .ne 7, 3) := by decide +kernel
theorem dX8_goesOn_83 : decode cX8_goesOn 83 = .ok (.iconst 3, 1) := by decide +kernel
theorem dX8_goesOn_84 : decode cX8_goesOn 84 = .ok (.goto 4, 3) := by decide +kernel
theorem dX8_goesOn_87 : decode cX8_goesOn 87 = .ok (.iconst 4, 1) := by decide +kernel
theorem dX8_goesOn_88 : decode cX8_goesOn 88 = .ok (.putfield 327, 3) := by decide +kernel
theorem dX8_goesOn_91 : decode cX8_goesOn 91 = .ok (.aload_n 0, 1) := by decide +kernel
theorem dX8_goesOn_92 : decode cX8_goesOn 92 = .ok (.iconst 0, 1) := by decide +kernel
theorem dX8_goesOn_93 : decode cX8_goesOn 93 = .ok (.putfield 330, 3) := by decide +kernel
theorem dX8_goesOn_96 : decode cX8_goesOn 96 = .ok (.aload_n 0, 1) := by decide +kernel
theorem dX8_goesOn_97 : decode cX8_goesOn 97 = .ok (.dup, 1) := by decide +kernel
theorem dX8_goesOn_98 : decode cX8_goesOn 98 = .ok (.getfield 312, 3) := by decide +kernel
theorem dX8_goesOn_101 : decode cX8_goesOn 101 = .ok (.aload_n 0, 1) := by decide +kernel
theorem dX8_goesOn_102 : decode cX8_goesOn 102 = .ok (.getfield 327, 3) := by decide +kernel
theorem dX8_goesOn_105 : decode cX8_goesOn 105 = .ok (.iconst 3, 1) := by decide +kernel
theorem dX8_goesOn_106 : decode cX8_goesOn 106 = .ok (.if_icmp .lt 7, 3) := by decide +kernel
theorem dX8_goesOn_109 : decode cX8_goesOn 109 = .ok (.iconst 1, 1) := by decide +kernel
theorem dX8_goesOn_110 : decode cX8_goesOn 110 = .ok (.goto 4, 3) := by decide +kernel
theorem dX8_goesOn_113 : decode cX8_goesOn 113 = .ok (.iconst 0, 1) := by decide +kernel
theorem dX8_goesOn_114 : decode cX8_goesOn 114 = .ok (.iadd, 1) := by decide +kernel
theorem dX8_goesOn_115 : decode cX8_goesOn 115 = .ok (.putfield 312, 3) := by decide +kernel
theorem dX8_goesOn_118 : decode cX8_goesOn 118 = .ok (.aload_n 0, 1) := by decide +kernel
theorem dX8_goesOn_119 : decode cX8_goesOn 119 = .ok (.getfield 327, 3) := by decide +kernel
theorem dX8_goesOn_122 : decode cX8_goesOn 122 = .ok (.iconst 1, 1) := by decide +kernel
theorem dX8_goesOn_123 : decode cX8_goesOn 123 = .ok (.if_icmp .ne 23, 3) := by decide +kernel
theorem dX8_goesOn_126 : decode cX8_goesOn 126 = .ok (.aload_n 0, 1) := by decide +kernel
theorem dX8_goesOn_127 : decode cX8_goesOn 127 = .ok (.invokevirtual 321, 3) := by decide +kernel
theorem dX8_goesOn_130 : decode cX8_goesOn 130 = .ok (.ifCond .eq 16, 3) := by decide +kernel
theorem dX8_goesOn_133 : decode cX8_goesOn 133 = .ok (.aload_n 0, 1) := by decide +kernel
theorem dX8_goesOn_134 : decode cX8_goesOn 134 = .ok (.dup, 1) := by decide +kernel
theorem dX8_goesOn_135 : decode cX8_goesOn 135 = .ok (.getfield 312, 3) := by decide +kernel
theorem dX8_goesOn_138 : decode cX8_goesOn 138 = .ok (.iconst 1, 1) := by decide +kernel
theorem dX8_goesOn_139 : decode cX8_goesOn 139 = .ok (.iadd, 1) := by decide +kernel
theorem dX8_goesOn_140 : decode cX8_goesOn 140 = .ok (.putfield 312, 3) := by decide +kernel
theorem dX8_goesOn_143 : decode cX8_goesOn 143 = .ok (.goto (-25), 3) := by decide +kernel
theorem dX8_goesOn_146 : decode cX8_goesOn 146 = .ok (.aload_n 0, 1) := by decide +kernel
theorem dX8_goesOn_147 : decode cX8_goesOn 147 = .ok (.getfield 327, 3) := by decide +kernel
theorem dX8_goesOn_150 : decode cX8_goesOn 150 = .ok (.iconst 2, 1) := by decide +kernel
theorem dX8_goesOn_151 : decode cX8_goesOn 151 = .ok (.if_icmp .ne 59, 3) := by decide +kernel
theorem dX8_goesOn_154 : decode cX8_goesOn 154 = .ok (.aload_n 0, 1) := by decide +kernel
theorem dX8_goesOn_155 : decode cX8_goesOn 155 = .ok (.invokevirtual 324, 3) := by decide +kernel
theorem dX8_goesOn_158 : decode cX8_goesOn 158 = .ok (.ifCond .eq 52, 3) := by decide +kernel
theorem dX8_goesOn_161 : decode cX8_goesOn 161 = .ok (.aload_n 0, 1) := by decide +kernel
theorem dX8_goesOn_162 : decode cX8_goesOn 162 = .ok (.aload_n 0, 1) := by decide +kernel
theorem dX8_goesOn_163 : decode cX8_goesOn 163 = .ok (.getfield 330, 3) := by decide +kernel
theorem dX8_goesOn_166 : decode cX8_goesOn 166 = .ok (.sipush 10000, 3) := by decide +kernel
theorem dX8_goesOn_169 : decode cX8_goesOn 169 = .ok (.if_icmp .le 10, 3) := by decide +kernel
theorem dX8_goesOn_172 : decode cX8_goesOn 172 = .ok (.aload_n 0, 1) := by decide +kernel
theorem dX8_goesOn_173 : decode cX8_goesOn 173 = .ok (.getfield 330, 3) := by decide +kernel
theorem dX8_goesOn_176 : decode cX8_goesOn 176 = .ok (.goto 18, 3) := by decide +kernel
theorem dX8_goesOn_179 : decode cX8_goesOn 179 = .ok (.bipush 10, 2) := by decide +kernel
theorem dX8_goesOn_181 : decode cX8_goesOn 181 = .ok (.aload_n 0, 1) := by decide +kernel
theorem dX8_goesOn_182 : decode cX8_goesOn 182 = .ok (.getfield 330, 3) := by decide +kernel
theorem dX8_goesOn_185 : decode cX8_goesOn 185 = .ok (.imul, 1) := by decide +kernel
theorem dX8_goesOn_186 : decode cX8_goesOn 186 = .ok (.aload_n 0, 1) := by decide +kernel
theorem dX8_goesOn_187 : decode cX8_goesOn 187 = .ok (.invokevirtual 315, 3) := by decide +kernel
theorem dX8_goesOn_190 : decode cX8_goesOn 190 = .ok (.iadd, 1) := by decide +kernel
theorem dX8_goesOn_191 : decode cX8_goesOn 191 = .ok (.bipush 48, 2) := by decide +kernel
theorem dX8_goesOn_193 : decode cX8_goesOn 193 = .ok (.isub, 1) := by decide +kernel
theorem dX8_goesOn_194 : decode cX8_goesOn 194 = .ok (.putfield 330, 3) := by decide +kernel
theorem dX8_goesOn_197 : decode cX8_goesOn 197 = .ok (.aload_n 0, 1) := by decide +kernel
theorem dX8_goesOn_198 : decode cX8_goesOn 198 = .ok (.dup, 1) := by decide +kernel
theorem dX8_goesOn_199 : decode cX8_goesOn 199 = .ok (.getfield 312, 3) := by decide +kernel
theorem dX8_goesOn_202 : decode cX8_goesOn 202 = .ok (.iconst 1, 1) := by decide +kernel
theorem dX8_goesOn_203 : decode cX8_goesOn 203 = .ok (.iadd, 1) := by decide +kernel
theorem dX8_goesOn_204 : decode cX8_goesOn 204 = .ok (.putfield 312, 3) := by decide +kernel
theorem dX8_goesOn_207 : decode cX8_goesOn 207 = .ok (.goto (-61), 3) := by decide +kernel
theorem dX8_goesOn_210 : decode cX8_goesOn 210 = .ok (.return_, 1) := by decide +kernel
theorem tf_X8_318 : Cond.fieldLink RX8 318 "TableMoveModel" (TX8 18).2.1 (TX8 18).2.2.1 ∈ TMW := tm_in 1569 (by decide +kernel) (by decide +kernel)
theorem tl_X8_321 : Cond.methodLink RX8 321 yX8_isSmall ∈ TMW := tm_in 2097 (by decide +kernel) (by decide +kernel)
theorem ti_X8_isSmall : Cond.instanceMethod yX8_isSmall ∈ TMW := tm_in 2099 (by decide +kernel) (by decide +kernel)
theorem ts_X8_isSmall : Cond.selects RX8 yX8_isSmall yX8_isSmall ∈ TMW := tm_in 100 (by decide +kernel) (by decide +kernel)
theorem tc_X8_isSmall : Cond.code yX8_isSmall cX8_isSmall 1 (some .boolean) ∈ TMW := tm_in 2100 (by decide +kernel) (by decide +kernel)
theorem tl_X8_324 : Cond.methodLink RX8 324 yX8_isDigit ∈ TMW := tm_in 2101 (by decide +kernel) (by decide +kernel)
theorem ti_X8_isDigit : Cond.instanceMethod yX8_isDigit ∈ TMW := tm_in 2103 (by decide +kernel) (by decide +kernel)
theorem ts_X8_isDigit : Cond.selects RX8 yX8_isDigit yX8_isDigit ∈ TMW := tm_in 101 (by decide +kernel) (by decide +kernel)
theorem tc_X8_isDigit : Cond.code yX8_isDigit cX8_isDigit 1 (some .boolean) ∈ TMW := tm_in 2104 (by decide +kernel) (by decide +kernel)
theorem tf_X8_327 : Cond.fieldLink RX8 327 "TableMoveModel" (TX8 19).2.1 (TX8 19).2.2.1 ∈ TMW := tm_in 1570 (by decide +kernel) (by decide +kernel)
theorem tf_X8_330 : Cond.fieldLink RX8 330 "TableMoveModel" (TX8 20).2.1 (TX8 20).2.2.1 ∈ TMW := tm_in 1571 (by decide +kernel) (by decide +kernel)
def f_X8_goesOn_18 (K0 : tmM → Option (Unit × tmM)) (L : tmM → Option (Unit × tmM)) (v : tmM) : Option (Unit × tmM) := tm_lt (tm_up v 0 17 ((v 0 17) + 1)) fun v3 => L v3
set_option maxRecDepth 100000 in
set_option maxHeartbeats 4000000 in
theorem w_X8_goesOn_18 {p : Program} {l : Launch} {e : Env} {s : State} {m : MethodId} {args : Array Value} {below : List Frame} {meth : Method} {c : Code} {D : va_G} {cy : Nat → ClassId} {ad : Nat → Nat} {A : Nat → Prop} {z : (Unit × tmM)} {K0 : tmM → Option (Unit × tmM)} {L : tmM → Option (Unit × tmM)} (C0 : tmC p s m args meth c cX8_goesOn 1 none RX8 TMW tm_NWR D cy tm_shR ad 13 [] A) (hK0 : ∀ (w : tmM), tmG p l e ({ frames := 2, cells := 0, slots := 0, locals := 42 } : Room) s m args below meth c 0 0 (MQ below (va_Qv (fun u => z = ((), u)) (tmAt tm_shR 13 D cy ad A) A) args s 0 0 A) 1 D cy tm_shR ad 13 [] A z 31 [(0, .ref (ad 0))] [] w (K0 w)) (hL : ∀ (w : tmM), tmG p l e ({ frames := 2, cells := 0, slots := 0, locals := 42 } : Room) s m args below meth c 0 0 (MQ below (va_Qv (fun u => z = ((), u)) (tmAt tm_shR 13 D cy ad A) A) args s 0 0 A) 1 D cy tm_shR ad 13 [] A z 0 [(0, .ref (ad 0))] [] w (L w)) (v : tmM) : tmG p l e ({ frames := 2, cells := 0, slots := 0, locals := 42 } : Room) s m args below meth c 0 0 (MQ below (va_Qv (fun u => z = ((), u)) (tmAt tm_shR 13 D cy ad A) A) args s 0 0 A) 1 D cy tm_shR ad 13 [] A z 18 [(0, .ref (ad 0))] [] v (f_X8_goesOn_18 K0 L v) := by
  unfold f_X8_goesOn_18
  refine tg_aload_n 0 C0 dX8_goesOn_18 rfl rfl ?_
  refine tg_dup C0 dX8_goesOn_19 rfl ?_
  refine tg_get 0 17 C0 dX8_goesOn_20 (by decide) rfl rfl tu_X8 (by decide) tf_X8_312 rfl rfl rfl ?_
  refine tg_iconst (x := 1) C0 dX8_goesOn_23 (by decide) ?_
  refine tg_iadd C0 dX8_goesOn_24 ?_
  refine tg_put 0 17 C0 dX8_goesOn_25 (by decide) rfl rfl tu_X8 tyX8_ok nmX8 (by decide) tf_X8_312 rfl rfl rfl rfl rfl rfl ?_
  refine tg_letm (fun v3 _ => ?_)
  refine tg_goto 0 C0 dX8_goesOn_28 (by decide) ?_
  exact hL v3
def f_X8_goesOn_0b (K0 : tmM → Option (Unit × tmM)) (L : tmM → Option (Unit × tmM)) (v : tmM) : Option (Unit × tmM) := tm_cl (f_X8_see v) fun r2 v1 => (if r2 = 32 then f_X8_goesOn_18 K0 L v1 else tm_cl (f_X8_see v1) fun r5 v4 => (if r5 = 10 then f_X8_goesOn_18 K0 L v4 else K0 v4))
set_option maxRecDepth 100000 in
set_option maxHeartbeats 4000000 in
theorem w_X8_goesOn_0b {p : Program} {l : Launch} {e : Env} {s : State} {m : MethodId} {args : Array Value} {below : List Frame} {meth : Method} {c : Code} {D : va_G} {cy : Nat → ClassId} {ad : Nat → Nat} {A : Nat → Prop} {z : (Unit × tmM)} {K0 : tmM → Option (Unit × tmM)} {L : tmM → Option (Unit × tmM)} (C0 : tmC p s m args meth c cX8_goesOn 1 none RX8 TMW tm_NWR D cy tm_shR ad 13 [] A) (hK0 : ∀ (w : tmM), tmG p l e ({ frames := 2, cells := 0, slots := 0, locals := 42 } : Room) s m args below meth c 0 0 (MQ below (va_Qv (fun u => z = ((), u)) (tmAt tm_shR 13 D cy ad A) A) args s 0 0 A) 1 D cy tm_shR ad 13 [] A z 31 [(0, .ref (ad 0))] [] w (K0 w)) (hL : ∀ (w : tmM), tmG p l e ({ frames := 2, cells := 0, slots := 0, locals := 42 } : Room) s m args below meth c 0 0 (MQ below (va_Qv (fun u => z = ((), u)) (tmAt tm_shR 13 D cy ad A) A) args s 0 0 A) 1 D cy tm_shR ad 13 [] A z 0 [(0, .ref (ad 0))] [] w (L w)) (v : tmM) : tmG p l e ({ frames := 2, cells := 0, slots := 0, locals := 42 } : Room) s m args below meth c 0 0 (MQ below (va_Qv (fun u => z = ((), u)) (tmAt tm_shR 13 D cy ad A) A) args s 0 0 A) 1 D cy tm_shR ad 13 [] A z 0 [(0, .ref (ad 0))] [] v (f_X8_goesOn_0b K0 L v) := by
  unfold f_X8_goesOn_0b
  refine tg_aload_n 0 C0 dX8_goesOn_0 rfl rfl ?_
  refine tg_callVi (As := []) 0 0 C0 dX8_goesOn_1 (c_X8_see l v) rfl rfl (by decide) rfl rfl (tm_gV tl_X8_315 ti_X8_see ts_X8_see tn_X8 tc_X8_see)  rfl rfl rfl rfl (by decide +kernel) ⟨by decide, by decide⟩ (Nat.le_of_ble_eq_true rfl) ⟨by decide, by decide⟩ (fun r2 v1 _ => ?_)
  refine tg_bipush (x := 32) C0 dX8_goesOn_4 (by decide) ?_
  refine tg_icmp_eq 18 C0 dX8_goesOn_6 (by decide) (fun _ => ?_) (fun _ => ?_)
  · exact w_X8_goesOn_18 C0 hK0 hL v1
  · refine tg_aload_n 0 C0 dX8_goesOn_9 rfl rfl ?_
    refine tg_callVi (As := []) 0 0 C0 dX8_goesOn_10 (c_X8_see l v1) rfl rfl (by decide) rfl rfl (tm_gV tl_X8_315 ti_X8_see ts_X8_see tn_X8 tc_X8_see)  rfl rfl rfl rfl (by decide +kernel) ⟨by decide, by decide⟩ (Nat.le_of_ble_eq_true rfl) ⟨by decide, by decide⟩ (fun r5 v4 _ => ?_)
    refine tg_bipush (x := 10) C0 dX8_goesOn_13 (by decide) ?_
    refine tg_icmp_ne 31 C0 dX8_goesOn_15 (by decide) (fun _ => ?_) (fun _ => ?_)
    · exact hK0 v4
    · exact w_X8_goesOn_18 C0 hK0 hL v4
def f_X8_goesOn_0 (K0 : tmM → Option (Unit × tmM)) : Nat → tmM → Option (Unit × tmM)
  | 0 => fun _ => none
  | n + 1 => f_X8_goesOn_0b K0 (f_X8_goesOn_0 K0 n)
theorem w_X8_goesOn_0 {p : Program} {l : Launch} {e : Env} {s : State} {m : MethodId} {args : Array Value} {below : List Frame} {meth : Method} {c : Code} {D : va_G} {cy : Nat → ClassId} {ad : Nat → Nat} {A : Nat → Prop} {z : (Unit × tmM)} {K0 : tmM → Option (Unit × tmM)} (C0 : tmC p s m args meth c cX8_goesOn 1 none RX8 TMW tm_NWR D cy tm_shR ad 13 [] A) (hK0 : ∀ (w : tmM), tmG p l e ({ frames := 2, cells := 0, slots := 0, locals := 42 } : Room) s m args below meth c 0 0 (MQ below (va_Qv (fun u => z = ((), u)) (tmAt tm_shR 13 D cy ad A) A) args s 0 0 A) 1 D cy tm_shR ad 13 [] A z 31 [(0, .ref (ad 0))] [] w (K0 w)) (nn : Nat) : ∀ (v : tmM), tmG p l e ({ frames := 2, cells := 0, slots := 0, locals := 42 } : Room) s m args below meth c 0 0 (MQ below (va_Qv (fun u => z = ((), u)) (tmAt tm_shR 13 D cy ad A) A) args s 0 0 A) 1 D cy tm_shR ad 13 [] A z 0 [(0, .ref (ad 0))] [] v (f_X8_goesOn_0 K0 nn v) := by
  induction nn with
  | zero => intro _; exact tg_none
  | succ n ih => intro v; exact w_X8_goesOn_0b C0 hK0 ih v
def f_X8_goesOn_118b (K0 : tmM → Option (Unit × tmM)) (L : tmM → Option (Unit × tmM)) (v : tmM) : Option (Unit × tmM) := (if (v 0 19) = 1 then tm_cl (f_X8_isSmall v) fun r20 v19 => (if r20 = 0 then K0 v19 else tm_lt (tm_up v19 0 17 ((v19 0 17) + 1)) fun v21 => L v21) else K0 v)
set_option maxRecDepth 100000 in
set_option maxHeartbeats 4000000 in
theorem w_X8_goesOn_118b {p : Program} {l : Launch} {e : Env} {s : State} {m : MethodId} {args : Array Value} {below : List Frame} {meth : Method} {c : Code} {D : va_G} {cy : Nat → ClassId} {ad : Nat → Nat} {A : Nat → Prop} {z : (Unit × tmM)} {K0 : tmM → Option (Unit × tmM)} {L : tmM → Option (Unit × tmM)} (C0 : tmC p s m args meth c cX8_goesOn 1 none RX8 TMW tm_NWR D cy tm_shR ad 13 [] A) (hK0 : ∀ (w : tmM), tmG p l e ({ frames := 2, cells := 0, slots := 0, locals := 42 } : Room) s m args below meth c 0 0 (MQ below (va_Qv (fun u => z = ((), u)) (tmAt tm_shR 13 D cy ad A) A) args s 0 0 A) 1 D cy tm_shR ad 13 [] A z 146 [(0, .ref (ad 0))] [] w (K0 w)) (hL : ∀ (w : tmM), tmG p l e ({ frames := 2, cells := 0, slots := 0, locals := 42 } : Room) s m args below meth c 0 0 (MQ below (va_Qv (fun u => z = ((), u)) (tmAt tm_shR 13 D cy ad A) A) args s 0 0 A) 1 D cy tm_shR ad 13 [] A z 118 [(0, .ref (ad 0))] [] w (L w)) (v : tmM) : tmG p l e ({ frames := 2, cells := 0, slots := 0, locals := 42 } : Room) s m args below meth c 0 0 (MQ below (va_Qv (fun u => z = ((), u)) (tmAt tm_shR 13 D cy ad A) A) args s 0 0 A) 1 D cy tm_shR ad 13 [] A z 118 [(0, .ref (ad 0))] [] v (f_X8_goesOn_118b K0 L v) := by
  unfold f_X8_goesOn_118b
  refine tg_aload_n 0 C0 dX8_goesOn_118 rfl rfl ?_
  refine tg_get 0 19 C0 dX8_goesOn_119 (by decide) rfl rfl tu_X8 (by decide) tf_X8_327 rfl rfl rfl ?_
  refine tg_iconst (x := 1) C0 dX8_goesOn_122 (by decide) ?_
  refine tg_icmp_ne 146 C0 dX8_goesOn_123 (by decide) (fun _ => ?_) (fun _ => ?_)
  · exact hK0 v
  · refine tg_aload_n 0 C0 dX8_goesOn_126 rfl rfl ?_
    refine tg_callVi (As := []) 0 0 C0 dX8_goesOn_127 (c_X8_isSmall l v) rfl rfl (by decide) rfl rfl (tm_gV tl_X8_321 ti_X8_isSmall ts_X8_isSmall tn_X8 tc_X8_isSmall)  rfl rfl rfl rfl (by decide +kernel) ⟨by decide, by decide⟩ (Nat.le_of_ble_eq_true rfl) ⟨by decide, by decide⟩ (fun r20 v19 _ => ?_)
    refine tg_if_eq 146 C0 dX8_goesOn_130 (by decide) (fun _ => ?_) (fun _ => ?_)
    · exact hK0 v19
    · refine tg_aload_n 0 C0 dX8_goesOn_133 rfl rfl ?_
      refine tg_dup C0 dX8_goesOn_134 rfl ?_
      refine tg_get 0 17 C0 dX8_goesOn_135 (by decide) rfl rfl tu_X8 (by decide) tf_X8_312 rfl rfl rfl ?_
      refine tg_iconst (x := 1) C0 dX8_goesOn_138 (by decide) ?_
      refine tg_iadd C0 dX8_goesOn_139 ?_
      refine tg_put 0 17 C0 dX8_goesOn_140 (by decide) rfl rfl tu_X8 tyX8_ok nmX8 (by decide) tf_X8_312 rfl rfl rfl rfl rfl rfl ?_
      refine tg_letm (fun v21 _ => ?_)
      refine tg_goto 118 C0 dX8_goesOn_143 (by decide) ?_
      exact hL v21
def f_X8_goesOn_118 (K0 : tmM → Option (Unit × tmM)) : Nat → tmM → Option (Unit × tmM)
  | 0 => fun _ => none
  | n + 1 => f_X8_goesOn_118b K0 (f_X8_goesOn_118 K0 n)
theorem w_X8_goesOn_118 {p : Program} {l : Launch} {e : Env} {s : State} {m : MethodId} {args : Array Value} {below : List Frame} {meth : Method} {c : Code} {D : va_G} {cy : Nat → ClassId} {ad : Nat → Nat} {A : Nat → Prop} {z : (Unit × tmM)} {K0 : tmM → Option (Unit × tmM)} (C0 : tmC p s m args meth c cX8_goesOn 1 none RX8 TMW tm_NWR D cy tm_shR ad 13 [] A) (hK0 : ∀ (w : tmM), tmG p l e ({ frames := 2, cells := 0, slots := 0, locals := 42 } : Room) s m args below meth c 0 0 (MQ below (va_Qv (fun u => z = ((), u)) (tmAt tm_shR 13 D cy ad A) A) args s 0 0 A) 1 D cy tm_shR ad 13 [] A z 146 [(0, .ref (ad 0))] [] w (K0 w)) (nn : Nat) : ∀ (v : tmM), tmG p l e ({ frames := 2, cells := 0, slots := 0, locals := 42 } : Room) s m args below meth c 0 0 (MQ below (va_Qv (fun u => z = ((), u)) (tmAt tm_shR 13 D cy ad A) A) args s 0 0 A) 1 D cy tm_shR ad 13 [] A z 118 [(0, .ref (ad 0))] [] v (f_X8_goesOn_118 K0 nn v) := by
  induction nn with
  | zero => intro _; exact tg_none
  | succ n ih => intro v; exact w_X8_goesOn_118b C0 hK0 ih v
def f_X8_goesOn_194 (K0 : tmM → Option (Unit × tmM)) (L : tmM → Option (Unit × tmM)) (s0 : Int32) (v : tmM) : Option (Unit × tmM) := tm_lt (tm_up v 0 20 s0) fun v27 => tm_lt (tm_up v27 0 17 ((v27 0 17) + 1)) fun v28 => L v28
set_option maxRecDepth 100000 in
set_option maxHeartbeats 4000000 in
theorem w_X8_goesOn_194 {p : Program} {l : Launch} {e : Env} {s : State} {m : MethodId} {args : Array Value} {below : List Frame} {meth : Method} {c : Code} {D : va_G} {cy : Nat → ClassId} {ad : Nat → Nat} {A : Nat → Prop} {z : (Unit × tmM)} {K0 : tmM → Option (Unit × tmM)} {L : tmM → Option (Unit × tmM)} (C0 : tmC p s m args meth c cX8_goesOn 1 none RX8 TMW tm_NWR D cy tm_shR ad 13 [] A) (hK0 : ∀ (w : tmM), tmG p l e ({ frames := 2, cells := 0, slots := 0, locals := 42 } : Room) s m args below meth c 0 0 (MQ below (va_Qv (fun u => z = ((), u)) (tmAt tm_shR 13 D cy ad A) A) args s 0 0 A) 1 D cy tm_shR ad 13 [] A z 210 [] [] w (K0 w)) (hL : ∀ (w : tmM), tmG p l e ({ frames := 2, cells := 0, slots := 0, locals := 42 } : Room) s m args below meth c 0 0 (MQ below (va_Qv (fun u => z = ((), u)) (tmAt tm_shR 13 D cy ad A) A) args s 0 0 A) 1 D cy tm_shR ad 13 [] A z 146 [(0, .ref (ad 0))] [] w (L w)) (s0 : Int32) (v : tmM) : tmG p l e ({ frames := 2, cells := 0, slots := 0, locals := 42 } : Room) s m args below meth c 0 0 (MQ below (va_Qv (fun u => z = ((), u)) (tmAt tm_shR 13 D cy ad A) A) args s 0 0 A) 1 D cy tm_shR ad 13 [] A z 194 [(0, .ref (ad 0))] [.int s0, .ref (ad 0)] v (f_X8_goesOn_194 K0 L s0 v) := by
  unfold f_X8_goesOn_194
  refine tg_put 0 20 C0 dX8_goesOn_194 (by decide) rfl rfl tu_X8 tyX8_ok nmX8 (by decide) tf_X8_330 rfl rfl rfl rfl rfl rfl ?_
  refine tg_letm (fun v27 _ => ?_)
  refine tg_aload_n 0 C0 dX8_goesOn_197 rfl rfl ?_
  refine tg_dup C0 dX8_goesOn_198 rfl ?_
  refine tg_get 0 17 C0 dX8_goesOn_199 (by decide) rfl rfl tu_X8 (by decide) tf_X8_312 rfl rfl rfl ?_
  refine tg_iconst (x := 1) C0 dX8_goesOn_202 (by decide) ?_
  refine tg_iadd C0 dX8_goesOn_203 ?_
  refine tg_put 0 17 C0 dX8_goesOn_204 (by decide) rfl rfl tu_X8 tyX8_ok nmX8 (by decide) tf_X8_312 rfl rfl rfl rfl rfl rfl ?_
  refine tg_letm (fun v28 _ => ?_)
  refine tg_goto 146 C0 dX8_goesOn_207 (by decide) ?_
  exact hL v28
def f_X8_goesOn_146b (K0 : tmM → Option (Unit × tmM)) (L : tmM → Option (Unit × tmM)) (v : tmM) : Option (Unit × tmM) := (if (v 0 19) = 2 then tm_cl (f_X8_isDigit v) fun r24 v23 => (if r24 = 0 then K0 v23 else (if (v23 0 20) ≤ 10000 then tm_cl (f_X8_see v23) fun r26 v25 => f_X8_goesOn_194 K0 L (((10 * (v23 0 20)) + r26) - 48) v25 else f_X8_goesOn_194 K0 L (v23 0 20) v23)) else K0 v)
set_option maxRecDepth 100000 in
set_option maxHeartbeats 4000000 in
theorem w_X8_goesOn_146b {p : Program} {l : Launch} {e : Env} {s : State} {m : MethodId} {args : Array Value} {below : List Frame} {meth : Method} {c : Code} {D : va_G} {cy : Nat → ClassId} {ad : Nat → Nat} {A : Nat → Prop} {z : (Unit × tmM)} {K0 : tmM → Option (Unit × tmM)} {L : tmM → Option (Unit × tmM)} (C0 : tmC p s m args meth c cX8_goesOn 1 none RX8 TMW tm_NWR D cy tm_shR ad 13 [] A) (hK0 : ∀ (w : tmM), tmG p l e ({ frames := 2, cells := 0, slots := 0, locals := 42 } : Room) s m args below meth c 0 0 (MQ below (va_Qv (fun u => z = ((), u)) (tmAt tm_shR 13 D cy ad A) A) args s 0 0 A) 1 D cy tm_shR ad 13 [] A z 210 [] [] w (K0 w)) (hL : ∀ (w : tmM), tmG p l e ({ frames := 2, cells := 0, slots := 0, locals := 42 } : Room) s m args below meth c 0 0 (MQ below (va_Qv (fun u => z = ((), u)) (tmAt tm_shR 13 D cy ad A) A) args s 0 0 A) 1 D cy tm_shR ad 13 [] A z 146 [(0, .ref (ad 0))] [] w (L w)) (v : tmM) : tmG p l e ({ frames := 2, cells := 0, slots := 0, locals := 42 } : Room) s m args below meth c 0 0 (MQ below (va_Qv (fun u => z = ((), u)) (tmAt tm_shR 13 D cy ad A) A) args s 0 0 A) 1 D cy tm_shR ad 13 [] A z 146 [(0, .ref (ad 0))] [] v (f_X8_goesOn_146b K0 L v) := by
  unfold f_X8_goesOn_146b
  refine tg_aload_n 0 C0 dX8_goesOn_146 rfl rfl ?_
  refine tg_get 0 19 C0 dX8_goesOn_147 (by decide) rfl rfl tu_X8 (by decide) tf_X8_327 rfl rfl rfl ?_
  refine tg_iconst (x := 2) C0 dX8_goesOn_150 (by decide) ?_
  refine tg_icmp_ne 210 C0 dX8_goesOn_151 (by decide) (fun _ => ?_) (fun _ => ?_)
  · refine tg_sub [] rfl ?_
    exact hK0 v
  · refine tg_aload_n 0 C0 dX8_goesOn_154 rfl rfl ?_
    refine tg_callVi (As := []) 0 0 C0 dX8_goesOn_155 (c_X8_isDigit l v) rfl rfl (by decide) rfl rfl (tm_gV tl_X8_324 ti_X8_isDigit ts_X8_isDigit tn_X8 tc_X8_isDigit)  rfl rfl rfl rfl (by decide +kernel) ⟨by decide, by decide⟩ (Nat.le_of_ble_eq_true rfl) ⟨by decide, by decide⟩ (fun r24 v23 _ => ?_)
    refine tg_if_eq 210 C0 dX8_goesOn_158 (by decide) (fun _ => ?_) (fun _ => ?_)
    · refine tg_sub [] rfl ?_
      exact hK0 v23
    · refine tg_aload_n 0 C0 dX8_goesOn_161 rfl rfl ?_
      refine tg_aload_n 0 C0 dX8_goesOn_162 rfl rfl ?_
      refine tg_get 0 20 C0 dX8_goesOn_163 (by decide) rfl rfl tu_X8 (by decide) tf_X8_330 rfl rfl rfl ?_
      refine tg_sipush (x := 10000) C0 dX8_goesOn_166 (by decide) ?_
      refine tg_icmp_le 179 C0 dX8_goesOn_169 (by decide) (fun _ => ?_) (fun _ => ?_)
      · refine tg_bipush (x := 10) C0 dX8_goesOn_179 (by decide) ?_
        refine tg_aload_n 0 C0 dX8_goesOn_181 rfl rfl ?_
        refine tg_get 0 20 C0 dX8_goesOn_182 (by decide) rfl rfl tu_X8 (by decide) tf_X8_330 rfl rfl rfl ?_
        refine tg_imul C0 dX8_goesOn_185 ?_
        refine tg_aload_n 0 C0 dX8_goesOn_186 rfl rfl ?_
        refine tg_callVi (As := []) 0 0 C0 dX8_goesOn_187 (c_X8_see l v23) rfl rfl (by decide) rfl rfl (tm_gV tl_X8_315 ti_X8_see ts_X8_see tn_X8 tc_X8_see)  rfl rfl rfl rfl (by decide +kernel) ⟨by decide, by decide⟩ (Nat.le_of_ble_eq_true rfl) ⟨by decide, by decide⟩ (fun r26 v25 _ => ?_)
        refine tg_iadd C0 dX8_goesOn_190 ?_
        refine tg_bipush (x := 48) C0 dX8_goesOn_191 (by decide) ?_
        refine tg_isub C0 dX8_goesOn_193 ?_
        exact w_X8_goesOn_194 C0 hK0 hL (((10 * (v23 0 20)) + r26) - 48) v25
      · refine tg_aload_n 0 C0 dX8_goesOn_172 rfl rfl ?_
        refine tg_get 0 20 C0 dX8_goesOn_173 (by decide) rfl rfl tu_X8 (by decide) tf_X8_330 rfl rfl rfl ?_
        refine tg_goto 194 C0 dX8_goesOn_176 (by decide) ?_
        exact w_X8_goesOn_194 C0 hK0 hL (v23 0 20) v23
def f_X8_goesOn_146 (K0 : tmM → Option (Unit × tmM)) : Nat → tmM → Option (Unit × tmM)
  | 0 => fun _ => none
  | n + 1 => f_X8_goesOn_146b K0 (f_X8_goesOn_146 K0 n)
theorem w_X8_goesOn_146 {p : Program} {l : Launch} {e : Env} {s : State} {m : MethodId} {args : Array Value} {below : List Frame} {meth : Method} {c : Code} {D : va_G} {cy : Nat → ClassId} {ad : Nat → Nat} {A : Nat → Prop} {z : (Unit × tmM)} {K0 : tmM → Option (Unit × tmM)} (C0 : tmC p s m args meth c cX8_goesOn 1 none RX8 TMW tm_NWR D cy tm_shR ad 13 [] A) (hK0 : ∀ (w : tmM), tmG p l e ({ frames := 2, cells := 0, slots := 0, locals := 42 } : Room) s m args below meth c 0 0 (MQ below (va_Qv (fun u => z = ((), u)) (tmAt tm_shR 13 D cy ad A) A) args s 0 0 A) 1 D cy tm_shR ad 13 [] A z 210 [] [] w (K0 w)) (nn : Nat) : ∀ (v : tmM), tmG p l e ({ frames := 2, cells := 0, slots := 0, locals := 42 } : Room) s m args below meth c 0 0 (MQ below (va_Qv (fun u => z = ((), u)) (tmAt tm_shR 13 D cy ad A) A) args s 0 0 A) 1 D cy tm_shR ad 13 [] A z 146 [(0, .ref (ad 0))] [] v (f_X8_goesOn_146 K0 nn v) := by
  induction nn with
  | zero => intro _; exact tg_none
  | succ n ih => intro v; exact w_X8_goesOn_146b C0 hK0 ih v
def f_X8_goesOn_114 (s0 s1 : Int32) (v : tmM) : Option (Unit × tmM) := tm_lt (tm_up v 0 17 (s1 + s0)) fun v18 => f_X8_goesOn_118 (fun v22 => f_X8_goesOn_146 (fun v29 => some ((), v29)) 10000 v22) 10000 v18
set_option maxRecDepth 100000 in
set_option maxHeartbeats 4000000 in
theorem w_X8_goesOn_114 {p : Program} {l : Launch} {e : Env} {s : State} {m : MethodId} {args : Array Value} {below : List Frame} {meth : Method} {c : Code} {D : va_G} {cy : Nat → ClassId} {ad : Nat → Nat} {A : Nat → Prop} {z : (Unit × tmM)} (C0 : tmC p s m args meth c cX8_goesOn 1 none RX8 TMW tm_NWR D cy tm_shR ad 13 [] A) (s0 s1 : Int32) (v : tmM) : tmG p l e ({ frames := 2, cells := 0, slots := 0, locals := 42 } : Room) s m args below meth c 0 0 (MQ below (va_Qv (fun u => z = ((), u)) (tmAt tm_shR 13 D cy ad A) A) args s 0 0 A) 1 D cy tm_shR ad 13 [] A z 114 [(0, .ref (ad 0))] [.int s0, .int s1, .ref (ad 0)] v (f_X8_goesOn_114 s0 s1 v) := by
  unfold f_X8_goesOn_114
  refine tg_iadd C0 dX8_goesOn_114 ?_
  refine tg_put 0 17 C0 dX8_goesOn_115 (by decide) rfl rfl tu_X8 tyX8_ok nmX8 (by decide) tf_X8_312 rfl rfl rfl rfl rfl rfl ?_
  refine tg_letm (fun v18 _ => ?_)
  refine w_X8_goesOn_118 C0 (fun v22 => ?_) 10000 v18
  refine w_X8_goesOn_146 C0 (fun v29 => ?_) 10000 v22
  exact tg_vret C0 dX8_goesOn_210
def f_X8_goesOn_88 (s0 : Int32) (v : tmM) : Option (Unit × tmM) := tm_lt (tm_up v 0 19 s0) fun v16 => tm_lt (tm_up v16 0 20 0) fun v17 => (if (v17 0 19) < 3 then f_X8_goesOn_114 0 (v17 0 17) v17 else f_X8_goesOn_114 1 (v17 0 17) v17)
set_option maxRecDepth 100000 in
set_option maxHeartbeats 4000000 in
theorem w_X8_goesOn_88 {p : Program} {l : Launch} {e : Env} {s : State} {m : MethodId} {args : Array Value} {below : List Frame} {meth : Method} {c : Code} {D : va_G} {cy : Nat → ClassId} {ad : Nat → Nat} {A : Nat → Prop} {z : (Unit × tmM)} (C0 : tmC p s m args meth c cX8_goesOn 1 none RX8 TMW tm_NWR D cy tm_shR ad 13 [] A) (s0 : Int32) (v : tmM) : tmG p l e ({ frames := 2, cells := 0, slots := 0, locals := 42 } : Room) s m args below meth c 0 0 (MQ below (va_Qv (fun u => z = ((), u)) (tmAt tm_shR 13 D cy ad A) A) args s 0 0 A) 1 D cy tm_shR ad 13 [] A z 88 [(0, .ref (ad 0))] [.int s0, .ref (ad 0)] v (f_X8_goesOn_88 s0 v) := by
  unfold f_X8_goesOn_88
  refine tg_put 0 19 C0 dX8_goesOn_88 (by decide) rfl rfl tu_X8 tyX8_ok nmX8 (by decide) tf_X8_327 rfl rfl rfl rfl rfl rfl ?_
  refine tg_letm (fun v16 _ => ?_)
  refine tg_aload_n 0 C0 dX8_goesOn_91 rfl rfl ?_
  refine tg_iconst (x := 0) C0 dX8_goesOn_92 (by decide) ?_
  refine tg_put 0 20 C0 dX8_goesOn_93 (by decide) rfl rfl tu_X8 tyX8_ok nmX8 (by decide) tf_X8_330 rfl rfl rfl rfl rfl rfl ?_
  refine tg_letm (fun v17 _ => ?_)
  refine tg_aload_n 0 C0 dX8_goesOn_96 rfl rfl ?_
  refine tg_dup C0 dX8_goesOn_97 rfl ?_
  refine tg_get 0 17 C0 dX8_goesOn_98 (by decide) rfl rfl tu_X8 (by decide) tf_X8_312 rfl rfl rfl ?_
  refine tg_aload_n 0 C0 dX8_goesOn_101 rfl rfl ?_
  refine tg_get 0 19 C0 dX8_goesOn_102 (by decide) rfl rfl tu_X8 (by decide) tf_X8_327 rfl rfl rfl ?_
  refine tg_iconst (x := 3) C0 dX8_goesOn_105 (by decide) ?_
  refine tg_icmp_lt 113 C0 dX8_goesOn_106 (by decide) (fun _ => ?_) (fun _ => ?_)
  · refine tg_iconst (x := 0) C0 dX8_goesOn_113 (by decide) ?_
    exact w_X8_goesOn_114 C0 0 (v17 0 17) v17
  · refine tg_iconst (x := 1) C0 dX8_goesOn_109 (by decide) ?_
    refine tg_goto 114 C0 dX8_goesOn_110 (by decide) ?_
    exact w_X8_goesOn_114 C0 1 (v17 0 17) v17
def f_X8_goesOn (v : tmM) : Option (Unit × tmM) := f_X8_goesOn_0 (fun v6 => tm_lt (tm_up v6 0 18 (v6 0 17)) fun v7 => tm_cl (f_X8_see v7) fun r9 v8 => (if r9 = (-1) then f_X8_goesOn_88 0 v8 else tm_cl (f_X8_isSmall v8) fun r11 v10 => (if r11 = 0 then tm_cl (f_X8_isDigit v10) fun r13 v12 => (if r13 = 0 then tm_cl (f_X8_see v12) fun r15 v14 => (if r15 = 59 then f_X8_goesOn_88 3 v14 else f_X8_goesOn_88 4 v14) else f_X8_goesOn_88 2 v12) else f_X8_goesOn_88 1 v10))) 10000 v
set_option maxRecDepth 100000 in
set_option maxHeartbeats 4000000 in
theorem w_X8_goesOn {p : Program} {l : Launch} {e : Env} {s : State} {m : MethodId} {args : Array Value} {below : List Frame} {meth : Method} {c : Code} {D : va_G} {cy : Nat → ClassId} {ad : Nat → Nat} {A : Nat → Prop} {z : (Unit × tmM)} (C0 : tmC p s m args meth c cX8_goesOn 1 none RX8 TMW tm_NWR D cy tm_shR ad 13 [] A) (v : tmM) : tmG p l e ({ frames := 2, cells := 0, slots := 0, locals := 42 } : Room) s m args below meth c 0 0 (MQ below (va_Qv (fun u => z = ((), u)) (tmAt tm_shR 13 D cy ad A) A) args s 0 0 A) 1 D cy tm_shR ad 13 [] A z 0 [(0, .ref (ad 0))] [] v (f_X8_goesOn v) := by
  unfold f_X8_goesOn
  refine w_X8_goesOn_0 C0 (fun v6 => ?_) 10000 v
  refine tg_aload_n 0 C0 dX8_goesOn_31 rfl rfl ?_
  refine tg_aload_n 0 C0 dX8_goesOn_32 rfl rfl ?_
  refine tg_get 0 17 C0 dX8_goesOn_33 (by decide) rfl rfl tu_X8 (by decide) tf_X8_312 rfl rfl rfl ?_
  refine tg_put 0 18 C0 dX8_goesOn_36 (by decide) rfl rfl tu_X8 tyX8_ok nmX8 (by decide) tf_X8_318 rfl rfl rfl rfl rfl rfl ?_
  refine tg_letm (fun v7 _ => ?_)
  refine tg_aload_n 0 C0 dX8_goesOn_39 rfl rfl ?_
  refine tg_aload_n 0 C0 dX8_goesOn_40 rfl rfl ?_
  refine tg_callVi (As := []) 0 0 C0 dX8_goesOn_41 (c_X8_see l v7) rfl rfl (by decide) rfl rfl (tm_gV tl_X8_315 ti_X8_see ts_X8_see tn_X8 tc_X8_see)  rfl rfl rfl rfl (by decide +kernel) ⟨by decide, by decide⟩ (Nat.le_of_ble_eq_true rfl) ⟨by decide, by decide⟩ (fun r9 v8 _ => ?_)
  refine tg_iconst (x := (-1)) C0 dX8_goesOn_44 (by decide) ?_
  refine tg_icmp_ne 52 C0 dX8_goesOn_45 (by decide) (fun _ => ?_) (fun _ => ?_)
  · refine tg_aload_n 0 C0 dX8_goesOn_52 rfl rfl ?_
    refine tg_callVi (As := []) 0 0 C0 dX8_goesOn_53 (c_X8_isSmall l v8) rfl rfl (by decide) rfl rfl (tm_gV tl_X8_321 ti_X8_isSmall ts_X8_isSmall tn_X8 tc_X8_isSmall)  rfl rfl rfl rfl (by decide +kernel) ⟨by decide, by decide⟩ (Nat.le_of_ble_eq_true rfl) ⟨by decide, by decide⟩ (fun r11 v10 _ => ?_)
    refine tg_if_eq 63 C0 dX8_goesOn_56 (by decide) (fun _ => ?_) (fun _ => ?_)
    · refine tg_aload_n 0 C0 dX8_goesOn_63 rfl rfl ?_
      refine tg_callVi (As := []) 0 0 C0 dX8_goesOn_64 (c_X8_isDigit l v10) rfl rfl (by decide) rfl rfl (tm_gV tl_X8_324 ti_X8_isDigit ts_X8_isDigit tn_X8 tc_X8_isDigit)  rfl rfl rfl rfl (by decide +kernel) ⟨by decide, by decide⟩ (Nat.le_of_ble_eq_true rfl) ⟨by decide, by decide⟩ (fun r13 v12 _ => ?_)
      refine tg_if_eq 74 C0 dX8_goesOn_67 (by decide) (fun _ => ?_) (fun _ => ?_)
      · refine tg_aload_n 0 C0 dX8_goesOn_74 rfl rfl ?_
        refine tg_callVi (As := []) 0 0 C0 dX8_goesOn_75 (c_X8_see l v12) rfl rfl (by decide) rfl rfl (tm_gV tl_X8_315 ti_X8_see ts_X8_see tn_X8 tc_X8_see)  rfl rfl rfl rfl (by decide +kernel) ⟨by decide, by decide⟩ (Nat.le_of_ble_eq_true rfl) ⟨by decide, by decide⟩ (fun r15 v14 _ => ?_)
        refine tg_bipush (x := 59) C0 dX8_goesOn_78 (by decide) ?_
        refine tg_icmp_ne 87 C0 dX8_goesOn_80 (by decide) (fun _ => ?_) (fun _ => ?_)
        · refine tg_iconst (x := 4) C0 dX8_goesOn_87 (by decide) ?_
          exact w_X8_goesOn_88 C0 4 v14
        · refine tg_iconst (x := 3) C0 dX8_goesOn_83 (by decide) ?_
          refine tg_goto 88 C0 dX8_goesOn_84 (by decide) ?_
          exact w_X8_goesOn_88 C0 3 v14
      · refine tg_iconst (x := 2) C0 dX8_goesOn_70 (by decide) ?_
        refine tg_goto 88 C0 dX8_goesOn_71 (by decide) ?_
        exact w_X8_goesOn_88 C0 2 v12
    · refine tg_iconst (x := 1) C0 dX8_goesOn_59 (by decide) ?_
      refine tg_goto 88 C0 dX8_goesOn_60 (by decide) ?_
      exact w_X8_goesOn_88 C0 1 v10
  · refine tg_iconst (x := 0) C0 dX8_goesOn_48 (by decide) ?_
    refine tg_goto 88 C0 dX8_goesOn_49 (by decide) ?_
    exact w_X8_goesOn_88 C0 0 v8
theorem c_X8_goesOn (l : Launch) (v : tmM) : tmMv tm_NWR tm_shR 13 l yX8_goesOn (Cond.code yX8_goesOn cX8_goesOn 1 none :: TMW) ({ frames := 2, cells := 0, slots := 0, locals := 42 } : Room) (fun ad => [.ref (ad 0)]) v (f_X8_goesOn v) :=
  tmMv.of (cc := cX8_goesOn) (nL := 1) (by decide +kernel) rfl tm_NWR_ok (fun _ => Nat.le_of_ble_eq_true rfl) (fun p e s m args below meth c A D cy ad z C0 => w_X8_goesOn C0 v)
-- ----- X8_fails
theorem dX8_fails_0 : decode cX8_fails 0 = .ok (.aload_n 0, 1) := by decide +kernel
theorem dX8_fails_1 : decode cX8_fails 1 = .ok (.getfield 333, 3) := by decide +kernel
theorem dX8_fails_4 : decode cX8_fails 4 = .ok (.ifCond .ne 16, 3) := by decide +kernel
theorem dX8_fails_7 : decode cX8_fails 7 = .ok (.aload_n 0, 1) := by decide +kernel
theorem dX8_fails_8 : decode cX8_fails 8 = .ok (.iload_n 1, 1) := by decide +kernel
theorem dX8_fails_9 : decode cX8_fails 9 = .ok (.putfield 333, 3) := by decide +kernel
theorem dX8_fails_12 : decode cX8_fails 12 = .ok (.aload_n 0, 1) := by decide +kernel
theorem dX8_fails_13 : decode cX8_fails 13 = .ok (.aload_n 0, 1) := by decide +kernel
theorem dX8_fails_14 : decode cX8_fails 14 = .ok (.getfield 318, 3) := by decide +kernel
theorem dX8_fails_17 : decode cX8_fails 17 = .ok (.putfield 36, 3) := by decide +kernel
theorem dX8_fails_20 : decode cX8_fails 20 = .ok (.return_, 1) := by decide +kernel
theorem tf_X8_333 : Cond.fieldLink RX8 333 "TableMoveModel" (TX8 21).2.1 (TX8 21).2.2.1 ∈ TMW := tm_in 1572 (by decide +kernel) (by decide +kernel)
theorem tf_X8_36 : Cond.fieldLink RX8 36 "TableMoveModel" (TX8 22).2.1 (TX8 22).2.2.1 ∈ TMW := tm_in 1573 (by decide +kernel) (by decide +kernel)
def f_X8_fails (x1 : Int32) (v : tmM) : Option (Unit × tmM) := (if (v 0 21) = 0 then tm_lt (tm_up v 0 21 x1) fun v1 => tm_lt (tm_up v1 0 22 (v1 0 18)) fun v2 => some ((), v2) else some ((), v))
set_option maxRecDepth 100000 in
set_option maxHeartbeats 4000000 in
theorem w_X8_fails {p : Program} {l : Launch} {e : Env} {s : State} {m : MethodId} {args : Array Value} {below : List Frame} {meth : Method} {c : Code} {D : va_G} {cy : Nat → ClassId} {ad : Nat → Nat} {A : Nat → Prop} {z : (Unit × tmM)} (C0 : tmC p s m args meth c cX8_fails 2 none RX8 TMW tm_NWR D cy tm_shR ad 13 [] A) (x1 : Int32) (v : tmM) : tmG p l e ({ frames := 0, cells := 0, slots := 0, locals := 0 } : Room) s m args below meth c 0 0 (MQ below (va_Qv (fun u => z = ((), u)) (tmAt tm_shR 13 D cy ad A) A) args s 0 0 A) 2 D cy tm_shR ad 13 [] A z 0 [(0, .ref (ad 0)), (1, .int x1)] [] v (f_X8_fails x1 v) := by
  unfold f_X8_fails
  refine tg_aload_n 0 C0 dX8_fails_0 rfl rfl ?_
  refine tg_get 0 21 C0 dX8_fails_1 (by decide) rfl rfl tu_X8 (by decide) tf_X8_333 rfl rfl rfl ?_
  refine tg_if_ne 20 C0 dX8_fails_4 (by decide) (fun _ => ?_) (fun _ => ?_)
  · exact tg_vret C0 dX8_fails_20
  · refine tg_aload_n 0 C0 dX8_fails_7 rfl rfl ?_
    refine tg_iload_n 1 C0 dX8_fails_8 rfl rfl ?_
    refine tg_put 0 21 C0 dX8_fails_9 (by decide) rfl rfl tu_X8 tyX8_ok nmX8 (by decide) tf_X8_333 rfl rfl rfl rfl rfl rfl ?_
    refine tg_letm (fun v1 _ => ?_)
    refine tg_aload_n 0 C0 dX8_fails_12 rfl rfl ?_
    refine tg_aload_n 0 C0 dX8_fails_13 rfl rfl ?_
    refine tg_get 0 18 C0 dX8_fails_14 (by decide) rfl rfl tu_X8 (by decide) tf_X8_318 rfl rfl rfl ?_
    refine tg_put 0 22 C0 dX8_fails_17 (by decide) rfl rfl tu_X8 tyX8_ok nmX8 (by decide) tf_X8_36 rfl rfl rfl rfl rfl rfl ?_
    refine tg_letm (fun v2 _ => ?_)
    exact tg_vret C0 dX8_fails_20
theorem c_X8_fails (l : Launch) (x1 : Int32) (v : tmM) : tmMv tm_NWR tm_shR 13 l yX8_fails (Cond.code yX8_fails cX8_fails 2 none :: TMW) ({ frames := 0, cells := 0, slots := 0, locals := 0 } : Room) (fun ad => [.ref (ad 0), .int x1]) v (f_X8_fails x1 v) :=
  tmMv.of (cc := cX8_fails) (nL := 2) (by decide +kernel) rfl tm_NWR_ok (fun _ => Nat.le_of_ble_eq_true rfl) (fun p e s m args below meth c A D cy ad z C0 => w_X8_fails C0 x1 v)
-- ----- X8_must
theorem dX8_must_0 : decode cX8_must 0 = .ok (.iload_n 1, 1) := by decide +kernel
theorem dX8_must_1 : decode cX8_must 1 = .ok (.ifCond .ne 8, 3) := by decide +kernel
theorem dX8_must_4 : decode cX8_must 4 = .ok (.aload_n 0, 1) := by decide +kernel
theorem dX8_must_5 : decode cX8_must 5 = .ok (.iload_n 2, 1) := by decide +kernel
theorem dX8_must_6 : decode cX8_must 6 = .ok (.invokevirtual 336, 3) := by decide +kernel
theorem dX8_must_9 : decode cX8_must 9 = .ok (.return_, 1) := by decide +kernel
theorem tl_X8_336 : Cond.methodLink RX8 336 yX8_fails ∈ TMW := tm_in 2117 (by decide +kernel) (by decide +kernel)
theorem ti_X8_fails : Cond.instanceMethod yX8_fails ∈ TMW := tm_in 2119 (by decide +kernel) (by decide +kernel)
theorem ts_X8_fails : Cond.selects RX8 yX8_fails yX8_fails ∈ TMW := tm_in 105 (by decide +kernel) (by decide +kernel)
theorem tc_X8_fails : Cond.code yX8_fails cX8_fails 2 none ∈ TMW := tm_in 2120 (by decide +kernel) (by decide +kernel)
def f_X8_must (x1 x2 : Int32) (v : tmM) : Option (Unit × tmM) := (if x1 = 0 then tm_cl (f_X8_fails x2 v) fun _ v1 => some ((), v1) else some ((), v))
set_option maxRecDepth 100000 in
set_option maxHeartbeats 4000000 in
theorem w_X8_must {p : Program} {l : Launch} {e : Env} {s : State} {m : MethodId} {args : Array Value} {below : List Frame} {meth : Method} {c : Code} {D : va_G} {cy : Nat → ClassId} {ad : Nat → Nat} {A : Nat → Prop} {z : (Unit × tmM)} (C0 : tmC p s m args meth c cX8_must 3 none RX8 TMW tm_NWR D cy tm_shR ad 13 [] A) (x1 x2 : Int32) (v : tmM) : tmG p l e ({ frames := 1, cells := 0, slots := 0, locals := 21 } : Room) s m args below meth c 0 0 (MQ below (va_Qv (fun u => z = ((), u)) (tmAt tm_shR 13 D cy ad A) A) args s 0 0 A) 3 D cy tm_shR ad 13 [] A z 0 [(0, .ref (ad 0)), (1, .int x1), (2, .int x2)] [] v (f_X8_must x1 x2 v) := by
  unfold f_X8_must
  refine tg_iload_n 1 C0 dX8_must_0 rfl rfl ?_
  refine tg_if_ne 9 C0 dX8_must_1 (by decide) (fun _ => ?_) (fun _ => ?_)
  · exact tg_vret C0 dX8_must_9
  · refine tg_aload_n 0 C0 dX8_must_4 rfl rfl ?_
    refine tg_iload_n 2 C0 dX8_must_5 rfl rfl ?_
    refine tg_callVv (As := [.int x2]) 0 1 C0 dX8_must_6 (c_X8_fails l x2 v) rfl rfl (by decide) rfl rfl (tm_gV tl_X8_336 ti_X8_fails ts_X8_fails tn_X8 tc_X8_fails)  rfl rfl rfl rfl (by decide +kernel) ⟨by decide, by decide⟩ (Nat.le_of_ble_eq_true rfl) ⟨by decide, by decide⟩ (fun v1 _ => ?_)
    exact tg_vret C0 dX8_must_9
theorem c_X8_must (l : Launch) (x1 x2 : Int32) (v : tmM) : tmMv tm_NWR tm_shR 13 l yX8_must (Cond.code yX8_must cX8_must 3 none :: TMW) ({ frames := 1, cells := 0, slots := 0, locals := 21 } : Room) (fun ad => [.ref (ad 0), .int x1, .int x2]) v (f_X8_must x1 x2 v) :=
  tmMv.of (cc := cX8_must) (nL := 3) (by decide +kernel) rfl tm_NWR_ok (fun _ => Nat.le_of_ble_eq_true rfl) (fun p e s m args below meth c A D cy ad z C0 => w_X8_must C0 x1 x2 v)
-- ----- X8_wordHere
theorem dX8_wordHere_0 : decode cX8_wordHere 0 = .ok (.iconst 0, 1) := by decide +kernel
theorem dX8_wordHere_1 : decode cX8_wordHere 1 = .ok (.istore_n 1, 1) := by decide +kernel
theorem dX8_wordHere_2 : decode cX8_wordHere 2 = .ok (.iconst 0, 1) := by decide +kernel
theorem dX8_wordHere_3 : decode cX8_wordHere 3 = .ok (.istore_n 2, 1) := by decide +kernel
theorem dX8_wordHere_4 : decode cX8_wordHere 4 = .ok (.aload_n 0, 1) := by decide +kernel
theorem dX8_wordHere_5 : decode cX8_wordHere 5 = .ok (.getfield 327, 3) := by decide +kernel
theorem dX8_wordHere_8 : decode cX8_wordHere 8 = .ok (.iconst 1, 1) := by decide +kernel
theorem dX8_wordHere_9 : decode cX8_wordHere 9 = .ok (.if_icmp .ne 112, 3) := by decide +kernel
theorem dX8_wordHere_12 : decode cX8_wordHere 12 = .ok (.iload_n 2, 1) := by decide +kernel
theorem dX8_wordHere_13 : decode cX8_wordHere 13 = .ok (.bipush 13, 2) := by decide +kernel
theorem dX8_wordHere_15 : decode cX8_wordHere 15 = .ok (.if_icmp .ge 106, 3) := by decide +kernel
theorem dX8_wordHere_18 : decode cX8_wordHere 18 = .ok (.iconst 0, 1) := by decide +kernel
theorem dX8_wordHere_19 : decode cX8_wordHere 19 = .ok (.istore_n 3, 1) := by decide +kernel
theorem dX8_wordHere_20 : decode cX8_wordHere 20 = .ok (.iconst 1, 1) := by decide +kernel
theorem dX8_wordHere_21 : decode cX8_wordHere 21 = .ok (.istore 4, 2) := by decide +kernel
theorem dX8_wordHere_23 : decode cX8_wordHere 23 = .ok (.aload_n 0, 1) := by decide +kernel
theorem dX8_wordHere_24 : decode cX8_wordHere 24 = .ok (.getfield 40, 3) := by decide +kernel
theorem dX8_wordHere_27 : decode cX8_wordHere 27 = .ok (.iload_n 1, 1) := by decide +kernel
theorem dX8_wordHere_28 : decode cX8_wordHere 28 = .ok (.iload_n 3, 1) := by decide +kernel
theorem dX8_wordHere_29 : decode cX8_wordHere 29 = .ok (.iadd, 1) := by decide +kernel
theorem dX8_wordHere_30 : decode cX8_wordHere 30 = .ok (.baload, 1) := by decide +kernel
theorem dX8_wordHere_31 : decode cX8_wordHere 31 = .ok (.bipush 32, 2) := by decide +kernel
theorem dX8_wordHere_33 : decode cX8_wordHere 33 = .ok (.if_icmp .eq 56, 3) := by decide +kernel
theorem dX8_wordHere_36 : decode cX8_wordHere 36 = .ok (.iload 4, 2) := by decide +kernel
theorem dX8_wordHere_38 : decode cX8_wordHere 38 = .ok (.ifCond .eq 42, 3) := by decide +kernel
theorem dX8_wordHere_41 : decode cX8_wordHere 41 = .ok (.aload_n 0, 1) := by decide +kernel
theorem dX8_wordHere_42 : decode cX8_wordHere 42 = .ok (.getfield 318, 3) := by decide +kernel
theorem dX8_wordHere_45 : decode cX8_wordHere 45 = .ok (.iload_n 3, 1) := by decide +kernel
theorem dX8_wordHere_46 : decode cX8_wordHere 46 = .ok (.iadd, 1) := by decide +kernel
theorem dX8_wordHere_47 : decode cX8_wordHere 47 = .ok (.aload_n 0, 1) := by decide +kernel
theorem dX8_wordHere_48 : decode cX8_wordHere 48 = .ok (.getfield 312, 3) := by decide +kernel
theorem dX8_wordHere_51 : decode cX8_wordHere 51 = .ok (.if_icmp .ge 29, 3) := by decide +kernel
theorem dX8_wordHere_54 : decode cX8_wordHere 54 = .ok (.aload_n 0, 1) := by decide +kernel
theorem dX8_wordHere_55 : decode cX8_wordHere 55 = .ok (.getfield 33, 3) := by decide +kernel
theorem dX8_wordHere_58 : decode cX8_wordHere 58 = .ok (.aload_n 0, 1) := by decide +kernel
theorem dX8_wordHere_59 : decode cX8_wordHere 59 = .ok (.getfield 318, 3) := by decide +kernel
theorem dX8_wordHere_62 : decode cX8_wordHere 62 = .ok (.iload_n 3, 1) := by decide +kernel
theorem dX8_wordHere_63 : decode cX8_wordHere 63 = .ok (.iadd, 1) := by decide +kernel
theorem dX8_wordHere_64 : decode cX8_wordHere 64 = .ok (.baload, 1) := by decide +kernel
theorem dX8_wordHere_65 : decode cX8_wordHere 65 = .ok (.aload_n 0, 1) := by decide +kernel
theorem dX8_wordHere_66 : decode cX8_wordHere 66 = .ok (.getfield 40, 3) := by decide +kernel
theorem dX8_wordHere_69 : decode cX8_wordHere 69 = .ok (.iload_n 1, 1) := by decide +kernel
theorem dX8_wordHere_70 : decode cX8_wordHere 70 = .ok (.iload_n 3, 1) := by decide +kernel
theorem dX8_wordHere_71 : decode cX8_wordHere 71 = .ok (.iadd, 1) := by decide +kernel
theorem dX8_wordHere_72 : decode cX8_wordHere 72 = .ok (.baload, 1) := by decide +kernel
theorem dX8_wordHere_73 : decode cX8_wordHere 73 = .ok (.if_icmp .ne 7, 3) := by decide +kernel
theorem dX8_wordHere_76 : decode cX8_wordHere 76 = .ok (.iconst 1, 1) := by decide +kernel
theorem dX8_wordHere_77 : decode cX8_wordHere 77 = .ok (.goto 4, 3) := by decide +kernel
theorem dX8_wordHere_80 : decode cX8_wordHere 80 = .ok (.iconst 0, 1) := by decide +kernel
theorem dX8_wordHere_81 : decode cX8_wordHere 81 = .ok (.istore 4, 2) := by decide +kernel
theorem dX8_wordHere_83 : decode cX8_wordHere 83 = .ok (.iinc 3 1, 3) := by decide +kernel
theorem dX8_wordHere_86 : decode cX8_wordHere 86 = .ok (.goto (-63), 3) := by decide +kernel
theorem dX8_wordHere_89 : decode cX8_wordHere 89 = .ok (.iload 4, 2) := by decide +kernel
theorem dX8_wordHere_91 : decode cX8_wordHere 91 = .ok (.ifCond .eq 18, 3) := by decide +kernel
theorem dX8_wordHere_94 : decode cX8_wordHere 94 = .ok (.aload_n 0, 1) := by decide +kernel
theorem dX8_wordHere_95 : decode cX8_wordHere 95 = .ok (.getfield 312, 3) := by decide +kernel
theorem dX8_wordHere_98 : decode cX8_wordHere 98 = .ok (.aload_n 0, 1) := by decide +kernel
theorem dX8_wordHere_99 : decode cX8_wordHere 99 = .ok (.getfield 318, 3) := by decide +kernel
theorem dX8_wordHere_102 : decode cX8_wordHere 102 = .ok (.isub, 1) := by decide +kernel
theorem dX8_wordHere_103 : decode cX8_wordHere 103 = .ok (.iload_n 3, 1) := by decide +kernel
theorem dX8_wordHere_104 : decode cX8_wordHere 104 = .ok (.if_icmp .ne 5, 3) := by decide +kernel
theorem dX8_wordHere_107 : decode cX8_wordHere 107 = .ok (.iload_n 2, 1) := by decide +kernel
theorem dX8_wordHere_108 : decode cX8_wordHere 108 = .ok (.ireturn, 1) := by decide +kernel
theorem dX8_wordHere_109 : decode cX8_wordHere 109 = .ok (.iload_n 1, 1) := by decide +kernel
theorem dX8_wordHere_110 : decode cX8_wordHere 110 = .ok (.iload_n 3, 1) := by decide +kernel
theorem dX8_wordHere_111 : decode cX8_wordHere 111 = .ok (.iconst 1, 1) := by decide +kernel
theorem dX8_wordHere_112 : decode cX8_wordHere 112 = .ok (.iadd, 1) := by decide +kernel
theorem dX8_wordHere_113 : decode cX8_wordHere 113 = .ok (.iadd, 1) := by decide +kernel
theorem dX8_wordHere_114 : decode cX8_wordHere 114 = .ok (.istore_n 1, 1) := by decide +kernel
theorem dX8_wordHere_115 : decode cX8_wordHere 115 = .ok (.iinc 2 1, 3) := by decide +kernel
theorem dX8_wordHere_118 : decode cX8_wordHere 118 = .ok (.goto (-114), 3) := by decide +kernel
theorem dX8_wordHere_121 : decode cX8_wordHere 121 = .ok (.iconst (-1), 1) := by decide +kernel
theorem dX8_wordHere_122 : decode cX8_wordHere 122 = .ok (.ireturn, 1) := by decide +kernel
theorem tf_X8_40 : Cond.fieldLink RX8 40 "TableMoveModel" (TX8 23).2.1 (TX8 23).2.2.1 ∈ TMW := tm_in 1574 (by decide +kernel) (by decide +kernel)
def f_X8_wordHere_81 (K0 : Int32 → Int32 → Int32 → Int32 → tmM → Option (Int32 × tmM)) (L : Int32 → Int32 → Int32 → Int32 → tmM → Option (Int32 × tmM)) (x1 x2 x3 s0 : Int32) (v : tmM) : Option (Int32 × tmM) := L x1 x2 (x3 + 1) s0 v
set_option maxRecDepth 100000 in
set_option maxHeartbeats 4000000 in
theorem w_X8_wordHere_81 {p : Program} {l : Launch} {e : Env} {s : State} {m : MethodId} {args : Array Value} {below : List Frame} {meth : Method} {c : Code} {D : va_G} {cy : Nat → ClassId} {ad : Nat → Nat} {A : Nat → Prop} {z : (Int32 × tmM)} {K0 : Int32 → Int32 → Int32 → Int32 → tmM → Option (Int32 × tmM)} {L : Int32 → Int32 → Int32 → Int32 → tmM → Option (Int32 × tmM)} (C0 : tmC p s m args meth c cX8_wordHere 5 (some .int) RX8 TMW tm_NWR D cy tm_shR ad 13 [] A) (hK0 : ∀ (a1 a2 a3 a4 : Int32) (w : tmM), tmG p l e ({ frames := 0, cells := 0, slots := 0, locals := 0 } : Room) s m args below meth c 0 0 (MQ below (va_Qi (fun r u => z = (r, u)) (tmAt tm_shR 13 D cy ad A) A) args s 0 0 A) 5 D cy tm_shR ad 13 [] A z 89 [(0, .ref (ad 0)), (1, .int a1), (2, .int a2), (3, .int a3), (4, .int a4)] [] w (K0 a1 a2 a3 a4 w)) (hL : ∀ (a1 a2 a3 a4 : Int32) (w : tmM), tmG p l e ({ frames := 0, cells := 0, slots := 0, locals := 0 } : Room) s m args below meth c 0 0 (MQ below (va_Qi (fun r u => z = (r, u)) (tmAt tm_shR 13 D cy ad A) A) args s 0 0 A) 5 D cy tm_shR ad 13 [] A z 23 [(0, .ref (ad 0)), (1, .int a1), (2, .int a2), (3, .int a3), (4, .int a4)] [] w (L a1 a2 a3 a4 w)) (x1 x2 x3 s0 : Int32) (v : tmM) : tmG p l e ({ frames := 0, cells := 0, slots := 0, locals := 0 } : Room) s m args below meth c 0 0 (MQ below (va_Qi (fun r u => z = (r, u)) (tmAt tm_shR 13 D cy ad A) A) args s 0 0 A) 5 D cy tm_shR ad 13 [] A z 81 [(0, .ref (ad 0)), (1, .int x1), (2, .int x2), (3, .int x3)] [.int s0] v (f_X8_wordHere_81 K0 L x1 x2 x3 s0 v) := by
  unfold f_X8_wordHere_81
  refine tg_istore [(4, .int s0), (0, .ref (ad 0)), (1, .int x1), (2, .int x2), (3, .int x3)] C0 dX8_wordHere_81 (by decide) rfl ?_
  refine tg_iinc [(3, .int (x3 + 1)), (4, .int s0), (0, .ref (ad 0)), (1, .int x1), (2, .int x2)] 4 C0 dX8_wordHere_83 rfl rfl (by decide) rfl ?_
  refine tg_goto 23 C0 dX8_wordHere_86 (by decide) ?_
  refine tg_sub [2, 3, 4, 0, 1] rfl ?_
  exact hL x1 x2 (x3 + 1) s0 v
def f_X8_wordHere_80 (K0 : Int32 → Int32 → Int32 → Int32 → tmM → Option (Int32 × tmM)) (L : Int32 → Int32 → Int32 → Int32 → tmM → Option (Int32 × tmM)) (x1 x2 x3 : Int32) (v : tmM) : Option (Int32 × tmM) := f_X8_wordHere_81 K0 L x1 x2 x3 0 v
set_option maxRecDepth 100000 in
set_option maxHeartbeats 4000000 in
theorem w_X8_wordHere_80 {p : Program} {l : Launch} {e : Env} {s : State} {m : MethodId} {args : Array Value} {below : List Frame} {meth : Method} {c : Code} {D : va_G} {cy : Nat → ClassId} {ad : Nat → Nat} {A : Nat → Prop} {z : (Int32 × tmM)} {K0 : Int32 → Int32 → Int32 → Int32 → tmM → Option (Int32 × tmM)} {L : Int32 → Int32 → Int32 → Int32 → tmM → Option (Int32 × tmM)} (C0 : tmC p s m args meth c cX8_wordHere 5 (some .int) RX8 TMW tm_NWR D cy tm_shR ad 13 [] A) (hK0 : ∀ (a1 a2 a3 a4 : Int32) (w : tmM), tmG p l e ({ frames := 0, cells := 0, slots := 0, locals := 0 } : Room) s m args below meth c 0 0 (MQ below (va_Qi (fun r u => z = (r, u)) (tmAt tm_shR 13 D cy ad A) A) args s 0 0 A) 5 D cy tm_shR ad 13 [] A z 89 [(0, .ref (ad 0)), (1, .int a1), (2, .int a2), (3, .int a3), (4, .int a4)] [] w (K0 a1 a2 a3 a4 w)) (hL : ∀ (a1 a2 a3 a4 : Int32) (w : tmM), tmG p l e ({ frames := 0, cells := 0, slots := 0, locals := 0 } : Room) s m args below meth c 0 0 (MQ below (va_Qi (fun r u => z = (r, u)) (tmAt tm_shR 13 D cy ad A) A) args s 0 0 A) 5 D cy tm_shR ad 13 [] A z 23 [(0, .ref (ad 0)), (1, .int a1), (2, .int a2), (3, .int a3), (4, .int a4)] [] w (L a1 a2 a3 a4 w)) (x1 x2 x3 : Int32) (v : tmM) : tmG p l e ({ frames := 0, cells := 0, slots := 0, locals := 0 } : Room) s m args below meth c 0 0 (MQ below (va_Qi (fun r u => z = (r, u)) (tmAt tm_shR 13 D cy ad A) A) args s 0 0 A) 5 D cy tm_shR ad 13 [] A z 80 [(0, .ref (ad 0)), (1, .int x1), (2, .int x2), (3, .int x3)] [] v (f_X8_wordHere_80 K0 L x1 x2 x3 v) := by
  unfold f_X8_wordHere_80
  refine tg_iconst (x := 0) C0 dX8_wordHere_80 (by decide) ?_
  exact w_X8_wordHere_81 C0 hK0 hL x1 x2 x3 0 v
def f_X8_wordHere_23b (K0 : Int32 → Int32 → Int32 → Int32 → tmM → Option (Int32 × tmM)) (L : Int32 → Int32 → Int32 → Int32 → tmM → Option (Int32 × tmM)) (x1 x2 x3 x4 : Int32) (v : tmM) : Option (Int32 × tmM) := tm_g (tm_ix (x1 + x3) 79) ((if (v 9 (x1 + x3).toNatClampNeg) = 32 then K0 x1 x2 x3 x4 v else (if x4 = 0 then f_X8_wordHere_80 K0 L x1 x2 x3 v else (if (v 0 17) ≤ ((v 0 18) + x3) then f_X8_wordHere_80 K0 L x1 x2 x3 v else tm_g (tm_ix ((v 0 18) + x3) 600) (tm_g (tm_ix (x1 + x3) 79) ((if (v 8 ((v 0 18) + x3).toNatClampNeg) = (v 9 (x1 + x3).toNatClampNeg) then f_X8_wordHere_81 K0 L x1 x2 x3 1 v else f_X8_wordHere_80 K0 L x1 x2 x3 v)))))))
set_option maxRecDepth 100000 in
set_option maxHeartbeats 4000000 in
theorem w_X8_wordHere_23b {p : Program} {l : Launch} {e : Env} {s : State} {m : MethodId} {args : Array Value} {below : List Frame} {meth : Method} {c : Code} {D : va_G} {cy : Nat → ClassId} {ad : Nat → Nat} {A : Nat → Prop} {z : (Int32 × tmM)} {K0 : Int32 → Int32 → Int32 → Int32 → tmM → Option (Int32 × tmM)} {L : Int32 → Int32 → Int32 → Int32 → tmM → Option (Int32 × tmM)} (C0 : tmC p s m args meth c cX8_wordHere 5 (some .int) RX8 TMW tm_NWR D cy tm_shR ad 13 [] A) (hK0 : ∀ (a1 a2 a3 a4 : Int32) (w : tmM), tmG p l e ({ frames := 0, cells := 0, slots := 0, locals := 0 } : Room) s m args below meth c 0 0 (MQ below (va_Qi (fun r u => z = (r, u)) (tmAt tm_shR 13 D cy ad A) A) args s 0 0 A) 5 D cy tm_shR ad 13 [] A z 89 [(0, .ref (ad 0)), (1, .int a1), (2, .int a2), (3, .int a3), (4, .int a4)] [] w (K0 a1 a2 a3 a4 w)) (hL : ∀ (a1 a2 a3 a4 : Int32) (w : tmM), tmG p l e ({ frames := 0, cells := 0, slots := 0, locals := 0 } : Room) s m args below meth c 0 0 (MQ below (va_Qi (fun r u => z = (r, u)) (tmAt tm_shR 13 D cy ad A) A) args s 0 0 A) 5 D cy tm_shR ad 13 [] A z 23 [(0, .ref (ad 0)), (1, .int a1), (2, .int a2), (3, .int a3), (4, .int a4)] [] w (L a1 a2 a3 a4 w)) (x1 x2 x3 x4 : Int32) (v : tmM) : tmG p l e ({ frames := 0, cells := 0, slots := 0, locals := 0 } : Room) s m args below meth c 0 0 (MQ below (va_Qi (fun r u => z = (r, u)) (tmAt tm_shR 13 D cy ad A) A) args s 0 0 A) 5 D cy tm_shR ad 13 [] A z 23 [(0, .ref (ad 0)), (1, .int x1), (2, .int x2), (3, .int x3), (4, .int x4)] [] v (f_X8_wordHere_23b K0 L x1 x2 x3 x4 v) := by
  unfold f_X8_wordHere_23b
  refine tg_aload_n 0 C0 dX8_wordHere_23 rfl rfl ?_
  refine tg_get 0 23 C0 dX8_wordHere_24 (by decide) rfl rfl tu_X8 (by decide) tf_X8_40 rfl rfl rfl ?_
  refine tg_iload_n 1 C0 dX8_wordHere_27 rfl rfl ?_
  refine tg_iload_n 3 C0 dX8_wordHere_28 rfl rfl ?_
  refine tg_iadd C0 dX8_wordHere_29 ?_
  refine tg_bald 9 C0 dX8_wordHere_30 (by decide) rfl (fun _ => ?_)
  refine tg_bipush (x := 32) C0 dX8_wordHere_31 (by decide) ?_
  refine tg_icmp_eq 89 C0 dX8_wordHere_33 (by decide) (fun _ => ?_) (fun _ => ?_)
  · exact hK0 x1 x2 x3 x4 v
  · refine tg_iload 4 C0 dX8_wordHere_36 rfl ?_
    refine tg_if_eq 80 C0 dX8_wordHere_38 (by decide) (fun _ => ?_) (fun _ => ?_)
    · refine tg_sub [0, 1, 2, 3] rfl ?_
      exact w_X8_wordHere_80 C0 hK0 hL x1 x2 x3 v
    · refine tg_aload_n 0 C0 dX8_wordHere_41 rfl rfl ?_
      refine tg_get 0 18 C0 dX8_wordHere_42 (by decide) rfl rfl tu_X8 (by decide) tf_X8_318 rfl rfl rfl ?_
      refine tg_iload_n 3 C0 dX8_wordHere_45 rfl rfl ?_
      refine tg_iadd C0 dX8_wordHere_46 ?_
      refine tg_aload_n 0 C0 dX8_wordHere_47 rfl rfl ?_
      refine tg_get 0 17 C0 dX8_wordHere_48 (by decide) rfl rfl tu_X8 (by decide) tf_X8_312 rfl rfl rfl ?_
      refine tg_icmp_ge 80 C0 dX8_wordHere_51 (by decide) (fun _ => ?_) (fun _ => ?_)
      · refine tg_sub [0, 1, 2, 3] rfl ?_
        exact w_X8_wordHere_80 C0 hK0 hL x1 x2 x3 v
      · refine tg_aload_n 0 C0 dX8_wordHere_54 rfl rfl ?_
        refine tg_get 0 15 C0 dX8_wordHere_55 (by decide) rfl rfl tu_X8 (by decide) tf_X8_33 rfl rfl rfl ?_
        refine tg_aload_n 0 C0 dX8_wordHere_58 rfl rfl ?_
        refine tg_get 0 18 C0 dX8_wordHere_59 (by decide) rfl rfl tu_X8 (by decide) tf_X8_318 rfl rfl rfl ?_
        refine tg_iload_n 3 C0 dX8_wordHere_62 rfl rfl ?_
        refine tg_iadd C0 dX8_wordHere_63 ?_
        refine tg_bald 8 C0 dX8_wordHere_64 (by decide) rfl (fun _ => ?_)
        refine tg_aload_n 0 C0 dX8_wordHere_65 rfl rfl ?_
        refine tg_get 0 23 C0 dX8_wordHere_66 (by decide) rfl rfl tu_X8 (by decide) tf_X8_40 rfl rfl rfl ?_
        refine tg_iload_n 1 C0 dX8_wordHere_69 rfl rfl ?_
        refine tg_iload_n 3 C0 dX8_wordHere_70 rfl rfl ?_
        refine tg_iadd C0 dX8_wordHere_71 ?_
        refine tg_bald 9 C0 dX8_wordHere_72 (by decide) rfl (fun _ => ?_)
        refine tg_icmp_ne 80 C0 dX8_wordHere_73 (by decide) (fun _ => ?_) (fun _ => ?_)
        · refine tg_sub [0, 1, 2, 3] rfl ?_
          exact w_X8_wordHere_80 C0 hK0 hL x1 x2 x3 v
        · refine tg_iconst (x := 1) C0 dX8_wordHere_76 (by decide) ?_
          refine tg_goto 81 C0 dX8_wordHere_77 (by decide) ?_
          refine tg_sub [0, 1, 2, 3] rfl ?_
          exact w_X8_wordHere_81 C0 hK0 hL x1 x2 x3 1 v
def f_X8_wordHere_23 (K0 : Int32 → Int32 → Int32 → Int32 → tmM → Option (Int32 × tmM)) : Nat → Int32 → Int32 → Int32 → Int32 → tmM → Option (Int32 × tmM)
  | 0 => fun _ _ _ _ _ => none
  | n + 1 => f_X8_wordHere_23b K0 (f_X8_wordHere_23 K0 n)
theorem w_X8_wordHere_23 {p : Program} {l : Launch} {e : Env} {s : State} {m : MethodId} {args : Array Value} {below : List Frame} {meth : Method} {c : Code} {D : va_G} {cy : Nat → ClassId} {ad : Nat → Nat} {A : Nat → Prop} {z : (Int32 × tmM)} {K0 : Int32 → Int32 → Int32 → Int32 → tmM → Option (Int32 × tmM)} (C0 : tmC p s m args meth c cX8_wordHere 5 (some .int) RX8 TMW tm_NWR D cy tm_shR ad 13 [] A) (hK0 : ∀ (a1 a2 a3 a4 : Int32) (w : tmM), tmG p l e ({ frames := 0, cells := 0, slots := 0, locals := 0 } : Room) s m args below meth c 0 0 (MQ below (va_Qi (fun r u => z = (r, u)) (tmAt tm_shR 13 D cy ad A) A) args s 0 0 A) 5 D cy tm_shR ad 13 [] A z 89 [(0, .ref (ad 0)), (1, .int a1), (2, .int a2), (3, .int a3), (4, .int a4)] [] w (K0 a1 a2 a3 a4 w)) (nn : Nat) : ∀ (x1 x2 x3 x4 : Int32) (v : tmM), tmG p l e ({ frames := 0, cells := 0, slots := 0, locals := 0 } : Room) s m args below meth c 0 0 (MQ below (va_Qi (fun r u => z = (r, u)) (tmAt tm_shR 13 D cy ad A) A) args s 0 0 A) 5 D cy tm_shR ad 13 [] A z 23 [(0, .ref (ad 0)), (1, .int x1), (2, .int x2), (3, .int x3), (4, .int x4)] [] v (f_X8_wordHere_23 K0 nn x1 x2 x3 x4 v) := by
  induction nn with
  | zero => intro _ _ _ _ _; exact tg_none
  | succ n ih => intro x1 x2 x3 x4 v; exact w_X8_wordHere_23b C0 hK0 ih x1 x2 x3 x4 v
def f_X8_wordHere_109 (K0 : tmM → Option (Int32 × tmM)) (L : Int32 → Int32 → tmM → Option (Int32 × tmM)) (x1 x2 x3 : Int32) (v : tmM) : Option (Int32 × tmM) := tm_lt (x1 + (x3 + 1)) fun y6 => L y6 (x2 + 1) v
set_option maxRecDepth 100000 in
set_option maxHeartbeats 4000000 in
theorem w_X8_wordHere_109 {p : Program} {l : Launch} {e : Env} {s : State} {m : MethodId} {args : Array Value} {below : List Frame} {meth : Method} {c : Code} {D : va_G} {cy : Nat → ClassId} {ad : Nat → Nat} {A : Nat → Prop} {z : (Int32 × tmM)} {K0 : tmM → Option (Int32 × tmM)} {L : Int32 → Int32 → tmM → Option (Int32 × tmM)} (C0 : tmC p s m args meth c cX8_wordHere 5 (some .int) RX8 TMW tm_NWR D cy tm_shR ad 13 [] A) (hK0 : ∀ (w : tmM), tmG p l e ({ frames := 0, cells := 0, slots := 0, locals := 0 } : Room) s m args below meth c 0 0 (MQ below (va_Qi (fun r u => z = (r, u)) (tmAt tm_shR 13 D cy ad A) A) args s 0 0 A) 5 D cy tm_shR ad 13 [] A z 121 [] [] w (K0 w)) (hL : ∀ (a1 a2 : Int32) (w : tmM), tmG p l e ({ frames := 0, cells := 0, slots := 0, locals := 0 } : Room) s m args below meth c 0 0 (MQ below (va_Qi (fun r u => z = (r, u)) (tmAt tm_shR 13 D cy ad A) A) args s 0 0 A) 5 D cy tm_shR ad 13 [] A z 4 [(0, .ref (ad 0)), (1, .int a1), (2, .int a2)] [] w (L a1 a2 w)) (x1 x2 x3 : Int32) (v : tmM) : tmG p l e ({ frames := 0, cells := 0, slots := 0, locals := 0 } : Room) s m args below meth c 0 0 (MQ below (va_Qi (fun r u => z = (r, u)) (tmAt tm_shR 13 D cy ad A) A) args s 0 0 A) 5 D cy tm_shR ad 13 [] A z 109 [(0, .ref (ad 0)), (1, .int x1), (2, .int x2), (3, .int x3)] [] v (f_X8_wordHere_109 K0 L x1 x2 x3 v) := by
  unfold f_X8_wordHere_109
  refine tg_iload_n 1 C0 dX8_wordHere_109 rfl rfl ?_
  refine tg_iload_n 3 C0 dX8_wordHere_110 rfl rfl ?_
  refine tg_iconst (x := 1) C0 dX8_wordHere_111 (by decide) ?_
  refine tg_iadd C0 dX8_wordHere_112 ?_
  refine tg_iadd C0 dX8_wordHere_113 ?_
  refine tg_leti (fun y6 _ => ?_)
  refine tg_istore_n [(1, .int y6), (0, .ref (ad 0)), (2, .int x2), (3, .int x3)] C0 dX8_wordHere_114 rfl (by decide) rfl ?_
  refine tg_iinc [(2, .int (x2 + 1)), (1, .int y6), (0, .ref (ad 0)), (3, .int x3)] 2 C0 dX8_wordHere_115 rfl rfl (by decide) rfl ?_
  refine tg_goto 4 C0 dX8_wordHere_118 (by decide) ?_
  refine tg_sub [2, 1, 0] rfl ?_
  exact hL y6 (x2 + 1) v
def f_X8_wordHere_4b (K0 : tmM → Option (Int32 × tmM)) (L : Int32 → Int32 → tmM → Option (Int32 × tmM)) (x1 x2 : Int32) (v : tmM) : Option (Int32 × tmM) := (if (v 0 19) = 1 then (if 13 ≤ x2 then K0 v else f_X8_wordHere_23 (fun x1 x2 x3 x4 v5 => (if x4 = 0 then f_X8_wordHere_109 K0 L x1 x2 x3 v5 else (if ((v5 0 17) - (v5 0 18)) = x3 then some (x2, v5) else f_X8_wordHere_109 K0 L x1 x2 x3 v5))) 10000 x1 x2 0 1 v) else K0 v)
set_option maxRecDepth 100000 in
set_option maxHeartbeats 4000000 in
theorem w_X8_wordHere_4b {p : Program} {l : Launch} {e : Env} {s : State} {m : MethodId} {args : Array Value} {below : List Frame} {meth : Method} {c : Code} {D : va_G} {cy : Nat → ClassId} {ad : Nat → Nat} {A : Nat → Prop} {z : (Int32 × tmM)} {K0 : tmM → Option (Int32 × tmM)} {L : Int32 → Int32 → tmM → Option (Int32 × tmM)} (C0 : tmC p s m args meth c cX8_wordHere 5 (some .int) RX8 TMW tm_NWR D cy tm_shR ad 13 [] A) (hK0 : ∀ (w : tmM), tmG p l e ({ frames := 0, cells := 0, slots := 0, locals := 0 } : Room) s m args below meth c 0 0 (MQ below (va_Qi (fun r u => z = (r, u)) (tmAt tm_shR 13 D cy ad A) A) args s 0 0 A) 5 D cy tm_shR ad 13 [] A z 121 [] [] w (K0 w)) (hL : ∀ (a1 a2 : Int32) (w : tmM), tmG p l e ({ frames := 0, cells := 0, slots := 0, locals := 0 } : Room) s m args below meth c 0 0 (MQ below (va_Qi (fun r u => z = (r, u)) (tmAt tm_shR 13 D cy ad A) A) args s 0 0 A) 5 D cy tm_shR ad 13 [] A z 4 [(0, .ref (ad 0)), (1, .int a1), (2, .int a2)] [] w (L a1 a2 w)) (x1 x2 : Int32) (v : tmM) : tmG p l e ({ frames := 0, cells := 0, slots := 0, locals := 0 } : Room) s m args below meth c 0 0 (MQ below (va_Qi (fun r u => z = (r, u)) (tmAt tm_shR 13 D cy ad A) A) args s 0 0 A) 5 D cy tm_shR ad 13 [] A z 4 [(0, .ref (ad 0)), (1, .int x1), (2, .int x2)] [] v (f_X8_wordHere_4b K0 L x1 x2 v) := by
  unfold f_X8_wordHere_4b
  refine tg_aload_n 0 C0 dX8_wordHere_4 rfl rfl ?_
  refine tg_get 0 19 C0 dX8_wordHere_5 (by decide) rfl rfl tu_X8 (by decide) tf_X8_327 rfl rfl rfl ?_
  refine tg_iconst (x := 1) C0 dX8_wordHere_8 (by decide) ?_
  refine tg_icmp_ne 121 C0 dX8_wordHere_9 (by decide) (fun _ => ?_) (fun _ => ?_)
  · refine tg_sub [] rfl ?_
    exact hK0 v
  · refine tg_iload_n 2 C0 dX8_wordHere_12 rfl rfl ?_
    refine tg_bipush (x := 13) C0 dX8_wordHere_13 (by decide) ?_
    refine tg_icmp_ge 121 C0 dX8_wordHere_15 (by decide) (fun _ => ?_) (fun _ => ?_)
    · refine tg_sub [] rfl ?_
      exact hK0 v
    · refine tg_iconst (x := 0) C0 dX8_wordHere_18 (by decide) ?_
      refine tg_istore_n [(3, .int 0), (0, .ref (ad 0)), (1, .int x1), (2, .int x2)] C0 dX8_wordHere_19 rfl (by decide) rfl ?_
      refine tg_iconst (x := 1) C0 dX8_wordHere_20 (by decide) ?_
      refine tg_istore [(4, .int 1), (3, .int 0), (0, .ref (ad 0)), (1, .int x1), (2, .int x2)] C0 dX8_wordHere_21 (by decide) rfl ?_
      refine tg_sub [2, 3, 4, 1, 0] rfl ?_
      refine w_X8_wordHere_23 C0 (fun x1 x2 x3 x4 v5 => ?_) 10000 x1 x2 0 1 v
      refine tg_iload 4 C0 dX8_wordHere_89 rfl ?_
      refine tg_if_eq 109 C0 dX8_wordHere_91 (by decide) (fun _ => ?_) (fun _ => ?_)
      · refine tg_sub [0, 1, 2, 3] rfl ?_
        exact w_X8_wordHere_109 C0 hK0 hL x1 x2 x3 v5
      · refine tg_aload_n 0 C0 dX8_wordHere_94 rfl rfl ?_
        refine tg_get 0 17 C0 dX8_wordHere_95 (by decide) rfl rfl tu_X8 (by decide) tf_X8_312 rfl rfl rfl ?_
        refine tg_aload_n 0 C0 dX8_wordHere_98 rfl rfl ?_
        refine tg_get 0 18 C0 dX8_wordHere_99 (by decide) rfl rfl tu_X8 (by decide) tf_X8_318 rfl rfl rfl ?_
        refine tg_isub C0 dX8_wordHere_102 ?_
        refine tg_iload_n 3 C0 dX8_wordHere_103 rfl rfl ?_
        refine tg_icmp_ne 109 C0 dX8_wordHere_104 (by decide) (fun _ => ?_) (fun _ => ?_)
        · refine tg_sub [0, 1, 2, 3] rfl ?_
          exact w_X8_wordHere_109 C0 hK0 hL x1 x2 x3 v5
        · refine tg_iload_n 2 C0 dX8_wordHere_107 rfl rfl ?_
          exact tg_iret C0 dX8_wordHere_108
def f_X8_wordHere_4 (K0 : tmM → Option (Int32 × tmM)) : Nat → Int32 → Int32 → tmM → Option (Int32 × tmM)
  | 0 => fun _ _ _ => none
  | n + 1 => f_X8_wordHere_4b K0 (f_X8_wordHere_4 K0 n)
theorem w_X8_wordHere_4 {p : Program} {l : Launch} {e : Env} {s : State} {m : MethodId} {args : Array Value} {below : List Frame} {meth : Method} {c : Code} {D : va_G} {cy : Nat → ClassId} {ad : Nat → Nat} {A : Nat → Prop} {z : (Int32 × tmM)} {K0 : tmM → Option (Int32 × tmM)} (C0 : tmC p s m args meth c cX8_wordHere 5 (some .int) RX8 TMW tm_NWR D cy tm_shR ad 13 [] A) (hK0 : ∀ (w : tmM), tmG p l e ({ frames := 0, cells := 0, slots := 0, locals := 0 } : Room) s m args below meth c 0 0 (MQ below (va_Qi (fun r u => z = (r, u)) (tmAt tm_shR 13 D cy ad A) A) args s 0 0 A) 5 D cy tm_shR ad 13 [] A z 121 [] [] w (K0 w)) (nn : Nat) : ∀ (x1 x2 : Int32) (v : tmM), tmG p l e ({ frames := 0, cells := 0, slots := 0, locals := 0 } : Room) s m args below meth c 0 0 (MQ below (va_Qi (fun r u => z = (r, u)) (tmAt tm_shR 13 D cy ad A) A) args s 0 0 A) 5 D cy tm_shR ad 13 [] A z 4 [(0, .ref (ad 0)), (1, .int x1), (2, .int x2)] [] v (f_X8_wordHere_4 K0 nn x1 x2 v) := by
  induction nn with
  | zero => intro _ _ _; exact tg_none
  | succ n ih => intro x1 x2 v; exact w_X8_wordHere_4b C0 hK0 ih x1 x2 v
def f_X8_wordHere (v : tmM) : Option (Int32 × tmM) := f_X8_wordHere_4 (fun v7 => some ((-1), v7)) 10000 0 0 v
set_option maxRecDepth 100000 in
set_option maxHeartbeats 4000000 in
theorem w_X8_wordHere {p : Program} {l : Launch} {e : Env} {s : State} {m : MethodId} {args : Array Value} {below : List Frame} {meth : Method} {c : Code} {D : va_G} {cy : Nat → ClassId} {ad : Nat → Nat} {A : Nat → Prop} {z : (Int32 × tmM)} (C0 : tmC p s m args meth c cX8_wordHere 5 (some .int) RX8 TMW tm_NWR D cy tm_shR ad 13 [] A) (v : tmM) : tmG p l e ({ frames := 0, cells := 0, slots := 0, locals := 0 } : Room) s m args below meth c 0 0 (MQ below (va_Qi (fun r u => z = (r, u)) (tmAt tm_shR 13 D cy ad A) A) args s 0 0 A) 5 D cy tm_shR ad 13 [] A z 0 [(0, .ref (ad 0))] [] v (f_X8_wordHere v) := by
  unfold f_X8_wordHere
  refine tg_iconst (x := 0) C0 dX8_wordHere_0 (by decide) ?_
  refine tg_istore_n [(1, .int 0), (0, .ref (ad 0))] C0 dX8_wordHere_1 rfl (by decide) rfl ?_
  refine tg_iconst (x := 0) C0 dX8_wordHere_2 (by decide) ?_
  refine tg_istore_n [(2, .int 0), (1, .int 0), (0, .ref (ad 0))] C0 dX8_wordHere_3 rfl (by decide) rfl ?_
  refine tg_sub [2, 1, 0] rfl ?_
  refine w_X8_wordHere_4 C0 (fun v7 => ?_) 10000 0 0 v
  refine tg_iconst (x := (-1)) C0 dX8_wordHere_121 (by decide) ?_
  exact tg_iret C0 dX8_wordHere_122
theorem c_X8_wordHere (l : Launch) (v : tmM) : tmMi tm_NWR tm_shR 13 l yX8_wordHere (Cond.code yX8_wordHere cX8_wordHere 5 (some .int) :: TMW) ({ frames := 0, cells := 0, slots := 0, locals := 0 } : Room) (fun ad => [.ref (ad 0)]) v (f_X8_wordHere v) :=
  tmMi.of (cc := cX8_wordHere) (nL := 5) (by decide +kernel) rfl tm_NWR_ok (fun _ => Nat.le_of_ble_eq_true rfl) (fun p e s m args below meth c A D cy ad z C0 => w_X8_wordHere C0 v)
-- ----- X8_reads
theorem dX8_reads_0 : decode cX8_reads 0 = .ok (.aload_n 0, 1) := by decide +kernel
theorem dX8_reads_1 : decode cX8_reads 1 = .ok (.getfield 327, 3) := by decide +kernel
theorem dX8_reads_4 : decode cX8_reads 4 = .ok (.iconst 2, 1) := by decide +kernel
theorem dX8_reads_5 : decode cX8_reads 5 = .ok (.if_icmp .eq 11, 3) := by decide +kernel
theorem dX8_reads_8 : decode cX8_reads 8 = .ok (.aload_n 0, 1) := by decide +kernel
theorem dX8_reads_9 : decode cX8_reads 9 = .ok (.iconst 1, 1) := by decide +kernel
theorem dX8_reads_10 : decode cX8_reads 10 = .ok (.invokevirtual 336, 3) := by decide +kernel
theorem dX8_reads_13 : decode cX8_reads 13 = .ok (.goto 20, 3) := by decide +kernel
theorem dX8_reads_16 : decode cX8_reads 16 = .ok (.aload_n 0, 1) := by decide +kernel
theorem dX8_reads_17 : decode cX8_reads 17 = .ok (.getfield 330, 3) := by decide +kernel
theorem dX8_reads_20 : decode cX8_reads 20 = .ok (.iload_n 1, 1) := by decide +kernel
theorem dX8_reads_21 : decode cX8_reads 21 = .ok (.iload_n 2, 1) := by decide +kernel
theorem dX8_reads_22 : decode cX8_reads 22 = .ok (.invokestatic 63, 3) := by decide +kernel
theorem dX8_reads_25 : decode cX8_reads 25 = .ok (.ifCond .ne 8, 3) := by decide +kernel
theorem dX8_reads_28 : decode cX8_reads 28 = .ok (.aload_n 0, 1) := by decide +kernel
theorem dX8_reads_29 : decode cX8_reads 29 = .ok (.iconst 2, 1) := by decide +kernel
theorem dX8_reads_30 : decode cX8_reads 30 = .ok (.invokevirtual 336, 3) := by decide +kernel
theorem dX8_reads_33 : decode cX8_reads 33 = .ok (.aload_n 0, 1) := by decide +kernel
theorem dX8_reads_34 : decode cX8_reads 34 = .ok (.getfield 333, 3) := by decide +kernel
theorem dX8_reads_37 : decode cX8_reads 37 = .ok (.ifCond .le 5, 3) := by decide +kernel
theorem dX8_reads_40 : decode cX8_reads 40 = .ok (.iload_n 1, 1) := by decide +kernel
theorem dX8_reads_41 : decode cX8_reads 41 = .ok (.ireturn, 1) := by decide +kernel
theorem dX8_reads_42 : decode cX8_reads 42 = .ok (.aload_n 0, 1) := by decide +kernel
theorem dX8_reads_43 : decode cX8_reads 43 = .ok (.getfield 330, 3) := by decide +kernel
theorem dX8_reads_46 : decode cX8_reads 46 = .ok (.istore_n 3, 1) := by decide +kernel
theorem dX8_reads_47 : decode cX8_reads 47 = .ok (.aload_n 0, 1) := by decide +kernel
theorem dX8_reads_48 : decode cX8_reads 48 = .ok (.invokevirtual 339, 3) := by decide +kernel
theorem dX8_reads_51 : decode cX8_reads 51 = .ok (.iload_n 3, 1) := by decide +kernel
theorem dX8_reads_52 : decode cX8_reads 52 = .ok (.ireturn, 1) := by decide +kernel
theorem tl_X8_339 : Cond.methodLink RX8 339 yX8_goesOn ∈ TMW := tm_in 2089 (by decide +kernel) (by decide +kernel)
theorem ti_X8_goesOn : Cond.instanceMethod yX8_goesOn ∈ TMW := tm_in 2091 (by decide +kernel) (by decide +kernel)
theorem ts_X8_goesOn : Cond.selects RX8 yX8_goesOn yX8_goesOn ∈ TMW := tm_in 98 (by decide +kernel) (by decide +kernel)
theorem tc_X8_goesOn : Cond.code yX8_goesOn cX8_goesOn 1 none ∈ TMW := tm_in 2092 (by decide +kernel) (by decide +kernel)
def f_X8_reads_33 (x1 : Int32) (v : tmM) : Option (Int32 × tmM) := (if (v 0 21) ≤ 0 then tm_lt (v 0 20) fun y3 => tm_cl (f_X8_goesOn v) fun _ v4 => some (y3, v4) else some (x1, v))
set_option maxRecDepth 100000 in
set_option maxHeartbeats 4000000 in
theorem w_X8_reads_33 {p : Program} {l : Launch} {e : Env} {s : State} {m : MethodId} {args : Array Value} {below : List Frame} {meth : Method} {c : Code} {D : va_G} {cy : Nat → ClassId} {ad : Nat → Nat} {A : Nat → Prop} {z : (Int32 × tmM)} (C0 : tmC p s m args meth c cX8_reads 4 (some .int) RX8 TMW tm_NWR D cy tm_shR ad 13 [] A) (x1 : Int32) (v : tmM) : tmG p l e ({ frames := 3, cells := 0, slots := 0, locals := 62 } : Room) s m args below meth c 0 0 (MQ below (va_Qi (fun r u => z = (r, u)) (tmAt tm_shR 13 D cy ad A) A) args s 0 0 A) 4 D cy tm_shR ad 13 [] A z 33 [(0, .ref (ad 0)), (1, .int x1)] [] v (f_X8_reads_33 x1 v) := by
  unfold f_X8_reads_33
  refine tg_aload_n 0 C0 dX8_reads_33 rfl rfl ?_
  refine tg_get 0 21 C0 dX8_reads_34 (by decide) rfl rfl tu_X8 (by decide) tf_X8_333 rfl rfl rfl ?_
  refine tg_if_le 42 C0 dX8_reads_37 (by decide) (fun _ => ?_) (fun _ => ?_)
  · refine tg_aload_n 0 C0 dX8_reads_42 rfl rfl ?_
    refine tg_get 0 20 C0 dX8_reads_43 (by decide) rfl rfl tu_X8 (by decide) tf_X8_330 rfl rfl rfl ?_
    refine tg_leti (fun y3 _ => ?_)
    refine tg_istore_n [(3, .int y3), (0, .ref (ad 0)), (1, .int x1)] C0 dX8_reads_46 rfl (by decide) rfl ?_
    refine tg_aload_n 1 C0 dX8_reads_47 rfl rfl ?_
    refine tg_callVv (As := []) 0 0 C0 dX8_reads_48 (c_X8_goesOn l v) rfl rfl (by decide) rfl rfl (tm_gV tl_X8_339 ti_X8_goesOn ts_X8_goesOn tn_X8 tc_X8_goesOn)  rfl rfl rfl rfl (by decide +kernel) ⟨by decide, by decide⟩ (Nat.le_of_ble_eq_true rfl) ⟨by decide, by decide⟩ (fun v4 _ => ?_)
    refine tg_iload_n 0 C0 dX8_reads_51 rfl rfl ?_
    exact tg_iret C0 dX8_reads_52
  · refine tg_iload_n 1 C0 dX8_reads_40 rfl rfl ?_
    exact tg_iret C0 dX8_reads_41
def f_X8_reads (x1 x2 : Int32) (v : tmM) : Option (Int32 × tmM) := (if (v 0 19) = 2 then tm_cl (f_X8_in (v 0 20) x1 x2 v) fun r2 v1 => (if r2 = 0 then tm_cl (f_X8_fails 2 v1) fun _ v6 => f_X8_reads_33 x1 v6 else f_X8_reads_33 x1 v1) else tm_cl (f_X8_fails 1 v) fun _ v8 => f_X8_reads_33 x1 v8)
set_option maxRecDepth 100000 in
set_option maxHeartbeats 4000000 in
theorem w_X8_reads {p : Program} {l : Launch} {e : Env} {s : State} {m : MethodId} {args : Array Value} {below : List Frame} {meth : Method} {c : Code} {D : va_G} {cy : Nat → ClassId} {ad : Nat → Nat} {A : Nat → Prop} {z : (Int32 × tmM)} (C0 : tmC p s m args meth c cX8_reads 4 (some .int) RX8 TMW tm_NWR D cy tm_shR ad 13 [] A) (x1 x2 : Int32) (v : tmM) : tmG p l e ({ frames := 3, cells := 0, slots := 0, locals := 62 } : Room) s m args below meth c 0 0 (MQ below (va_Qi (fun r u => z = (r, u)) (tmAt tm_shR 13 D cy ad A) A) args s 0 0 A) 4 D cy tm_shR ad 13 [] A z 0 [(0, .ref (ad 0)), (1, .int x1), (2, .int x2)] [] v (f_X8_reads x1 x2 v) := by
  unfold f_X8_reads
  refine tg_aload_n 0 C0 dX8_reads_0 rfl rfl ?_
  refine tg_get 0 19 C0 dX8_reads_1 (by decide) rfl rfl tu_X8 (by decide) tf_X8_327 rfl rfl rfl ?_
  refine tg_iconst (x := 2) C0 dX8_reads_4 (by decide) ?_
  refine tg_icmp_eq 16 C0 dX8_reads_5 (by decide) (fun _ => ?_) (fun _ => ?_)
  · refine tg_aload_n 0 C0 dX8_reads_16 rfl rfl ?_
    refine tg_get 0 20 C0 dX8_reads_17 (by decide) rfl rfl tu_X8 (by decide) tf_X8_330 rfl rfl rfl ?_
    refine tg_iload_n 1 C0 dX8_reads_20 rfl rfl ?_
    refine tg_iload_n 2 C0 dX8_reads_21 rfl rfl ?_
    refine tg_callSi (As := [.int (v 0 20), .int x1, .int x2]) 3 C0 dX8_reads_22 (c_X8_in l (v 0 20) x1 x2 v) rfl rfl (tm_gc tc_X8_in) tl_X8_63 tn_X8 tst_X8_in  rfl rfl rfl rfl (by decide +kernel) ⟨by decide, by decide⟩ (Nat.le_of_ble_eq_true rfl) ⟨by decide, by decide⟩ (fun r2 v1 _ => ?_)
    refine tg_if_ne 33 C0 dX8_reads_25 (by decide) (fun _ => ?_) (fun _ => ?_)
    · refine tg_sub [0, 1] rfl ?_
      exact w_X8_reads_33 C0 x1 v1
    · refine tg_aload_n 0 C0 dX8_reads_28 rfl rfl ?_
      refine tg_iconst (x := 2) C0 dX8_reads_29 (by decide) ?_
      refine tg_callVv (As := [.int 2]) 0 1 C0 dX8_reads_30 (c_X8_fails l 2 v1) rfl rfl (by decide) rfl rfl (tm_gV tl_X8_336 ti_X8_fails ts_X8_fails tn_X8 tc_X8_fails)  rfl rfl rfl rfl (by decide +kernel) ⟨by decide, by decide⟩ (Nat.le_of_ble_eq_true rfl) ⟨by decide, by decide⟩ (fun v6 _ => ?_)
      refine tg_sub [0, 1] rfl ?_
      exact w_X8_reads_33 C0 x1 v6
  · refine tg_aload_n 0 C0 dX8_reads_8 rfl rfl ?_
    refine tg_iconst (x := 1) C0 dX8_reads_9 (by decide) ?_
    refine tg_callVv (As := [.int 1]) 0 1 C0 dX8_reads_10 (c_X8_fails l 1 v) rfl rfl (by decide) rfl rfl (tm_gV tl_X8_336 ti_X8_fails ts_X8_fails tn_X8 tc_X8_fails)  rfl rfl rfl rfl (by decide +kernel) ⟨by decide, by decide⟩ (Nat.le_of_ble_eq_true rfl) ⟨by decide, by decide⟩ (fun v8 _ => ?_)
    refine tg_goto 33 C0 dX8_reads_13 (by decide) ?_
    refine tg_sub [0, 1] rfl ?_
    exact w_X8_reads_33 C0 x1 v8
theorem c_X8_reads (l : Launch) (x1 x2 : Int32) (v : tmM) : tmMi tm_NWR tm_shR 13 l yX8_reads (Cond.code yX8_reads cX8_reads 4 (some .int) :: TMW) ({ frames := 3, cells := 0, slots := 0, locals := 62 } : Room) (fun ad => [.ref (ad 0), .int x1, .int x2]) v (f_X8_reads x1 x2 v) :=
  tmMi.of (cc := cX8_reads) (nL := 4) (by decide +kernel) rfl tm_NWR_ok (fun _ => Nat.le_of_ble_eq_true rfl) (fun p e s m args below meth c A D cy ad z C0 => w_X8_reads C0 x1 x2 v)
-- ----- X8_readParameters
theorem dX8_readParameters_0 : decode cX8_readParameters 0 = .ok (.iload_n 1, 1) := by decide +kernel
theorem dX8_readParameters_1 : decode cX8_readParameters 1 = .ok (.tableswitch 210 0 9 #[55, 91, 210, 110, 110, 129, 148, 148, 210, 167], 55) := by decide +kernel
theorem dX8_readParameters_56 : decode cX8_readParameters 56 = .ok (.aload_n 0, 1) := by decide +kernel
theorem dX8_readParameters_57 : decode cX8_readParameters 57 = .ok (.getfield 46, 3) := by decide +kernel
theorem dX8_readParameters_60 : decode cX8_readParameters 60 = .ok (.aload_n 0, 1) := by decide +kernel
theorem dX8_readParameters_61 : decode cX8_readParameters 61 = .ok (.getfield 342, 3) := by decide +kernel
theorem dX8_readParameters_64 : decode cX8_readParameters 64 = .ok (.aload_n 0, 1) := by decide +kernel
theorem dX8_readParameters_65 : decode cX8_readParameters 65 = .ok (.iconst 0, 1) := by decide +kernel
theorem dX8_readParameters_66 : decode cX8_readParameters 66 = .ok (.bipush 59, 2) := by decide +kernel
theorem dX8_readParameters_68 : decode cX8_readParameters 68 = .ok (.invokevirtual 345, 3) := by decide +kernel
theorem dX8_readParameters_71 : decode cX8_readParameters 71 = .ok (.iastore, 1) := by decide +kernel
theorem dX8_readParameters_72 : decode cX8_readParameters 72 = .ok (.aload_n 0, 1) := by decide +kernel
theorem dX8_readParameters_73 : decode cX8_readParameters 73 = .ok (.getfield 49, 3) := by decide +kernel
theorem dX8_readParameters_76 : decode cX8_readParameters 76 = .ok (.aload_n 0, 1) := by decide +kernel
theorem dX8_readParameters_77 : decode cX8_readParameters 77 = .ok (.getfield 342, 3) := by decide +kernel
theorem dX8_readParameters_80 : decode cX8_readParameters 80 = .ok (.aload_n 0, 1) := by decide +kernel
theorem dX8_readParameters_81 : decode cX8_readParameters 81 = .ok (.iconst 0, 1) := by decide +kernel
theorem dX8_readParameters_82 : decode cX8_readParameters 82 = .ok (.sipush 999, 3) := by decide +kernel
theorem dX8_readParameters_85 : decode cX8_readParameters 85 = .ok (.invokevirtual 345, 3) := by decide +kernel
theorem dX8_readParameters_88 : decode cX8_readParameters 88 = .ok (.iastore, 1) := by decide +kernel
theorem dX8_readParameters_89 : decode cX8_readParameters 89 = .ok (.goto 122, 3) := by decide +kernel
theorem dX8_readParameters_92 : decode cX8_readParameters 92 = .ok (.aload_n 0, 1) := by decide +kernel
theorem dX8_readParameters_93 : decode cX8_readParameters 93 = .ok (.getfield 46, 3) := by decide +kernel
theorem dX8_readParameters_96 : decode cX8_readParameters 96 = .ok (.aload_n 0, 1) := by decide +kernel
theorem dX8_readParameters_97 : decode cX8_readParameters 97 = .ok (.getfield 342, 3) := by decide +kernel
theorem dX8_readParameters_100 : decode cX8_readParameters 100 = .ok (.aload_n 0, 1) := by decide +kernel
theorem dX8_readParameters_101 : decode cX8_readParameters 101 = .ok (.iconst 0, 1) := by decide +kernel
theorem dX8_readParameters_102 : decode cX8_readParameters 102 = .ok (.bipush 59, 2) := by decide +kernel
theorem dX8_readParameters_104 : decode cX8_readParameters 104 = .ok (.invokevirtual 345, 3) := by decide +kernel
theorem dX8_readParameters_107 : decode cX8_readParameters 107 = .ok (.iastore, 1) := by decide +kernel
theorem dX8_readParameters_108 : decode cX8_readParameters 108 = .ok (.goto 103, 3) := by decide +kernel
theorem dX8_readParameters_111 : decode cX8_readParameters 111 = .ok (.aload_n 0, 1) := by decide +kernel
theorem dX8_readParameters_112 : decode cX8_readParameters 112 = .ok (.getfield 46, 3) := by decide +kernel
theorem dX8_readParameters_115 : decode cX8_readParameters 115 = .ok (.aload_n 0, 1) := by decide +kernel
theorem dX8_readParameters_116 : decode cX8_readParameters 116 = .ok (.getfield 342, 3) := by decide +kernel
theorem dX8_readParameters_119 : decode cX8_readParameters 119 = .ok (.aload_n 0, 1) := by decide +kernel
theorem dX8_readParameters_120 : decode cX8_readParameters 120 = .ok (.iconst 1, 1) := by decide +kernel
theorem dX8_readParameters_121 : decode cX8_readParameters 121 = .ok (.bipush 15, 2) := by decide +kernel
theorem dX8_readParameters_123 : decode cX8_readParameters 123 = .ok (.invokevirtual 345, 3) := by decide +kernel
theorem dX8_readParameters_126 : decode cX8_readParameters 126 = .ok (.iastore, 1) := by decide +kernel
theorem dX8_readParameters_127 : decode cX8_readParameters 127 = .ok (.goto 84, 3) := by decide +kernel
theorem dX8_readParameters_130 : decode cX8_readParameters 130 = .ok (.aload_n 0, 1) := by decide +kernel
theorem dX8_readParameters_131 : decode cX8_readParameters 131 = .ok (.getfield 46, 3) := by decide +kernel
theorem dX8_readParameters_134 : decode cX8_readParameters 134 = .ok (.aload_n 0, 1) := by decide +kernel
theorem dX8_readParameters_135 : decode cX8_readParameters 135 = .ok (.getfield 342, 3) := by decide +kernel
theorem dX8_readParameters_138 : decode cX8_readParameters 138 = .ok (.aload_n 0, 1) := by decide +kernel
theorem dX8_readParameters_139 : decode cX8_readParameters 139 = .ok (.iconst 0, 1) := by decide +kernel
theorem dX8_readParameters_140 : decode cX8_readParameters 140 = .ok (.bipush 14, 2) := by decide +kernel
theorem dX8_readParameters_142 : decode cX8_readParameters 142 = .ok (.invokevirtual 345, 3) := by decide +kernel
theorem dX8_readParameters_145 : decode cX8_readParameters 145 = .ok (.iastore, 1) := by decide +kernel
theorem dX8_readParameters_146 : decode cX8_readParameters 146 = .ok (.goto 65, 3) := by decide +kernel
theorem dX8_readParameters_149 : decode cX8_readParameters 149 = .ok (.aload_n 0, 1) := by decide +kernel
theorem dX8_readParameters_150 : decode cX8_readParameters 150 = .ok (.getfield 46, 3) := by decide +kernel
theorem dX8_readParameters_153 : decode cX8_readParameters 153 = .ok (.aload_n 0, 1) := by decide +kernel
theorem dX8_readParameters_154 : decode cX8_readParameters 154 = .ok (.getfield 342, 3) := by decide +kernel
theorem dX8_readParameters_157 : decode cX8_readParameters 157 = .ok (.aload_n 0, 1) := by decide +kernel
theorem dX8_readParameters_158 : decode cX8_readParameters 158 = .ok (.iconst 0, 1) := by decide +kernel
theorem dX8_readParameters_159 : decode cX8_readParameters 159 = .ok (.bipush 7, 2) := by decide +kernel
theorem dX8_readParameters_161 : decode cX8_readParameters 161 = .ok (.invokevirtual 345, 3) := by decide +kernel
theorem dX8_readParameters_164 : decode cX8_readParameters 164 = .ok (.iastore, 1) := by decide +kernel
theorem dX8_readParameters_165 : decode cX8_readParameters 165 = .ok (.goto 46, 3) := by decide +kernel
theorem dX8_readParameters_168 : decode cX8_readParameters 168 = .ok (.aload_n 0, 1) := by decide +kernel
theorem dX8_readParameters_169 : decode cX8_readParameters 169 = .ok (.getfield 46, 3) := by decide +kernel
theorem dX8_readParameters_172 : decode cX8_readParameters 172 = .ok (.aload_n 0, 1) := by decide +kernel
theorem dX8_readParameters_173 : decode cX8_readParameters 173 = .ok (.getfield 342, 3) := by decide +kernel
theorem dX8_readParameters_176 : decode cX8_readParameters 176 = .ok (.aload_n 0, 1) := by decide +kernel
theorem dX8_readParameters_177 : decode cX8_readParameters 177 = .ok (.invokevirtual 348, 3) := by decide +kernel
theorem dX8_readParameters_180 : decode cX8_readParameters 180 = .ok (.bipush 12, 2) := by decide +kernel
theorem dX8_readParameters_182 : decode cX8_readParameters 182 = .ok (.if_icmp .ne 7, 3) := by decide +kernel
theorem dX8_readParameters_185 : decode cX8_readParameters 185 = .ok (.iconst 1, 1) := by decide +kernel
theorem dX8_readParameters_186 : decode cX8_readParameters 186 = .ok (.goto 4, 3) := by decide +kernel
theorem dX8_readParameters_189 : decode cX8_readParameters 189 = .ok (.iconst 0, 1) := by decide +kernel
theorem dX8_readParameters_190 : decode cX8_readParameters 190 = .ok (.iastore, 1) := by decide +kernel
theorem dX8_readParameters_191 : decode cX8_readParameters 191 = .ok (.aload_n 0, 1) := by decide +kernel
theorem dX8_readParameters_192 : decode cX8_readParameters 192 = .ok (.getfield 46, 3) := by decide +kernel
theorem dX8_readParameters_195 : decode cX8_readParameters 195 = .ok (.aload_n 0, 1) := by decide +kernel
theorem dX8_readParameters_196 : decode cX8_readParameters 196 = .ok (.getfield 342, 3) := by decide +kernel
theorem dX8_readParameters_199 : decode cX8_readParameters 199 = .ok (.iaload, 1) := by decide +kernel
theorem dX8_readParameters_200 : decode cX8_readParameters 200 = .ok (.iconst 1, 1) := by decide +kernel
theorem dX8_readParameters_201 : decode cX8_readParameters 201 = .ok (.if_icmp .ne 10, 3) := by decide +kernel
theorem dX8_readParameters_204 : decode cX8_readParameters 204 = .ok (.aload_n 0, 1) := by decide +kernel
theorem dX8_readParameters_205 : decode cX8_readParameters 205 = .ok (.invokevirtual 339, 3) := by decide +kernel
theorem dX8_readParameters_208 : decode cX8_readParameters 208 = .ok (.goto 3, 3) := by decide +kernel
theorem dX8_readParameters_211 : decode cX8_readParameters 211 = .ok (.return_, 1) := by decide +kernel
theorem tf_X8_46 : Cond.fieldLink RX8 46 "TableMoveModel" (TX8 26).2.1 (TX8 26).2.2.1 ∈ TMW := tm_in 1577 (by decide +kernel) (by decide +kernel)
theorem tf_X8_342 : Cond.fieldLink RX8 342 "TableMoveModel" (TX8 24).2.1 (TX8 24).2.2.1 ∈ TMW := tm_in 1575 (by decide +kernel) (by decide +kernel)
theorem tl_X8_345 : Cond.methodLink RX8 345 yX8_reads ∈ TMW := tm_in 2125 (by decide +kernel) (by decide +kernel)
theorem ti_X8_reads : Cond.instanceMethod yX8_reads ∈ TMW := tm_in 2127 (by decide +kernel) (by decide +kernel)
theorem ts_X8_reads : Cond.selects RX8 yX8_reads yX8_reads ∈ TMW := tm_in 107 (by decide +kernel) (by decide +kernel)
theorem tc_X8_reads : Cond.code yX8_reads cX8_reads 4 (some .int) ∈ TMW := tm_in 2128 (by decide +kernel) (by decide +kernel)
theorem tf_X8_49 : Cond.fieldLink RX8 49 "TableMoveModel" (TX8 27).2.1 (TX8 27).2.2.1 ∈ TMW := tm_in 1578 (by decide +kernel) (by decide +kernel)
theorem tl_X8_348 : Cond.methodLink RX8 348 yX8_wordHere ∈ TMW := tm_in 2109 (by decide +kernel) (by decide +kernel)
theorem ti_X8_wordHere : Cond.instanceMethod yX8_wordHere ∈ TMW := tm_in 2111 (by decide +kernel) (by decide +kernel)
theorem ts_X8_wordHere : Cond.selects RX8 yX8_wordHere yX8_wordHere ∈ TMW := tm_in 103 (by decide +kernel) (by decide +kernel)
theorem tc_X8_wordHere : Cond.code yX8_wordHere cX8_wordHere 5 (some .int) ∈ TMW := tm_in 2112 (by decide +kernel) (by decide +kernel)
def f_X8_readParameters_190 (s0 s1 : Int32) (v : tmM) : Option (Unit × tmM) := tm_g (tm_ix s1 30) (tm_lt (tm_up v 11 s1.toNatClampNeg s0) fun v36 => tm_g (tm_ix (v36 0 24) 30) ((if (v36 11 (v36 0 24).toNatClampNeg) = 1 then tm_cl (f_X8_goesOn v36) fun _ v37 => some ((), v37) else some ((), v36))))
set_option maxRecDepth 100000 in
set_option maxHeartbeats 4000000 in
theorem w_X8_readParameters_190 {p : Program} {l : Launch} {e : Env} {s : State} {m : MethodId} {args : Array Value} {below : List Frame} {meth : Method} {c : Code} {D : va_G} {cy : Nat → ClassId} {ad : Nat → Nat} {A : Nat → Prop} {z : (Unit × tmM)} (C0 : tmC p s m args meth c cX8_readParameters 2 none RX8 TMW tm_NWR D cy tm_shR ad 13 [] A) (s0 s1 : Int32) (v : tmM) : tmG p l e ({ frames := 4, cells := 0, slots := 0, locals := 85 } : Room) s m args below meth c 0 0 (MQ below (va_Qv (fun u => z = ((), u)) (tmAt tm_shR 13 D cy ad A) A) args s 0 0 A) 2 D cy tm_shR ad 13 [] A z 190 [(0, .ref (ad 0))] [.int s0, .int s1, .ref (ad 11)] v (f_X8_readParameters_190 s0 s1 v) := by
  unfold f_X8_readParameters_190
  refine tg_iast 11 C0 dX8_readParameters_190 (by decide) rfl (fun _ => ?_)
  refine tg_letm (fun v36 _ => ?_)
  refine tg_aload_n 0 C0 dX8_readParameters_191 rfl rfl ?_
  refine tg_get 0 26 C0 dX8_readParameters_192 (by decide) rfl rfl tu_X8 (by decide) tf_X8_46 rfl rfl rfl ?_
  refine tg_aload_n 0 C0 dX8_readParameters_195 rfl rfl ?_
  refine tg_get 0 24 C0 dX8_readParameters_196 (by decide) rfl rfl tu_X8 (by decide) tf_X8_342 rfl rfl rfl ?_
  refine tg_iald 11 C0 dX8_readParameters_199 (by decide) rfl (fun _ => ?_)
  refine tg_iconst (x := 1) C0 dX8_readParameters_200 (by decide) ?_
  refine tg_icmp_ne 211 C0 dX8_readParameters_201 (by decide) (fun _ => ?_) (fun _ => ?_)
  · exact tg_vret C0 dX8_readParameters_211
  · refine tg_aload_n 0 C0 dX8_readParameters_204 rfl rfl ?_
    refine tg_callVv (As := []) 0 0 C0 dX8_readParameters_205 (c_X8_goesOn l v36) rfl rfl (by decide) rfl rfl (tm_gV tl_X8_339 ti_X8_goesOn ts_X8_goesOn tn_X8 tc_X8_goesOn)  rfl rfl rfl rfl (by decide +kernel) ⟨by decide, by decide⟩ (Nat.le_of_ble_eq_true rfl) ⟨by decide, by decide⟩ (fun v37 _ => ?_)
    refine tg_goto 211 C0 dX8_readParameters_208 (by decide) ?_
    exact tg_vret C0 dX8_readParameters_211
def f_X8_readParameters (x1 : Int32) (v : tmM) : Option (Unit × tmM) := (if x1 = 0 then tm_cl (f_X8_reads 0 59 v) fun r2 v1 => tm_g (tm_ix (v 0 24) 30) (tm_lt (tm_up v1 11 (v 0 24).toNatClampNeg r2) fun v3 => tm_cl (f_X8_reads 0 999 v3) fun r5 v4 => tm_g (tm_ix (v3 0 24) 30) (tm_lt (tm_up v4 12 (v3 0 24).toNatClampNeg r5) fun v6 => some ((), v6))) else if x1 = 1 then tm_cl (f_X8_reads 0 59 v) fun r9 v8 => tm_g (tm_ix (v 0 24) 30) (tm_lt (tm_up v8 11 (v 0 24).toNatClampNeg r9) fun v10 => some ((), v10)) else if x1 = 2 then some ((), v) else if x1 = 3 then tm_cl (f_X8_reads 1 15 v) fun r14 v13 => tm_g (tm_ix (v 0 24) 30) (tm_lt (tm_up v13 11 (v 0 24).toNatClampNeg r14) fun v15 => some ((), v15)) else if x1 = 4 then tm_cl (f_X8_reads 1 15 v) fun r18 v17 => tm_g (tm_ix (v 0 24) 30) (tm_lt (tm_up v17 11 (v 0 24).toNatClampNeg r18) fun v19 => some ((), v19)) else if x1 = 5 then tm_cl (f_X8_reads 0 14 v) fun r22 v21 => tm_g (tm_ix (v 0 24) 30) (tm_lt (tm_up v21 11 (v 0 24).toNatClampNeg r22) fun v23 => some ((), v23)) else if x1 = 6 then tm_cl (f_X8_reads 0 7 v) fun r26 v25 => tm_g (tm_ix (v 0 24) 30) (tm_lt (tm_up v25 11 (v 0 24).toNatClampNeg r26) fun v27 => some ((), v27)) else if x1 = 7 then tm_cl (f_X8_reads 0 7 v) fun r30 v29 => tm_g (tm_ix (v 0 24) 30) (tm_lt (tm_up v29 11 (v 0 24).toNatClampNeg r30) fun v31 => some ((), v31)) else if x1 = 8 then some ((), v) else if x1 = 9 then tm_cl (f_X8_wordHere v) fun r35 v34 => (if r35 = 12 then f_X8_readParameters_190 1 (v 0 24) v34 else f_X8_readParameters_190 0 (v 0 24) v34) else some ((), v))
set_option maxRecDepth 100000 in
set_option maxHeartbeats 4000000 in
theorem w_X8_readParameters {p : Program} {l : Launch} {e : Env} {s : State} {m : MethodId} {args : Array Value} {below : List Frame} {meth : Method} {c : Code} {D : va_G} {cy : Nat → ClassId} {ad : Nat → Nat} {A : Nat → Prop} {z : (Unit × tmM)} (C0 : tmC p s m args meth c cX8_readParameters 2 none RX8 TMW tm_NWR D cy tm_shR ad 13 [] A) (x1 : Int32) (v : tmM) : tmG p l e ({ frames := 4, cells := 0, slots := 0, locals := 85 } : Room) s m args below meth c 0 0 (MQ below (va_Qv (fun u => z = ((), u)) (tmAt tm_shR 13 D cy ad A) A) args s 0 0 A) 2 D cy tm_shR ad 13 [] A z 0 [(0, .ref (ad 0)), (1, .int x1)] [] v (f_X8_readParameters x1 v) := by
  unfold f_X8_readParameters
  refine tg_iload_n 1 C0 dX8_readParameters_0 rfl rfl ?_
  refine tg_tab 0 (cst := 0) 56 tg_tab0 C0 dX8_readParameters_1 (by decide) rfl (by decide) (by decide) (fun _ => ?_) (fun h7 => ?_)
  · refine tg_aload_n 0 C0 dX8_readParameters_56 rfl rfl ?_
    refine tg_get 0 26 C0 dX8_readParameters_57 (by decide) rfl rfl tu_X8 (by decide) tf_X8_46 rfl rfl rfl ?_
    refine tg_aload_n 0 C0 dX8_readParameters_60 rfl rfl ?_
    refine tg_get 0 24 C0 dX8_readParameters_61 (by decide) rfl rfl tu_X8 (by decide) tf_X8_342 rfl rfl rfl ?_
    refine tg_aload_n 0 C0 dX8_readParameters_64 rfl rfl ?_
    refine tg_iconst (x := 0) C0 dX8_readParameters_65 (by decide) ?_
    refine tg_bipush (x := 59) C0 dX8_readParameters_66 (by decide) ?_
    refine tg_callVi (As := [.int 0, .int 59]) 0 2 C0 dX8_readParameters_68 (c_X8_reads l 0 59 v) rfl rfl (by decide) rfl rfl (tm_gV tl_X8_345 ti_X8_reads ts_X8_reads tn_X8 tc_X8_reads)  rfl rfl rfl rfl (by decide +kernel) ⟨by decide, by decide⟩ (Nat.le_of_ble_eq_true rfl) ⟨by decide, by decide⟩ (fun r2 v1 _ => ?_)
    refine tg_iast 11 C0 dX8_readParameters_71 (by decide) rfl (fun _ => ?_)
    refine tg_letm (fun v3 _ => ?_)
    refine tg_aload_n 0 C0 dX8_readParameters_72 rfl rfl ?_
    refine tg_get 0 27 C0 dX8_readParameters_73 (by decide) rfl rfl tu_X8 (by decide) tf_X8_49 rfl rfl rfl ?_
    refine tg_aload_n 0 C0 dX8_readParameters_76 rfl rfl ?_
    refine tg_get 0 24 C0 dX8_readParameters_77 (by decide) rfl rfl tu_X8 (by decide) tf_X8_342 rfl rfl rfl ?_
    refine tg_aload_n 0 C0 dX8_readParameters_80 rfl rfl ?_
    refine tg_iconst (x := 0) C0 dX8_readParameters_81 (by decide) ?_
    refine tg_sipush (x := 999) C0 dX8_readParameters_82 (by decide) ?_
    refine tg_callVi (As := [.int 0, .int 999]) 0 2 C0 dX8_readParameters_85 (c_X8_reads l 0 999 v3) rfl rfl (by decide) rfl rfl (tm_gV tl_X8_345 ti_X8_reads ts_X8_reads tn_X8 tc_X8_reads)  rfl rfl rfl rfl (by decide +kernel) ⟨by decide, by decide⟩ (Nat.le_of_ble_eq_true rfl) ⟨by decide, by decide⟩ (fun r5 v4 _ => ?_)
    refine tg_iast 12 C0 dX8_readParameters_88 (by decide) rfl (fun _ => ?_)
    refine tg_letm (fun v6 _ => ?_)
    refine tg_goto 211 C0 dX8_readParameters_89 (by decide) ?_
    exact tg_vret C0 dX8_readParameters_211
  refine tg_tab 1 (cst := 1) 92 h7 C0 dX8_readParameters_1 (by decide) rfl (by decide) (by decide) (fun _ => ?_) (fun h11 => ?_)
  · refine tg_aload_n 0 C0 dX8_readParameters_92 rfl rfl ?_
    refine tg_get 0 26 C0 dX8_readParameters_93 (by decide) rfl rfl tu_X8 (by decide) tf_X8_46 rfl rfl rfl ?_
    refine tg_aload_n 0 C0 dX8_readParameters_96 rfl rfl ?_
    refine tg_get 0 24 C0 dX8_readParameters_97 (by decide) rfl rfl tu_X8 (by decide) tf_X8_342 rfl rfl rfl ?_
    refine tg_aload_n 0 C0 dX8_readParameters_100 rfl rfl ?_
    refine tg_iconst (x := 0) C0 dX8_readParameters_101 (by decide) ?_
    refine tg_bipush (x := 59) C0 dX8_readParameters_102 (by decide) ?_
    refine tg_callVi (As := [.int 0, .int 59]) 0 2 C0 dX8_readParameters_104 (c_X8_reads l 0 59 v) rfl rfl (by decide) rfl rfl (tm_gV tl_X8_345 ti_X8_reads ts_X8_reads tn_X8 tc_X8_reads)  rfl rfl rfl rfl (by decide +kernel) ⟨by decide, by decide⟩ (Nat.le_of_ble_eq_true rfl) ⟨by decide, by decide⟩ (fun r9 v8 _ => ?_)
    refine tg_iast 11 C0 dX8_readParameters_107 (by decide) rfl (fun _ => ?_)
    refine tg_letm (fun v10 _ => ?_)
    refine tg_goto 211 C0 dX8_readParameters_108 (by decide) ?_
    exact tg_vret C0 dX8_readParameters_211
  refine tg_tab 2 (cst := 2) 211 h11 C0 dX8_readParameters_1 (by decide) rfl (by decide) (by decide) (fun _ => ?_) (fun h12 => ?_)
  · exact tg_vret C0 dX8_readParameters_211
  refine tg_tab 3 (cst := 3) 111 h12 C0 dX8_readParameters_1 (by decide) rfl (by decide) (by decide) (fun _ => ?_) (fun h16 => ?_)
  · refine tg_aload_n 0 C0 dX8_readParameters_111 rfl rfl ?_
    refine tg_get 0 26 C0 dX8_readParameters_112 (by decide) rfl rfl tu_X8 (by decide) tf_X8_46 rfl rfl rfl ?_
    refine tg_aload_n 0 C0 dX8_readParameters_115 rfl rfl ?_
    refine tg_get 0 24 C0 dX8_readParameters_116 (by decide) rfl rfl tu_X8 (by decide) tf_X8_342 rfl rfl rfl ?_
    refine tg_aload_n 0 C0 dX8_readParameters_119 rfl rfl ?_
    refine tg_iconst (x := 1) C0 dX8_readParameters_120 (by decide) ?_
    refine tg_bipush (x := 15) C0 dX8_readParameters_121 (by decide) ?_
    refine tg_callVi (As := [.int 1, .int 15]) 0 2 C0 dX8_readParameters_123 (c_X8_reads l 1 15 v) rfl rfl (by decide) rfl rfl (tm_gV tl_X8_345 ti_X8_reads ts_X8_reads tn_X8 tc_X8_reads)  rfl rfl rfl rfl (by decide +kernel) ⟨by decide, by decide⟩ (Nat.le_of_ble_eq_true rfl) ⟨by decide, by decide⟩ (fun r14 v13 _ => ?_)
    refine tg_iast 11 C0 dX8_readParameters_126 (by decide) rfl (fun _ => ?_)
    refine tg_letm (fun v15 _ => ?_)
    refine tg_goto 211 C0 dX8_readParameters_127 (by decide) ?_
    exact tg_vret C0 dX8_readParameters_211
  refine tg_tab 4 (cst := 4) 111 h16 C0 dX8_readParameters_1 (by decide) rfl (by decide) (by decide) (fun _ => ?_) (fun h20 => ?_)
  · refine tg_aload_n 0 C0 dX8_readParameters_111 rfl rfl ?_
    refine tg_get 0 26 C0 dX8_readParameters_112 (by decide) rfl rfl tu_X8 (by decide) tf_X8_46 rfl rfl rfl ?_
    refine tg_aload_n 0 C0 dX8_readParameters_115 rfl rfl ?_
    refine tg_get 0 24 C0 dX8_readParameters_116 (by decide) rfl rfl tu_X8 (by decide) tf_X8_342 rfl rfl rfl ?_
    refine tg_aload_n 0 C0 dX8_readParameters_119 rfl rfl ?_
    refine tg_iconst (x := 1) C0 dX8_readParameters_120 (by decide) ?_
    refine tg_bipush (x := 15) C0 dX8_readParameters_121 (by decide) ?_
    refine tg_callVi (As := [.int 1, .int 15]) 0 2 C0 dX8_readParameters_123 (c_X8_reads l 1 15 v) rfl rfl (by decide) rfl rfl (tm_gV tl_X8_345 ti_X8_reads ts_X8_reads tn_X8 tc_X8_reads)  rfl rfl rfl rfl (by decide +kernel) ⟨by decide, by decide⟩ (Nat.le_of_ble_eq_true rfl) ⟨by decide, by decide⟩ (fun r18 v17 _ => ?_)
    refine tg_iast 11 C0 dX8_readParameters_126 (by decide) rfl (fun _ => ?_)
    refine tg_letm (fun v19 _ => ?_)
    refine tg_goto 211 C0 dX8_readParameters_127 (by decide) ?_
    exact tg_vret C0 dX8_readParameters_211
  refine tg_tab 5 (cst := 5) 130 h20 C0 dX8_readParameters_1 (by decide) rfl (by decide) (by decide) (fun _ => ?_) (fun h24 => ?_)
  · refine tg_aload_n 0 C0 dX8_readParameters_130 rfl rfl ?_
    refine tg_get 0 26 C0 dX8_readParameters_131 (by decide) rfl rfl tu_X8 (by decide) tf_X8_46 rfl rfl rfl ?_
    refine tg_aload_n 0 C0 dX8_readParameters_134 rfl rfl ?_
    refine tg_get 0 24 C0 dX8_readParameters_135 (by decide) rfl rfl tu_X8 (by decide) tf_X8_342 rfl rfl rfl ?_
    refine tg_aload_n 0 C0 dX8_readParameters_138 rfl rfl ?_
    refine tg_iconst (x := 0) C0 dX8_readParameters_139 (by decide) ?_
    refine tg_bipush (x := 14) C0 dX8_readParameters_140 (by decide) ?_
    refine tg_callVi (As := [.int 0, .int 14]) 0 2 C0 dX8_readParameters_142 (c_X8_reads l 0 14 v) rfl rfl (by decide) rfl rfl (tm_gV tl_X8_345 ti_X8_reads ts_X8_reads tn_X8 tc_X8_reads)  rfl rfl rfl rfl (by decide +kernel) ⟨by decide, by decide⟩ (Nat.le_of_ble_eq_true rfl) ⟨by decide, by decide⟩ (fun r22 v21 _ => ?_)
    refine tg_iast 11 C0 dX8_readParameters_145 (by decide) rfl (fun _ => ?_)
    refine tg_letm (fun v23 _ => ?_)
    refine tg_goto 211 C0 dX8_readParameters_146 (by decide) ?_
    exact tg_vret C0 dX8_readParameters_211
  refine tg_tab 6 (cst := 6) 149 h24 C0 dX8_readParameters_1 (by decide) rfl (by decide) (by decide) (fun _ => ?_) (fun h28 => ?_)
  · refine tg_aload_n 0 C0 dX8_readParameters_149 rfl rfl ?_
    refine tg_get 0 26 C0 dX8_readParameters_150 (by decide) rfl rfl tu_X8 (by decide) tf_X8_46 rfl rfl rfl ?_
    refine tg_aload_n 0 C0 dX8_readParameters_153 rfl rfl ?_
    refine tg_get 0 24 C0 dX8_readParameters_154 (by decide) rfl rfl tu_X8 (by decide) tf_X8_342 rfl rfl rfl ?_
    refine tg_aload_n 0 C0 dX8_readParameters_157 rfl rfl ?_
    refine tg_iconst (x := 0) C0 dX8_readParameters_158 (by decide) ?_
    refine tg_bipush (x := 7) C0 dX8_readParameters_159 (by decide) ?_
    refine tg_callVi (As := [.int 0, .int 7]) 0 2 C0 dX8_readParameters_161 (c_X8_reads l 0 7 v) rfl rfl (by decide) rfl rfl (tm_gV tl_X8_345 ti_X8_reads ts_X8_reads tn_X8 tc_X8_reads)  rfl rfl rfl rfl (by decide +kernel) ⟨by decide, by decide⟩ (Nat.le_of_ble_eq_true rfl) ⟨by decide, by decide⟩ (fun r26 v25 _ => ?_)
    refine tg_iast 11 C0 dX8_readParameters_164 (by decide) rfl (fun _ => ?_)
    refine tg_letm (fun v27 _ => ?_)
    refine tg_goto 211 C0 dX8_readParameters_165 (by decide) ?_
    exact tg_vret C0 dX8_readParameters_211
  refine tg_tab 7 (cst := 7) 149 h28 C0 dX8_readParameters_1 (by decide) rfl (by decide) (by decide) (fun _ => ?_) (fun h32 => ?_)
  · refine tg_aload_n 0 C0 dX8_readParameters_149 rfl rfl ?_
    refine tg_get 0 26 C0 dX8_readParameters_150 (by decide) rfl rfl tu_X8 (by decide) tf_X8_46 rfl rfl rfl ?_
    refine tg_aload_n 0 C0 dX8_readParameters_153 rfl rfl ?_
    refine tg_get 0 24 C0 dX8_readParameters_154 (by decide) rfl rfl tu_X8 (by decide) tf_X8_342 rfl rfl rfl ?_
    refine tg_aload_n 0 C0 dX8_readParameters_157 rfl rfl ?_
    refine tg_iconst (x := 0) C0 dX8_readParameters_158 (by decide) ?_
    refine tg_bipush (x := 7) C0 dX8_readParameters_159 (by decide) ?_
    refine tg_callVi (As := [.int 0, .int 7]) 0 2 C0 dX8_readParameters_161 (c_X8_reads l 0 7 v) rfl rfl (by decide) rfl rfl (tm_gV tl_X8_345 ti_X8_reads ts_X8_reads tn_X8 tc_X8_reads)  rfl rfl rfl rfl (by decide +kernel) ⟨by decide, by decide⟩ (Nat.le_of_ble_eq_true rfl) ⟨by decide, by decide⟩ (fun r30 v29 _ => ?_)
    refine tg_iast 11 C0 dX8_readParameters_164 (by decide) rfl (fun _ => ?_)
    refine tg_letm (fun v31 _ => ?_)
    refine tg_goto 211 C0 dX8_readParameters_165 (by decide) ?_
    exact tg_vret C0 dX8_readParameters_211
  refine tg_tab 8 (cst := 8) 211 h32 C0 dX8_readParameters_1 (by decide) rfl (by decide) (by decide) (fun _ => ?_) (fun h33 => ?_)
  · exact tg_vret C0 dX8_readParameters_211
  refine tg_tab 9 (cst := 9) 168 h33 C0 dX8_readParameters_1 (by decide) rfl (by decide) (by decide) (fun _ => ?_) (fun h39 => ?_)
  · refine tg_aload_n 0 C0 dX8_readParameters_168 rfl rfl ?_
    refine tg_get 0 26 C0 dX8_readParameters_169 (by decide) rfl rfl tu_X8 (by decide) tf_X8_46 rfl rfl rfl ?_
    refine tg_aload_n 0 C0 dX8_readParameters_172 rfl rfl ?_
    refine tg_get 0 24 C0 dX8_readParameters_173 (by decide) rfl rfl tu_X8 (by decide) tf_X8_342 rfl rfl rfl ?_
    refine tg_aload_n 0 C0 dX8_readParameters_176 rfl rfl ?_
    refine tg_callVi (As := []) 0 0 C0 dX8_readParameters_177 (c_X8_wordHere l v) rfl rfl (by decide) rfl rfl (tm_gV tl_X8_348 ti_X8_wordHere ts_X8_wordHere tn_X8 tc_X8_wordHere)  rfl rfl rfl rfl (by decide +kernel) ⟨by decide, by decide⟩ (Nat.le_of_ble_eq_true rfl) ⟨by decide, by decide⟩ (fun r35 v34 _ => ?_)
    refine tg_bipush (x := 12) C0 dX8_readParameters_180 (by decide) ?_
    refine tg_icmp_ne 189 C0 dX8_readParameters_182 (by decide) (fun _ => ?_) (fun _ => ?_)
    · refine tg_iconst (x := 0) C0 dX8_readParameters_189 (by decide) ?_
      refine tg_sub [0] rfl ?_
      exact w_X8_readParameters_190 C0 0 (v 0 24) v34
    · refine tg_iconst (x := 1) C0 dX8_readParameters_185 (by decide) ?_
      refine tg_goto 190 C0 dX8_readParameters_186 (by decide) ?_
      refine tg_sub [0] rfl ?_
      exact w_X8_readParameters_190 C0 1 (v 0 24) v34
  refine tg_tabO 10 211 h39 C0 dX8_readParameters_1 (by decide) (by decide) ?_
  exact tg_vret C0 dX8_readParameters_211
theorem c_X8_readParameters (l : Launch) (x1 : Int32) (v : tmM) : tmMv tm_NWR tm_shR 13 l yX8_readParameters (Cond.code yX8_readParameters cX8_readParameters 2 none :: TMW) ({ frames := 4, cells := 0, slots := 0, locals := 85 } : Room) (fun ad => [.ref (ad 0), .int x1]) v (f_X8_readParameters x1 v) :=
  tmMv.of (cc := cX8_readParameters) (nL := 2) (by decide +kernel) rfl tm_NWR_ok (fun _ => Nat.le_of_ble_eq_true rfl) (fun p e s m args below meth c A D cy ad z C0 => w_X8_readParameters C0 x1 v)
-- ----- X8_readCommand
theorem dX8_readCommand_0 : decode cX8_readCommand 0 = .ok (.aload_n 0, 1) := by decide +kernel
theorem dX8_readCommand_1 : decode cX8_readCommand 1 = .ok (.invokevirtual 348, 3) := by decide +kernel
theorem dX8_readCommand_4 : decode cX8_readCommand 4 = .ok (.istore_n 1, 1) := by decide +kernel
theorem dX8_readCommand_5 : decode cX8_readCommand 5 = .ok (.aload_n 0, 1) := by decide +kernel
theorem dX8_readCommand_6 : decode cX8_readCommand 6 = .ok (.iload_n 1, 1) := by decide +kernel
theorem dX8_readCommand_7 : decode cX8_readCommand 7 = .ok (.iconst (-1), 1) := by decide +kernel
theorem dX8_readCommand_8 : decode cX8_readCommand 8 = .ok (.if_icmp .eq 13, 3) := by decide +kernel
theorem dX8_readCommand_11 : decode cX8_readCommand 11 = .ok (.iload_n 1, 1) := by decide +kernel
theorem dX8_readCommand_12 : decode cX8_readCommand 12 = .ok (.bipush 12, 2) := by decide +kernel
theorem dX8_readCommand_14 : decode cX8_readCommand 14 = .ok (.if_icmp .eq 7, 3) := by decide +kernel
theorem dX8_readCommand_17 : decode cX8_readCommand 17 = .ok (.iconst 1, 1) := by decide +kernel
theorem dX8_readCommand_18 : decode cX8_readCommand 18 = .ok (.goto 4, 3) := by decide +kernel
theorem dX8_readCommand_21 : decode cX8_readCommand 21 = .ok (.iconst 0, 1) := by decide +kernel
theorem dX8_readCommand_22 : decode cX8_readCommand 22 = .ok (.iconst 1, 1) := by decide +kernel
theorem dX8_readCommand_23 : decode cX8_readCommand 23 = .ok (.invokevirtual 351, 3) := by decide +kernel
theorem dX8_readCommand_26 : decode cX8_readCommand 26 = .ok (.aload_n 0, 1) := by decide +kernel
theorem dX8_readCommand_27 : decode cX8_readCommand 27 = .ok (.aload_n 0, 1) := by decide +kernel
theorem dX8_readCommand_28 : decode cX8_readCommand 28 = .ok (.getfield 342, 3) := by decide +kernel
theorem dX8_readCommand_31 : decode cX8_readCommand 31 = .ok (.bipush 30, 2) := by decide +kernel
theorem dX8_readCommand_33 : decode cX8_readCommand 33 = .ok (.if_icmp .ge 7, 3) := by decide +kernel
theorem dX8_readCommand_36 : decode cX8_readCommand 36 = .ok (.iconst 1, 1) := by decide +kernel
theorem dX8_readCommand_37 : decode cX8_readCommand 37 = .ok (.goto 4, 3) := by decide +kernel
theorem dX8_readCommand_40 : decode cX8_readCommand 40 = .ok (.iconst 0, 1) := by decide +kernel
theorem dX8_readCommand_41 : decode cX8_readCommand 41 = .ok (.iconst 3, 1) := by decide +kernel
theorem dX8_readCommand_42 : decode cX8_readCommand 42 = .ok (.invokevirtual 351, 3) := by decide +kernel
theorem dX8_readCommand_45 : decode cX8_readCommand 45 = .ok (.aload_n 0, 1) := by decide +kernel
theorem dX8_readCommand_46 : decode cX8_readCommand 46 = .ok (.getfield 333, 3) := by decide +kernel
theorem dX8_readCommand_49 : decode cX8_readCommand 49 = .ok (.ifCond .le 4, 3) := by decide +kernel
theorem dX8_readCommand_52 : decode cX8_readCommand 52 = .ok (.return_, 1) := by decide +kernel
theorem dX8_readCommand_53 : decode cX8_readCommand 53 = .ok (.aload_n 0, 1) := by decide +kernel
theorem dX8_readCommand_54 : decode cX8_readCommand 54 = .ok (.invokevirtual 339, 3) := by decide +kernel
theorem dX8_readCommand_57 : decode cX8_readCommand 57 = .ok (.aload_n 0, 1) := by decide +kernel
theorem dX8_readCommand_58 : decode cX8_readCommand 58 = .ok (.getfield 43, 3) := by decide +kernel
theorem dX8_readCommand_61 : decode cX8_readCommand 61 = .ok (.aload_n 0, 1) := by decide +kernel
theorem dX8_readCommand_62 : decode cX8_readCommand 62 = .ok (.getfield 342, 3) := by decide +kernel
theorem dX8_readCommand_65 : decode cX8_readCommand 65 = .ok (.iload_n 1, 1) := by decide +kernel
theorem dX8_readCommand_66 : decode cX8_readCommand 66 = .ok (.iastore, 1) := by decide +kernel
theorem dX8_readCommand_67 : decode cX8_readCommand 67 = .ok (.aload_n 0, 1) := by decide +kernel
theorem dX8_readCommand_68 : decode cX8_readCommand 68 = .ok (.iload_n 1, 1) := by decide +kernel
theorem dX8_readCommand_69 : decode cX8_readCommand 69 = .ok (.invokevirtual 355, 3) := by decide +kernel
theorem dX8_readCommand_72 : decode cX8_readCommand 72 = .ok (.aload_n 0, 1) := by decide +kernel
theorem dX8_readCommand_73 : decode cX8_readCommand 73 = .ok (.aload_n 0, 1) := by decide +kernel
theorem dX8_readCommand_74 : decode cX8_readCommand 74 = .ok (.getfield 327, 3) := by decide +kernel
theorem dX8_readCommand_77 : decode cX8_readCommand 77 = .ok (.iconst 3, 1) := by decide +kernel
theorem dX8_readCommand_78 : decode cX8_readCommand 78 = .ok (.if_icmp .ne 7, 3) := by decide +kernel
theorem dX8_readCommand_81 : decode cX8_readCommand 81 = .ok (.iconst 1, 1) := by decide +kernel
theorem dX8_readCommand_82 : decode cX8_readCommand 82 = .ok (.goto 4, 3) := by decide +kernel
theorem dX8_readCommand_85 : decode cX8_readCommand 85 = .ok (.iconst 0, 1) := by decide +kernel
theorem dX8_readCommand_86 : decode cX8_readCommand 86 = .ok (.iconst 1, 1) := by decide +kernel
theorem dX8_readCommand_87 : decode cX8_readCommand 87 = .ok (.invokevirtual 351, 3) := by decide +kernel
theorem dX8_readCommand_90 : decode cX8_readCommand 90 = .ok (.aload_n 0, 1) := by decide +kernel
theorem dX8_readCommand_91 : decode cX8_readCommand 91 = .ok (.getfield 333, 3) := by decide +kernel
theorem dX8_readCommand_94 : decode cX8_readCommand 94 = .ok (.ifCond .ne 17, 3) := by decide +kernel
theorem dX8_readCommand_97 : decode cX8_readCommand 97 = .ok (.aload_n 0, 1) := by decide +kernel
theorem dX8_readCommand_98 : decode cX8_readCommand 98 = .ok (.invokevirtual 339, 3) := by decide +kernel
theorem dX8_readCommand_101 : decode cX8_readCommand 101 = .ok (.aload_n 0, 1) := by decide +kernel
theorem dX8_readCommand_102 : decode cX8_readCommand 102 = .ok (.dup, 1) := by decide +kernel
theorem dX8_readCommand_103 : decode cX8_readCommand 103 = .ok (.getfield 342, 3) := by decide +kernel
theorem dX8_readCommand_106 : decode cX8_readCommand 106 = .ok (.iconst 1, 1) := by decide +kernel
theorem dX8_readCommand_107 : decode cX8_readCommand 107 = .ok (.iadd, 1) := by decide +kernel
theorem dX8_readCommand_108 : decode cX8_readCommand 108 = .ok (.putfield 342, 3) := by decide +kernel
theorem dX8_readCommand_111 : decode cX8_readCommand 111 = .ok (.return_, 1) := by decide +kernel
theorem tl_X8_351 : Cond.methodLink RX8 351 yX8_must ∈ TMW := tm_in 2113 (by decide +kernel) (by decide +kernel)
theorem ti_X8_must : Cond.instanceMethod yX8_must ∈ TMW := tm_in 2115 (by decide +kernel) (by decide +kernel)
theorem ts_X8_must : Cond.selects RX8 yX8_must yX8_must ∈ TMW := tm_in 104 (by decide +kernel) (by decide +kernel)
theorem tc_X8_must : Cond.code yX8_must cX8_must 3 none ∈ TMW := tm_in 2116 (by decide +kernel) (by decide +kernel)
theorem tf_X8_43 : Cond.fieldLink RX8 43 "TableMoveModel" (TX8 25).2.1 (TX8 25).2.2.1 ∈ TMW := tm_in 1576 (by decide +kernel) (by decide +kernel)
theorem tl_X8_355 : Cond.methodLink RX8 355 yX8_readParameters ∈ TMW := tm_in 2121 (by decide +kernel) (by decide +kernel)
theorem ti_X8_readParameters : Cond.instanceMethod yX8_readParameters ∈ TMW := tm_in 2123 (by decide +kernel) (by decide +kernel)
theorem ts_X8_readParameters : Cond.selects RX8 yX8_readParameters yX8_readParameters ∈ TMW := tm_in 106 (by decide +kernel) (by decide +kernel)
theorem tc_X8_readParameters : Cond.code yX8_readParameters cX8_readParameters 2 none ∈ TMW := tm_in 2124 (by decide +kernel) (by decide +kernel)
def f_X8_readCommand_86 (s0 : Int32) (v : tmM) : Option (Unit × tmM) := tm_cl (f_X8_must s0 1 v) fun _ v12 => (if (v12 0 21) = 0 then tm_cl (f_X8_goesOn v12) fun _ v14 => tm_lt (tm_up v14 0 24 ((v14 0 24) + 1)) fun v16 => some ((), v16) else some ((), v12))
set_option maxRecDepth 100000 in
set_option maxHeartbeats 4000000 in
theorem w_X8_readCommand_86 {p : Program} {l : Launch} {e : Env} {s : State} {m : MethodId} {args : Array Value} {below : List Frame} {meth : Method} {c : Code} {D : va_G} {cy : Nat → ClassId} {ad : Nat → Nat} {A : Nat → Prop} {z : (Unit × tmM)} (C0 : tmC p s m args meth c cX8_readCommand 2 none RX8 TMW tm_NWR D cy tm_shR ad 13 [] A) (s0 : Int32) (v : tmM) : tmG p l e ({ frames := 5, cells := 0, slots := 0, locals := 106 } : Room) s m args below meth c 0 0 (MQ below (va_Qv (fun u => z = ((), u)) (tmAt tm_shR 13 D cy ad A) A) args s 0 0 A) 2 D cy tm_shR ad 13 [] A z 86 [(0, .ref (ad 0))] [.int s0, .ref (ad 0)] v (f_X8_readCommand_86 s0 v) := by
  unfold f_X8_readCommand_86
  refine tg_iconst (x := 1) C0 dX8_readCommand_86 (by decide) ?_
  refine tg_callVv (As := [.int s0, .int 1]) 0 2 C0 dX8_readCommand_87 (c_X8_must l s0 1 v) rfl rfl (by decide) rfl rfl (tm_gV tl_X8_351 ti_X8_must ts_X8_must tn_X8 tc_X8_must)  rfl rfl rfl rfl (by decide +kernel) ⟨by decide, by decide⟩ (Nat.le_of_ble_eq_true rfl) ⟨by decide, by decide⟩ (fun v12 _ => ?_)
  refine tg_aload_n 0 C0 dX8_readCommand_90 rfl rfl ?_
  refine tg_get 0 21 C0 dX8_readCommand_91 (by decide) rfl rfl tu_X8 (by decide) tf_X8_333 rfl rfl rfl ?_
  refine tg_if_ne 111 C0 dX8_readCommand_94 (by decide) (fun _ => ?_) (fun _ => ?_)
  · exact tg_vret C0 dX8_readCommand_111
  · refine tg_aload_n 0 C0 dX8_readCommand_97 rfl rfl ?_
    refine tg_callVv (As := []) 0 0 C0 dX8_readCommand_98 (c_X8_goesOn l v12) rfl rfl (by decide) rfl rfl (tm_gV tl_X8_339 ti_X8_goesOn ts_X8_goesOn tn_X8 tc_X8_goesOn)  rfl rfl rfl rfl (by decide +kernel) ⟨by decide, by decide⟩ (Nat.le_of_ble_eq_true rfl) ⟨by decide, by decide⟩ (fun v14 _ => ?_)
    refine tg_aload_n 0 C0 dX8_readCommand_101 rfl rfl ?_
    refine tg_dup C0 dX8_readCommand_102 rfl ?_
    refine tg_get 0 24 C0 dX8_readCommand_103 (by decide) rfl rfl tu_X8 (by decide) tf_X8_342 rfl rfl rfl ?_
    refine tg_iconst (x := 1) C0 dX8_readCommand_106 (by decide) ?_
    refine tg_iadd C0 dX8_readCommand_107 ?_
    refine tg_put 0 24 C0 dX8_readCommand_108 (by decide) rfl rfl tu_X8 tyX8_ok nmX8 (by decide) tf_X8_342 rfl rfl rfl rfl rfl rfl ?_
    refine tg_letm (fun v16 _ => ?_)
    exact tg_vret C0 dX8_readCommand_111
def f_X8_readCommand_41 (x1 s0 : Int32) (v : tmM) : Option (Unit × tmM) := tm_cl (f_X8_must s0 3 v) fun _ v5 => (if (v5 0 21) ≤ 0 then tm_cl (f_X8_goesOn v5) fun _ v7 => tm_g (tm_ix (v7 0 24) 30) (tm_lt (tm_up v7 10 (v7 0 24).toNatClampNeg x1) fun v9 => tm_cl (f_X8_readParameters x1 v9) fun _ v10 => (if (v10 0 19) = 3 then f_X8_readCommand_86 1 v10 else f_X8_readCommand_86 0 v10)) else some ((), v5))
set_option maxRecDepth 100000 in
set_option maxHeartbeats 4000000 in
theorem w_X8_readCommand_41 {p : Program} {l : Launch} {e : Env} {s : State} {m : MethodId} {args : Array Value} {below : List Frame} {meth : Method} {c : Code} {D : va_G} {cy : Nat → ClassId} {ad : Nat → Nat} {A : Nat → Prop} {z : (Unit × tmM)} (C0 : tmC p s m args meth c cX8_readCommand 2 none RX8 TMW tm_NWR D cy tm_shR ad 13 [] A) (x1 s0 : Int32) (v : tmM) : tmG p l e ({ frames := 5, cells := 0, slots := 0, locals := 106 } : Room) s m args below meth c 0 0 (MQ below (va_Qv (fun u => z = ((), u)) (tmAt tm_shR 13 D cy ad A) A) args s 0 0 A) 2 D cy tm_shR ad 13 [] A z 41 [(0, .ref (ad 0)), (1, .int x1)] [.int s0, .ref (ad 0)] v (f_X8_readCommand_41 x1 s0 v) := by
  unfold f_X8_readCommand_41
  refine tg_iconst (x := 3) C0 dX8_readCommand_41 (by decide) ?_
  refine tg_callVv (As := [.int s0, .int 3]) 0 2 C0 dX8_readCommand_42 (c_X8_must l s0 3 v) rfl rfl (by decide) rfl rfl (tm_gV tl_X8_351 ti_X8_must ts_X8_must tn_X8 tc_X8_must)  rfl rfl rfl rfl (by decide +kernel) ⟨by decide, by decide⟩ (Nat.le_of_ble_eq_true rfl) ⟨by decide, by decide⟩ (fun v5 _ => ?_)
  refine tg_aload_n 0 C0 dX8_readCommand_45 rfl rfl ?_
  refine tg_get 0 21 C0 dX8_readCommand_46 (by decide) rfl rfl tu_X8 (by decide) tf_X8_333 rfl rfl rfl ?_
  refine tg_if_le 53 C0 dX8_readCommand_49 (by decide) (fun _ => ?_) (fun _ => ?_)
  · refine tg_aload_n 0 C0 dX8_readCommand_53 rfl rfl ?_
    refine tg_callVv (As := []) 0 0 C0 dX8_readCommand_54 (c_X8_goesOn l v5) rfl rfl (by decide) rfl rfl (tm_gV tl_X8_339 ti_X8_goesOn ts_X8_goesOn tn_X8 tc_X8_goesOn)  rfl rfl rfl rfl (by decide +kernel) ⟨by decide, by decide⟩ (Nat.le_of_ble_eq_true rfl) ⟨by decide, by decide⟩ (fun v7 _ => ?_)
    refine tg_aload_n 0 C0 dX8_readCommand_57 rfl rfl ?_
    refine tg_get 0 25 C0 dX8_readCommand_58 (by decide) rfl rfl tu_X8 (by decide) tf_X8_43 rfl rfl rfl ?_
    refine tg_aload_n 0 C0 dX8_readCommand_61 rfl rfl ?_
    refine tg_get 0 24 C0 dX8_readCommand_62 (by decide) rfl rfl tu_X8 (by decide) tf_X8_342 rfl rfl rfl ?_
    refine tg_iload_n 1 C0 dX8_readCommand_65 rfl rfl ?_
    refine tg_iast 10 C0 dX8_readCommand_66 (by decide) rfl (fun _ => ?_)
    refine tg_letm (fun v9 _ => ?_)
    refine tg_aload_n 0 C0 dX8_readCommand_67 rfl rfl ?_
    refine tg_iload_n 1 C0 dX8_readCommand_68 rfl rfl ?_
    refine tg_callVv (As := [.int x1]) 0 1 C0 dX8_readCommand_69 (c_X8_readParameters l x1 v9) rfl rfl (by decide) rfl rfl (tm_gV tl_X8_355 ti_X8_readParameters ts_X8_readParameters tn_X8 tc_X8_readParameters)  rfl rfl rfl rfl (by decide +kernel) ⟨by decide, by decide⟩ (Nat.le_of_ble_eq_true rfl) ⟨by decide, by decide⟩ (fun v10 _ => ?_)
    refine tg_aload_n 0 C0 dX8_readCommand_72 rfl rfl ?_
    refine tg_aload_n 0 C0 dX8_readCommand_73 rfl rfl ?_
    refine tg_get 0 19 C0 dX8_readCommand_74 (by decide) rfl rfl tu_X8 (by decide) tf_X8_327 rfl rfl rfl ?_
    refine tg_iconst (x := 3) C0 dX8_readCommand_77 (by decide) ?_
    refine tg_icmp_ne 85 C0 dX8_readCommand_78 (by decide) (fun _ => ?_) (fun _ => ?_)
    · refine tg_iconst (x := 0) C0 dX8_readCommand_85 (by decide) ?_
      refine tg_sub [0] rfl ?_
      exact w_X8_readCommand_86 C0 0 v10
    · refine tg_iconst (x := 1) C0 dX8_readCommand_81 (by decide) ?_
      refine tg_goto 86 C0 dX8_readCommand_82 (by decide) ?_
      refine tg_sub [0] rfl ?_
      exact w_X8_readCommand_86 C0 1 v10
  · exact tg_vret C0 dX8_readCommand_52
def f_X8_readCommand_22 (x1 s0 : Int32) (v : tmM) : Option (Unit × tmM) := tm_cl (f_X8_must s0 1 v) fun _ v3 => (if 30 ≤ (v3 0 24) then f_X8_readCommand_41 x1 0 v3 else f_X8_readCommand_41 x1 1 v3)
set_option maxRecDepth 100000 in
set_option maxHeartbeats 4000000 in
theorem w_X8_readCommand_22 {p : Program} {l : Launch} {e : Env} {s : State} {m : MethodId} {args : Array Value} {below : List Frame} {meth : Method} {c : Code} {D : va_G} {cy : Nat → ClassId} {ad : Nat → Nat} {A : Nat → Prop} {z : (Unit × tmM)} (C0 : tmC p s m args meth c cX8_readCommand 2 none RX8 TMW tm_NWR D cy tm_shR ad 13 [] A) (x1 s0 : Int32) (v : tmM) : tmG p l e ({ frames := 5, cells := 0, slots := 0, locals := 106 } : Room) s m args below meth c 0 0 (MQ below (va_Qv (fun u => z = ((), u)) (tmAt tm_shR 13 D cy ad A) A) args s 0 0 A) 2 D cy tm_shR ad 13 [] A z 22 [(0, .ref (ad 0)), (1, .int x1)] [.int s0, .ref (ad 0)] v (f_X8_readCommand_22 x1 s0 v) := by
  unfold f_X8_readCommand_22
  refine tg_iconst (x := 1) C0 dX8_readCommand_22 (by decide) ?_
  refine tg_callVv (As := [.int s0, .int 1]) 0 2 C0 dX8_readCommand_23 (c_X8_must l s0 1 v) rfl rfl (by decide) rfl rfl (tm_gV tl_X8_351 ti_X8_must ts_X8_must tn_X8 tc_X8_must)  rfl rfl rfl rfl (by decide +kernel) ⟨by decide, by decide⟩ (Nat.le_of_ble_eq_true rfl) ⟨by decide, by decide⟩ (fun v3 _ => ?_)
  refine tg_aload_n 0 C0 dX8_readCommand_26 rfl rfl ?_
  refine tg_aload_n 0 C0 dX8_readCommand_27 rfl rfl ?_
  refine tg_get 0 24 C0 dX8_readCommand_28 (by decide) rfl rfl tu_X8 (by decide) tf_X8_342 rfl rfl rfl ?_
  refine tg_bipush (x := 30) C0 dX8_readCommand_31 (by decide) ?_
  refine tg_icmp_ge 40 C0 dX8_readCommand_33 (by decide) (fun _ => ?_) (fun _ => ?_)
  · refine tg_iconst (x := 0) C0 dX8_readCommand_40 (by decide) ?_
    exact w_X8_readCommand_41 C0 x1 0 v3
  · refine tg_iconst (x := 1) C0 dX8_readCommand_36 (by decide) ?_
    refine tg_goto 41 C0 dX8_readCommand_37 (by decide) ?_
    exact w_X8_readCommand_41 C0 x1 1 v3
def f_X8_readCommand_21 (x1 : Int32) (v : tmM) : Option (Unit × tmM) := f_X8_readCommand_22 x1 0 v
set_option maxRecDepth 100000 in
set_option maxHeartbeats 4000000 in
theorem w_X8_readCommand_21 {p : Program} {l : Launch} {e : Env} {s : State} {m : MethodId} {args : Array Value} {below : List Frame} {meth : Method} {c : Code} {D : va_G} {cy : Nat → ClassId} {ad : Nat → Nat} {A : Nat → Prop} {z : (Unit × tmM)} (C0 : tmC p s m args meth c cX8_readCommand 2 none RX8 TMW tm_NWR D cy tm_shR ad 13 [] A) (x1 : Int32) (v : tmM) : tmG p l e ({ frames := 5, cells := 0, slots := 0, locals := 106 } : Room) s m args below meth c 0 0 (MQ below (va_Qv (fun u => z = ((), u)) (tmAt tm_shR 13 D cy ad A) A) args s 0 0 A) 2 D cy tm_shR ad 13 [] A z 21 [(0, .ref (ad 0)), (1, .int x1)] [.ref (ad 0)] v (f_X8_readCommand_21 x1 v) := by
  unfold f_X8_readCommand_21
  refine tg_iconst (x := 0) C0 dX8_readCommand_21 (by decide) ?_
  exact w_X8_readCommand_22 C0 x1 0 v
def f_X8_readCommand (v : tmM) : Option (Unit × tmM) := tm_cl (f_X8_wordHere v) fun r2 v1 => (if r2 = (-1) then f_X8_readCommand_21 r2 v1 else (if r2 = 12 then f_X8_readCommand_21 r2 v1 else f_X8_readCommand_22 r2 1 v1))
set_option maxRecDepth 100000 in
set_option maxHeartbeats 4000000 in
theorem w_X8_readCommand {p : Program} {l : Launch} {e : Env} {s : State} {m : MethodId} {args : Array Value} {below : List Frame} {meth : Method} {c : Code} {D : va_G} {cy : Nat → ClassId} {ad : Nat → Nat} {A : Nat → Prop} {z : (Unit × tmM)} (C0 : tmC p s m args meth c cX8_readCommand 2 none RX8 TMW tm_NWR D cy tm_shR ad 13 [] A) (v : tmM) : tmG p l e ({ frames := 5, cells := 0, slots := 0, locals := 106 } : Room) s m args below meth c 0 0 (MQ below (va_Qv (fun u => z = ((), u)) (tmAt tm_shR 13 D cy ad A) A) args s 0 0 A) 2 D cy tm_shR ad 13 [] A z 0 [(0, .ref (ad 0))] [] v (f_X8_readCommand v) := by
  unfold f_X8_readCommand
  refine tg_aload_n 0 C0 dX8_readCommand_0 rfl rfl ?_
  refine tg_callVi (As := []) 0 0 C0 dX8_readCommand_1 (c_X8_wordHere l v) rfl rfl (by decide) rfl rfl (tm_gV tl_X8_348 ti_X8_wordHere ts_X8_wordHere tn_X8 tc_X8_wordHere)  rfl rfl rfl rfl (by decide +kernel) ⟨by decide, by decide⟩ (Nat.le_of_ble_eq_true rfl) ⟨by decide, by decide⟩ (fun r2 v1 _ => ?_)
  refine tg_istore_n [(1, .int r2), (0, .ref (ad 0))] C0 dX8_readCommand_4 rfl (by decide) rfl ?_
  refine tg_aload_n 1 C0 dX8_readCommand_5 rfl rfl ?_
  refine tg_iload_n 0 C0 dX8_readCommand_6 rfl rfl ?_
  refine tg_iconst (x := (-1)) C0 dX8_readCommand_7 (by decide) ?_
  refine tg_icmp_eq 21 C0 dX8_readCommand_8 (by decide) (fun _ => ?_) (fun _ => ?_)
  · refine tg_sub [1, 0] rfl ?_
    exact w_X8_readCommand_21 C0 r2 v1
  · refine tg_iload_n 0 C0 dX8_readCommand_11 rfl rfl ?_
    refine tg_bipush (x := 12) C0 dX8_readCommand_12 (by decide) ?_
    refine tg_icmp_eq 21 C0 dX8_readCommand_14 (by decide) (fun _ => ?_) (fun _ => ?_)
    · refine tg_sub [1, 0] rfl ?_
      exact w_X8_readCommand_21 C0 r2 v1
    · refine tg_iconst (x := 1) C0 dX8_readCommand_17 (by decide) ?_
      refine tg_goto 22 C0 dX8_readCommand_18 (by decide) ?_
      refine tg_sub [1, 0] rfl ?_
      exact w_X8_readCommand_22 C0 r2 1 v1
theorem c_X8_readCommand (l : Launch) (v : tmM) : tmMv tm_NWR tm_shR 13 l yX8_readCommand (Cond.code yX8_readCommand cX8_readCommand 2 none :: TMW) ({ frames := 5, cells := 0, slots := 0, locals := 106 } : Room) (fun ad => [.ref (ad 0)]) v (f_X8_readCommand v) :=
  tmMv.of (cc := cX8_readCommand) (nL := 2) (by decide +kernel) rfl tm_NWR_ok (fun _ => Nat.le_of_ble_eq_true rfl) (fun p e s m args below meth c A D cy ad z C0 => w_X8_readCommand C0 v)
-- ----- X8_doesCommand
theorem dX8_doesCommand_0 : decode cX8_doesCommand 0 = .ok (.aload_n 0, 1) := by decide +kernel
theorem dX8_doesCommand_1 : decode cX8_doesCommand 1 = .ok (.getfield 43, 3) := by decide +kernel
theorem dX8_doesCommand_4 : decode cX8_doesCommand 4 = .ok (.iload_n 1, 1) := by decide +kernel
theorem dX8_doesCommand_5 : decode cX8_doesCommand 5 = .ok (.iaload, 1) := by decide +kernel
theorem dX8_doesCommand_6 : decode cX8_doesCommand 6 = .ok (.tableswitch 175 0 10 #[58, 75, 86, 91, 102, 113, 124, 135, 146, 151, 170], 58) := by decide +kernel
theorem dX8_doesCommand_64 : decode cX8_doesCommand 64 = .ok (.aload_n 0, 1) := by decide +kernel
theorem dX8_doesCommand_65 : decode cX8_doesCommand 65 = .ok (.aload_n 0, 1) := by decide +kernel
theorem dX8_doesCommand_66 : decode cX8_doesCommand 66 = .ok (.getfield 46, 3) := by decide +kernel
theorem dX8_doesCommand_69 : decode cX8_doesCommand 69 = .ok (.iload_n 1, 1) := by decide +kernel
theorem dX8_doesCommand_70 : decode cX8_doesCommand 70 = .ok (.iaload, 1) := by decide +kernel
theorem dX8_doesCommand_71 : decode cX8_doesCommand 71 = .ok (.aload_n 0, 1) := by decide +kernel
theorem dX8_doesCommand_72 : decode cX8_doesCommand 72 = .ok (.getfield 49, 3) := by decide +kernel
theorem dX8_doesCommand_75 : decode cX8_doesCommand 75 = .ok (.iload_n 1, 1) := by decide +kernel
theorem dX8_doesCommand_76 : decode cX8_doesCommand 76 = .ok (.iaload, 1) := by decide +kernel
theorem dX8_doesCommand_77 : decode cX8_doesCommand 77 = .ok (.invokevirtual 174, 3) := by decide +kernel
theorem dX8_doesCommand_80 : decode cX8_doesCommand 80 = .ok (.ireturn, 1) := by decide +kernel
theorem dX8_doesCommand_81 : decode cX8_doesCommand 81 = .ok (.aload_n 0, 1) := by decide +kernel
theorem dX8_doesCommand_82 : decode cX8_doesCommand 82 = .ok (.aload_n 0, 1) := by decide +kernel
theorem dX8_doesCommand_83 : decode cX8_doesCommand 83 = .ok (.getfield 46, 3) := by decide +kernel
theorem dX8_doesCommand_86 : decode cX8_doesCommand 86 = .ok (.iload_n 1, 1) := by decide +kernel
theorem dX8_doesCommand_87 : decode cX8_doesCommand 87 = .ok (.iaload, 1) := by decide +kernel
theorem dX8_doesCommand_88 : decode cX8_doesCommand 88 = .ok (.invokevirtual 177, 3) := by decide +kernel
theorem dX8_doesCommand_91 : decode cX8_doesCommand 91 = .ok (.ireturn, 1) := by decide +kernel
theorem dX8_doesCommand_92 : decode cX8_doesCommand 92 = .ok (.aload_n 0, 1) := by decide +kernel
theorem dX8_doesCommand_93 : decode cX8_doesCommand 93 = .ok (.invokevirtual 256, 3) := by decide +kernel
theorem dX8_doesCommand_96 : decode cX8_doesCommand 96 = .ok (.ireturn, 1) := by decide +kernel
theorem dX8_doesCommand_97 : decode cX8_doesCommand 97 = .ok (.aload_n 0, 1) := by decide +kernel
theorem dX8_doesCommand_98 : decode cX8_doesCommand 98 = .ok (.aload_n 0, 1) := by decide +kernel
theorem dX8_doesCommand_99 : decode cX8_doesCommand 99 = .ok (.getfield 46, 3) := by decide +kernel
theorem dX8_doesCommand_102 : decode cX8_doesCommand 102 = .ok (.iload_n 1, 1) := by decide +kernel
theorem dX8_doesCommand_103 : decode cX8_doesCommand 103 = .ok (.iaload, 1) := by decide +kernel
theorem dX8_doesCommand_104 : decode cX8_doesCommand 104 = .ok (.invokevirtual 198, 3) := by decide +kernel
theorem dX8_doesCommand_107 : decode cX8_doesCommand 107 = .ok (.ireturn, 1) := by decide +kernel
theorem dX8_doesCommand_108 : decode cX8_doesCommand 108 = .ok (.aload_n 0, 1) := by decide +kernel
theorem dX8_doesCommand_109 : decode cX8_doesCommand 109 = .ok (.aload_n 0, 1) := by decide +kernel
theorem dX8_doesCommand_110 : decode cX8_doesCommand 110 = .ok (.getfield 46, 3) := by decide +kernel
theorem dX8_doesCommand_113 : decode cX8_doesCommand 113 = .ok (.iload_n 1, 1) := by decide +kernel
theorem dX8_doesCommand_114 : decode cX8_doesCommand 114 = .ok (.iaload, 1) := by decide +kernel
theorem dX8_doesCommand_115 : decode cX8_doesCommand 115 = .ok (.invokevirtual 204, 3) := by decide +kernel
theorem dX8_doesCommand_118 : decode cX8_doesCommand 118 = .ok (.ireturn, 1) := by decide +kernel
theorem dX8_doesCommand_119 : decode cX8_doesCommand 119 = .ok (.aload_n 0, 1) := by decide +kernel
theorem dX8_doesCommand_120 : decode cX8_doesCommand 120 = .ok (.aload_n 0, 1) := by decide +kernel
theorem dX8_doesCommand_121 : decode cX8_doesCommand 121 = .ok (.getfield 46, 3) := by decide +kernel
theorem dX8_doesCommand_124 : decode cX8_doesCommand 124 = .ok (.iload_n 1, 1) := by decide +kernel
theorem dX8_doesCommand_125 : decode cX8_doesCommand 125 = .ok (.iaload, 1) := by decide +kernel
theorem dX8_doesCommand_126 : decode cX8_doesCommand 126 = .ok (.invokevirtual 210, 3) := by decide +kernel
theorem dX8_doesCommand_129 : decode cX8_doesCommand 129 = .ok (.ireturn, 1) := by decide +kernel
theorem dX8_doesCommand_130 : decode cX8_doesCommand 130 = .ok (.aload_n 0, 1) := by decide +kernel
theorem dX8_doesCommand_131 : decode cX8_doesCommand 131 = .ok (.aload_n 0, 1) := by decide +kernel
theorem dX8_doesCommand_132 : decode cX8_doesCommand 132 = .ok (.getfield 46, 3) := by decide +kernel
theorem dX8_doesCommand_135 : decode cX8_doesCommand 135 = .ok (.iload_n 1, 1) := by decide +kernel
theorem dX8_doesCommand_136 : decode cX8_doesCommand 136 = .ok (.iaload, 1) := by decide +kernel
theorem dX8_doesCommand_137 : decode cX8_doesCommand 137 = .ok (.invokevirtual 216, 3) := by decide +kernel
theorem dX8_doesCommand_140 : decode cX8_doesCommand 140 = .ok (.ireturn, 1) := by decide +kernel
theorem dX8_doesCommand_141 : decode cX8_doesCommand 141 = .ok (.aload_n 0, 1) := by decide +kernel
theorem dX8_doesCommand_142 : decode cX8_doesCommand 142 = .ok (.aload_n 0, 1) := by decide +kernel
theorem dX8_doesCommand_143 : decode cX8_doesCommand 143 = .ok (.getfield 46, 3) := by decide +kernel
theorem dX8_doesCommand_146 : decode cX8_doesCommand 146 = .ok (.iload_n 1, 1) := by decide +kernel
theorem dX8_doesCommand_147 : decode cX8_doesCommand 147 = .ok (.iaload, 1) := by decide +kernel
theorem dX8_doesCommand_148 : decode cX8_doesCommand 148 = .ok (.invokevirtual 222, 3) := by decide +kernel
theorem dX8_doesCommand_151 : decode cX8_doesCommand 151 = .ok (.ireturn, 1) := by decide +kernel
theorem dX8_doesCommand_152 : decode cX8_doesCommand 152 = .ok (.aload_n 0, 1) := by decide +kernel
theorem dX8_doesCommand_153 : decode cX8_doesCommand 153 = .ok (.invokevirtual 259, 3) := by decide +kernel
theorem dX8_doesCommand_156 : decode cX8_doesCommand 156 = .ok (.ireturn, 1) := by decide +kernel
theorem dX8_doesCommand_157 : decode cX8_doesCommand 157 = .ok (.aload_n 0, 1) := by decide +kernel
theorem dX8_doesCommand_158 : decode cX8_doesCommand 158 = .ok (.aload_n 0, 1) := by decide +kernel
theorem dX8_doesCommand_159 : decode cX8_doesCommand 159 = .ok (.getfield 46, 3) := by decide +kernel
theorem dX8_doesCommand_162 : decode cX8_doesCommand 162 = .ok (.iload_n 1, 1) := by decide +kernel
theorem dX8_doesCommand_163 : decode cX8_doesCommand 163 = .ok (.iaload, 1) := by decide +kernel
theorem dX8_doesCommand_164 : decode cX8_doesCommand 164 = .ok (.ifCond .ne 7, 3) := by decide +kernel
theorem dX8_doesCommand_167 : decode cX8_doesCommand 167 = .ok (.iconst 1, 1) := by decide +kernel
theorem dX8_doesCommand_168 : decode cX8_doesCommand 168 = .ok (.goto 4, 3) := by decide +kernel
theorem dX8_doesCommand_171 : decode cX8_doesCommand 171 = .ok (.iconst 0, 1) := by decide +kernel
theorem dX8_doesCommand_172 : decode cX8_doesCommand 172 = .ok (.invokevirtual 235, 3) := by decide +kernel
theorem dX8_doesCommand_175 : decode cX8_doesCommand 175 = .ok (.ireturn, 1) := by decide +kernel
theorem dX8_doesCommand_176 : decode cX8_doesCommand 176 = .ok (.aload_n 0, 1) := by decide +kernel
theorem dX8_doesCommand_177 : decode cX8_doesCommand 177 = .ok (.invokevirtual 358, 3) := by decide +kernel
theorem dX8_doesCommand_180 : decode cX8_doesCommand 180 = .ok (.ireturn, 1) := by decide +kernel
theorem dX8_doesCommand_181 : decode cX8_doesCommand 181 = .ok (.aload_n 0, 1) := by decide +kernel
theorem dX8_doesCommand_182 : decode cX8_doesCommand 182 = .ok (.invokevirtual 262, 3) := by decide +kernel
theorem dX8_doesCommand_185 : decode cX8_doesCommand 185 = .ok (.ireturn, 1) := by decide +kernel
theorem tl_X8_358 : Cond.methodLink RX8 358 yX8_stop ∈ TMW := tm_in 2133 (by decide +kernel) (by decide +kernel)
theorem ti_X8_stop : Cond.instanceMethod yX8_stop ∈ TMW := tm_in 1956 (by decide +kernel) (by decide +kernel)
theorem ts_X8_stop : Cond.selects RX8 yX8_stop yX8_stop ∈ TMW := tm_in 1957 (by decide +kernel) (by decide +kernel)
theorem tc_X8_stop : Cond.code yX8_stop cX8_stop 2 (some .int) ∈ TMW := tm_in 1958 (by decide +kernel) (by decide +kernel)
def f_X8_doesCommand_172 (s0 : Int32) (v : tmM) : Option (Int32 × tmM) := tm_cl (f_X8_goesBack s0 v) fun r30 v29 => some (r30, v29)
set_option maxRecDepth 100000 in
set_option maxHeartbeats 4000000 in
theorem w_X8_doesCommand_172 {p : Program} {l : Launch} {e : Env} {s : State} {m : MethodId} {args : Array Value} {below : List Frame} {meth : Method} {c : Code} {D : va_G} {cy : Nat → ClassId} {ad : Nat → Nat} {A : Nat → Prop} {z : (Int32 × tmM)} (C0 : tmC p s m args meth c cX8_doesCommand 2 (some .int) RX8 TMW tm_NWR D cy tm_shR ad 13 [] A) (s0 : Int32) (v : tmM) : tmG p l e ({ frames := 7, cells := 0, slots := 0, locals := 157 } : Room) s m args below meth c 0 0 (MQ below (va_Qi (fun r u => z = (r, u)) (tmAt tm_shR 13 D cy ad A) A) args s 0 0 A) 2 D cy tm_shR ad 13 [] A z 172 [] [.int s0, .ref (ad 0)] v (f_X8_doesCommand_172 s0 v) := by
  unfold f_X8_doesCommand_172
  refine tg_callVi (As := [.int s0]) 0 1 C0 dX8_doesCommand_172 (c_X8_goesBack l s0 v) rfl rfl (by decide) rfl rfl (tm_gV tl_X8_235 ti_X8_goesBack ts_X8_goesBack tn_X8 tc_X8_goesBack)  rfl rfl rfl rfl (by decide +kernel) ⟨by decide, by decide⟩ (Nat.le_of_ble_eq_true rfl) ⟨by decide, by decide⟩ (fun r30 v29 _ => ?_)
  exact tg_iret C0 dX8_doesCommand_175
def f_X8_doesCommand (x1 : Int32) (v : tmM) : Option (Int32 × tmM) := tm_g (tm_ix x1 30) (tm_lt (v 10 x1.toNatClampNeg) fun y1 => (if y1 = 0 then tm_g (tm_ix x1 30) (tm_g (tm_ix x1 30) (tm_cl (f_X8_puts (v 11 x1.toNatClampNeg) (v 12 x1.toNatClampNeg) v) fun r3 v2 => some (r3, v2))) else if y1 = 1 then tm_g (tm_ix x1 30) (tm_cl (f_X8_removes (v 11 x1.toNatClampNeg) v) fun r6 v5 => some (r6, v5)) else if y1 = 2 then tm_cl (f_X8_begin v) fun r9 v8 => some (r9, v8) else if y1 = 3 then tm_g (tm_ix x1 30) (tm_cl (f_X8_copiesChunks (v 11 x1.toNatClampNeg) v) fun r12 v11 => some (r12, v11)) else if y1 = 4 then tm_g (tm_ix x1 30) (tm_cl (f_X8_repairs (v 11 x1.toNatClampNeg) v) fun r15 v14 => some (r15, v14)) else if y1 = 5 then tm_g (tm_ix x1 30) (tm_cl (f_X8_checks (v 11 x1.toNatClampNeg) v) fun r18 v17 => some (r18, v17)) else if y1 = 6 then tm_g (tm_ix x1 30) (tm_cl (f_X8_switches (v 11 x1.toNatClampNeg) v) fun r21 v20 => some (r21, v20)) else if y1 = 7 then tm_g (tm_ix x1 30) (tm_cl (f_X8_switchesBack (v 11 x1.toNatClampNeg) v) fun r24 v23 => some (r24, v23)) else if y1 = 8 then tm_cl (f_X8_lead v) fun r27 v26 => some (r27, v26) else if y1 = 9 then tm_g (tm_ix x1 30) ((if (v 11 x1.toNatClampNeg) = 0 then f_X8_doesCommand_172 1 v else f_X8_doesCommand_172 0 v)) else if y1 = 10 then tm_cl (f_X8_stop v) fun r33 v32 => some (r33, v32) else tm_cl (f_X8_finish v) fun r36 v35 => some (r36, v35)))
set_option maxRecDepth 100000 in
set_option maxHeartbeats 4000000 in
theorem w_X8_doesCommand {p : Program} {l : Launch} {e : Env} {s : State} {m : MethodId} {args : Array Value} {below : List Frame} {meth : Method} {c : Code} {D : va_G} {cy : Nat → ClassId} {ad : Nat → Nat} {A : Nat → Prop} {z : (Int32 × tmM)} (C0 : tmC p s m args meth c cX8_doesCommand 2 (some .int) RX8 TMW tm_NWR D cy tm_shR ad 13 [] A) (x1 : Int32) (v : tmM) : tmG p l e ({ frames := 7, cells := 0, slots := 0, locals := 157 } : Room) s m args below meth c 0 0 (MQ below (va_Qi (fun r u => z = (r, u)) (tmAt tm_shR 13 D cy ad A) A) args s 0 0 A) 2 D cy tm_shR ad 13 [] A z 0 [(0, .ref (ad 0)), (1, .int x1)] [] v (f_X8_doesCommand x1 v) := by
  unfold f_X8_doesCommand
  refine tg_aload_n 0 C0 dX8_doesCommand_0 rfl rfl ?_
  refine tg_get 0 25 C0 dX8_doesCommand_1 (by decide) rfl rfl tu_X8 (by decide) tf_X8_43 rfl rfl rfl ?_
  refine tg_iload_n 1 C0 dX8_doesCommand_4 rfl rfl ?_
  refine tg_iald 10 C0 dX8_doesCommand_5 (by decide) rfl (fun _ => ?_)
  refine tg_leti (fun y1 _ => ?_)
  refine tg_tab 0 (cst := 0) 64 tg_tab0 C0 dX8_doesCommand_6 (by decide) rfl (by decide) (by decide) (fun _ => ?_) (fun h4 => ?_)
  · refine tg_aload_n 0 C0 dX8_doesCommand_64 rfl rfl ?_
    refine tg_aload_n 0 C0 dX8_doesCommand_65 rfl rfl ?_
    refine tg_get 0 26 C0 dX8_doesCommand_66 (by decide) rfl rfl tu_X8 (by decide) tf_X8_46 rfl rfl rfl ?_
    refine tg_iload_n 1 C0 dX8_doesCommand_69 rfl rfl ?_
    refine tg_iald 11 C0 dX8_doesCommand_70 (by decide) rfl (fun _ => ?_)
    refine tg_aload_n 0 C0 dX8_doesCommand_71 rfl rfl ?_
    refine tg_get 0 27 C0 dX8_doesCommand_72 (by decide) rfl rfl tu_X8 (by decide) tf_X8_49 rfl rfl rfl ?_
    refine tg_iload_n 1 C0 dX8_doesCommand_75 rfl rfl ?_
    refine tg_iald 12 C0 dX8_doesCommand_76 (by decide) rfl (fun _ => ?_)
    refine tg_callVi (As := [.int (v 11 x1.toNatClampNeg), .int (v 12 x1.toNatClampNeg)]) 0 2 C0 dX8_doesCommand_77 (c_X8_puts l (v 11 x1.toNatClampNeg) (v 12 x1.toNatClampNeg) v) rfl rfl (by decide) rfl rfl (tm_gV tl_X8_174 ti_X8_puts ts_X8_puts tn_X8 tc_X8_puts)  rfl rfl rfl rfl (by decide +kernel) ⟨by decide, by decide⟩ (Nat.le_of_ble_eq_true rfl) ⟨by decide, by decide⟩ (fun r3 v2 _ => ?_)
    exact tg_iret C0 dX8_doesCommand_80
  refine tg_tab 1 (cst := 1) 81 h4 C0 dX8_doesCommand_6 (by decide) rfl (by decide) (by decide) (fun _ => ?_) (fun h7 => ?_)
  · refine tg_aload_n 0 C0 dX8_doesCommand_81 rfl rfl ?_
    refine tg_aload_n 0 C0 dX8_doesCommand_82 rfl rfl ?_
    refine tg_get 0 26 C0 dX8_doesCommand_83 (by decide) rfl rfl tu_X8 (by decide) tf_X8_46 rfl rfl rfl ?_
    refine tg_iload_n 1 C0 dX8_doesCommand_86 rfl rfl ?_
    refine tg_iald 11 C0 dX8_doesCommand_87 (by decide) rfl (fun _ => ?_)
    refine tg_callVi (As := [.int (v 11 x1.toNatClampNeg)]) 0 1 C0 dX8_doesCommand_88 (c_X8_removes l (v 11 x1.toNatClampNeg) v) rfl rfl (by decide) rfl rfl (tm_gV tl_X8_177 ti_X8_removes ts_X8_removes tn_X8 tc_X8_removes)  rfl rfl rfl rfl (by decide +kernel) ⟨by decide, by decide⟩ (Nat.le_of_ble_eq_true rfl) ⟨by decide, by decide⟩ (fun r6 v5 _ => ?_)
    exact tg_iret C0 dX8_doesCommand_91
  refine tg_tab 2 (cst := 2) 92 h7 C0 dX8_doesCommand_6 (by decide) rfl (by decide) (by decide) (fun _ => ?_) (fun h10 => ?_)
  · refine tg_aload_n 0 C0 dX8_doesCommand_92 rfl rfl ?_
    refine tg_callVi (As := []) 0 0 C0 dX8_doesCommand_93 (c_X8_begin l v) rfl rfl (by decide) rfl rfl (tm_gV tl_X8_256 ti_X8_begin ts_X8_begin tn_X8 tc_X8_begin)  rfl rfl rfl rfl (by decide +kernel) ⟨by decide, by decide⟩ (Nat.le_of_ble_eq_true rfl) ⟨by decide, by decide⟩ (fun r9 v8 _ => ?_)
    exact tg_iret C0 dX8_doesCommand_96
  refine tg_tab 3 (cst := 3) 97 h10 C0 dX8_doesCommand_6 (by decide) rfl (by decide) (by decide) (fun _ => ?_) (fun h13 => ?_)
  · refine tg_aload_n 0 C0 dX8_doesCommand_97 rfl rfl ?_
    refine tg_aload_n 0 C0 dX8_doesCommand_98 rfl rfl ?_
    refine tg_get 0 26 C0 dX8_doesCommand_99 (by decide) rfl rfl tu_X8 (by decide) tf_X8_46 rfl rfl rfl ?_
    refine tg_iload_n 1 C0 dX8_doesCommand_102 rfl rfl ?_
    refine tg_iald 11 C0 dX8_doesCommand_103 (by decide) rfl (fun _ => ?_)
    refine tg_callVi (As := [.int (v 11 x1.toNatClampNeg)]) 0 1 C0 dX8_doesCommand_104 (c_X8_copiesChunks l (v 11 x1.toNatClampNeg) v) rfl rfl (by decide) rfl rfl (tm_gV tl_X8_198 ti_X8_copiesChunks ts_X8_copiesChunks tn_X8 tc_X8_copiesChunks)  rfl rfl rfl rfl (by decide +kernel) ⟨by decide, by decide⟩ (Nat.le_of_ble_eq_true rfl) ⟨by decide, by decide⟩ (fun r12 v11 _ => ?_)
    exact tg_iret C0 dX8_doesCommand_107
  refine tg_tab 4 (cst := 4) 108 h13 C0 dX8_doesCommand_6 (by decide) rfl (by decide) (by decide) (fun _ => ?_) (fun h16 => ?_)
  · refine tg_aload_n 0 C0 dX8_doesCommand_108 rfl rfl ?_
    refine tg_aload_n 0 C0 dX8_doesCommand_109 rfl rfl ?_
    refine tg_get 0 26 C0 dX8_doesCommand_110 (by decide) rfl rfl tu_X8 (by decide) tf_X8_46 rfl rfl rfl ?_
    refine tg_iload_n 1 C0 dX8_doesCommand_113 rfl rfl ?_
    refine tg_iald 11 C0 dX8_doesCommand_114 (by decide) rfl (fun _ => ?_)
    refine tg_callVi (As := [.int (v 11 x1.toNatClampNeg)]) 0 1 C0 dX8_doesCommand_115 (c_X8_repairs l (v 11 x1.toNatClampNeg) v) rfl rfl (by decide) rfl rfl (tm_gV tl_X8_204 ti_X8_repairs ts_X8_repairs tn_X8 tc_X8_repairs)  rfl rfl rfl rfl (by decide +kernel) ⟨by decide, by decide⟩ (Nat.le_of_ble_eq_true rfl) ⟨by decide, by decide⟩ (fun r15 v14 _ => ?_)
    exact tg_iret C0 dX8_doesCommand_118
  refine tg_tab 5 (cst := 5) 119 h16 C0 dX8_doesCommand_6 (by decide) rfl (by decide) (by decide) (fun _ => ?_) (fun h19 => ?_)
  · refine tg_aload_n 0 C0 dX8_doesCommand_119 rfl rfl ?_
    refine tg_aload_n 0 C0 dX8_doesCommand_120 rfl rfl ?_
    refine tg_get 0 26 C0 dX8_doesCommand_121 (by decide) rfl rfl tu_X8 (by decide) tf_X8_46 rfl rfl rfl ?_
    refine tg_iload_n 1 C0 dX8_doesCommand_124 rfl rfl ?_
    refine tg_iald 11 C0 dX8_doesCommand_125 (by decide) rfl (fun _ => ?_)
    refine tg_callVi (As := [.int (v 11 x1.toNatClampNeg)]) 0 1 C0 dX8_doesCommand_126 (c_X8_checks l (v 11 x1.toNatClampNeg) v) rfl rfl (by decide) rfl rfl (tm_gV tl_X8_210 ti_X8_checks ts_X8_checks tn_X8 tc_X8_checks)  rfl rfl rfl rfl (by decide +kernel) ⟨by decide, by decide⟩ (Nat.le_of_ble_eq_true rfl) ⟨by decide, by decide⟩ (fun r18 v17 _ => ?_)
    exact tg_iret C0 dX8_doesCommand_129
  refine tg_tab 6 (cst := 6) 130 h19 C0 dX8_doesCommand_6 (by decide) rfl (by decide) (by decide) (fun _ => ?_) (fun h22 => ?_)
  · refine tg_aload_n 0 C0 dX8_doesCommand_130 rfl rfl ?_
    refine tg_aload_n 0 C0 dX8_doesCommand_131 rfl rfl ?_
    refine tg_get 0 26 C0 dX8_doesCommand_132 (by decide) rfl rfl tu_X8 (by decide) tf_X8_46 rfl rfl rfl ?_
    refine tg_iload_n 1 C0 dX8_doesCommand_135 rfl rfl ?_
    refine tg_iald 11 C0 dX8_doesCommand_136 (by decide) rfl (fun _ => ?_)
    refine tg_callVi (As := [.int (v 11 x1.toNatClampNeg)]) 0 1 C0 dX8_doesCommand_137 (c_X8_switches l (v 11 x1.toNatClampNeg) v) rfl rfl (by decide) rfl rfl (tm_gV tl_X8_216 ti_X8_switches ts_X8_switches tn_X8 tc_X8_switches)  rfl rfl rfl rfl (by decide +kernel) ⟨by decide, by decide⟩ (Nat.le_of_ble_eq_true rfl) ⟨by decide, by decide⟩ (fun r21 v20 _ => ?_)
    exact tg_iret C0 dX8_doesCommand_140
  refine tg_tab 7 (cst := 7) 141 h22 C0 dX8_doesCommand_6 (by decide) rfl (by decide) (by decide) (fun _ => ?_) (fun h25 => ?_)
  · refine tg_aload_n 0 C0 dX8_doesCommand_141 rfl rfl ?_
    refine tg_aload_n 0 C0 dX8_doesCommand_142 rfl rfl ?_
    refine tg_get 0 26 C0 dX8_doesCommand_143 (by decide) rfl rfl tu_X8 (by decide) tf_X8_46 rfl rfl rfl ?_
    refine tg_iload_n 1 C0 dX8_doesCommand_146 rfl rfl ?_
    refine tg_iald 11 C0 dX8_doesCommand_147 (by decide) rfl (fun _ => ?_)
    refine tg_callVi (As := [.int (v 11 x1.toNatClampNeg)]) 0 1 C0 dX8_doesCommand_148 (c_X8_switchesBack l (v 11 x1.toNatClampNeg) v) rfl rfl (by decide) rfl rfl (tm_gV tl_X8_222 ti_X8_switchesBack ts_X8_switchesBack tn_X8 tc_X8_switchesBack)  rfl rfl rfl rfl (by decide +kernel) ⟨by decide, by decide⟩ (Nat.le_of_ble_eq_true rfl) ⟨by decide, by decide⟩ (fun r24 v23 _ => ?_)
    exact tg_iret C0 dX8_doesCommand_151
  refine tg_tab 8 (cst := 8) 152 h25 C0 dX8_doesCommand_6 (by decide) rfl (by decide) (by decide) (fun _ => ?_) (fun h28 => ?_)
  · refine tg_aload_n 0 C0 dX8_doesCommand_152 rfl rfl ?_
    refine tg_callVi (As := []) 0 0 C0 dX8_doesCommand_153 (c_X8_lead l v) rfl rfl (by decide) rfl rfl (tm_gV tl_X8_259 ti_X8_lead ts_X8_lead tn_X8 tc_X8_lead)  rfl rfl rfl rfl (by decide +kernel) ⟨by decide, by decide⟩ (Nat.le_of_ble_eq_true rfl) ⟨by decide, by decide⟩ (fun r27 v26 _ => ?_)
    exact tg_iret C0 dX8_doesCommand_156
  refine tg_tab 9 (cst := 9) 157 h28 C0 dX8_doesCommand_6 (by decide) rfl (by decide) (by decide) (fun _ => ?_) (fun h31 => ?_)
  · refine tg_aload_n 0 C0 dX8_doesCommand_157 rfl rfl ?_
    refine tg_aload_n 0 C0 dX8_doesCommand_158 rfl rfl ?_
    refine tg_get 0 26 C0 dX8_doesCommand_159 (by decide) rfl rfl tu_X8 (by decide) tf_X8_46 rfl rfl rfl ?_
    refine tg_iload_n 1 C0 dX8_doesCommand_162 rfl rfl ?_
    refine tg_iald 11 C0 dX8_doesCommand_163 (by decide) rfl (fun _ => ?_)
    refine tg_if_ne 171 C0 dX8_doesCommand_164 (by decide) (fun _ => ?_) (fun _ => ?_)
    · refine tg_iconst (x := 0) C0 dX8_doesCommand_171 (by decide) ?_
      refine tg_sub [] rfl ?_
      exact w_X8_doesCommand_172 C0 0 v
    · refine tg_iconst (x := 1) C0 dX8_doesCommand_167 (by decide) ?_
      refine tg_goto 172 C0 dX8_doesCommand_168 (by decide) ?_
      refine tg_sub [] rfl ?_
      exact w_X8_doesCommand_172 C0 1 v
  refine tg_tab 10 (cst := 10) 176 h31 C0 dX8_doesCommand_6 (by decide) rfl (by decide) (by decide) (fun _ => ?_) (fun h34 => ?_)
  · refine tg_aload_n 0 C0 dX8_doesCommand_176 rfl rfl ?_
    refine tg_callVi (As := []) 0 0 C0 dX8_doesCommand_177 (c_X8_stop l v) rfl rfl (by decide) rfl rfl (tm_gV tl_X8_358 ti_X8_stop ts_X8_stop tn_X8 tc_X8_stop)  rfl rfl rfl rfl (by decide +kernel) ⟨by decide, by decide⟩ (Nat.le_of_ble_eq_true rfl) ⟨by decide, by decide⟩ (fun r33 v32 _ => ?_)
    exact tg_iret C0 dX8_doesCommand_180
  refine tg_tabO 11 181 h34 C0 dX8_doesCommand_6 (by decide) (by decide) ?_
  refine tg_aload_n 0 C0 dX8_doesCommand_181 rfl rfl ?_
  refine tg_callVi (As := []) 0 0 C0 dX8_doesCommand_182 (c_X8_finish l v) rfl rfl (by decide) rfl rfl (tm_gV tl_X8_262 ti_X8_finish ts_X8_finish tn_X8 tc_X8_finish)  rfl rfl rfl rfl (by decide +kernel) ⟨by decide, by decide⟩ (Nat.le_of_ble_eq_true rfl) ⟨by decide, by decide⟩ (fun r36 v35 _ => ?_)
  exact tg_iret C0 dX8_doesCommand_185
theorem c_X8_doesCommand (l : Launch) (x1 : Int32) (v : tmM) : tmMi tm_NWR tm_shR 13 l yX8_doesCommand (Cond.code yX8_doesCommand cX8_doesCommand 2 (some .int) :: TMW) ({ frames := 7, cells := 0, slots := 0, locals := 157 } : Room) (fun ad => [.ref (ad 0), .int x1]) v (f_X8_doesCommand x1 v) :=
  tmMi.of (cc := cX8_doesCommand) (nL := 2) (by decide +kernel) rfl tm_NWR_ok (fun _ => Nat.le_of_ble_eq_true rfl) (fun p e s m args below meth c A D cy ad z C0 => w_X8_doesCommand C0 x1 v)
-- ----- X8_runScript
theorem dX8_runScript_0 : decode cX8_runScript 0 = .ok (.aload_n 0, 1) := by decide +kernel
theorem dX8_runScript_1 : decode cX8_runScript 1 = .ok (.iconst 0, 1) := by decide +kernel
theorem dX8_runScript_2 : decode cX8_runScript 2 = .ok (.putfield 312, 3) := by decide +kernel
theorem dX8_runScript_5 : decode cX8_runScript 5 = .ok (.aload_n 0, 1) := by decide +kernel
theorem dX8_runScript_6 : decode cX8_runScript 6 = .ok (.iconst 0, 1) := by decide +kernel
theorem dX8_runScript_7 : decode cX8_runScript 7 = .ok (.putfield 333, 3) := by decide +kernel
theorem dX8_runScript_10 : decode cX8_runScript 10 = .ok (.aload_n 0, 1) := by decide +kernel
theorem dX8_runScript_11 : decode cX8_runScript 11 = .ok (.iconst (-1), 1) := by decide +kernel
theorem dX8_runScript_12 : decode cX8_runScript 12 = .ok (.putfield 36, 3) := by decide +kernel
theorem dX8_runScript_15 : decode cX8_runScript 15 = .ok (.aload_n 0, 1) := by decide +kernel
theorem dX8_runScript_16 : decode cX8_runScript 16 = .ok (.iconst 0, 1) := by decide +kernel
theorem dX8_runScript_17 : decode cX8_runScript 17 = .ok (.putfield 342, 3) := by decide +kernel
theorem dX8_runScript_20 : decode cX8_runScript 20 = .ok (.aload_n 0, 1) := by decide +kernel
theorem dX8_runScript_21 : decode cX8_runScript 21 = .ok (.invokevirtual 339, 3) := by decide +kernel
theorem dX8_runScript_24 : decode cX8_runScript 24 = .ok (.aload_n 0, 1) := by decide +kernel
theorem dX8_runScript_25 : decode cX8_runScript 25 = .ok (.getfield 333, 3) := by decide +kernel
theorem dX8_runScript_28 : decode cX8_runScript 28 = .ok (.ifCond .ne 17, 3) := by decide +kernel
theorem dX8_runScript_31 : decode cX8_runScript 31 = .ok (.aload_n 0, 1) := by decide +kernel
theorem dX8_runScript_32 : decode cX8_runScript 32 = .ok (.getfield 327, 3) := by decide +kernel
theorem dX8_runScript_35 : decode cX8_runScript 35 = .ok (.ifCond .eq 10, 3) := by decide +kernel
theorem dX8_runScript_38 : decode cX8_runScript 38 = .ok (.aload_n 0, 1) := by decide +kernel
theorem dX8_runScript_39 : decode cX8_runScript 39 = .ok (.invokevirtual 361, 3) := by decide +kernel
theorem dX8_runScript_42 : decode cX8_runScript 42 = .ok (.goto (-18), 3) := by decide +kernel
theorem dX8_runScript_45 : decode cX8_runScript 45 = .ok (.aload_n 0, 1) := by decide +kernel
theorem dX8_runScript_46 : decode cX8_runScript 46 = .ok (.iconst 0, 1) := by decide +kernel
theorem dX8_runScript_47 : decode cX8_runScript 47 = .ok (.putfield 309, 3) := by decide +kernel
theorem dX8_runScript_50 : decode cX8_runScript 50 = .ok (.aload_n 0, 1) := by decide +kernel
theorem dX8_runScript_51 : decode cX8_runScript 51 = .ok (.iconst 0, 1) := by decide +kernel
theorem dX8_runScript_52 : decode cX8_runScript 52 = .ok (.putfield 56, 3) := by decide +kernel
theorem dX8_runScript_55 : decode cX8_runScript 55 = .ok (.aload_n 0, 1) := by decide +kernel
theorem dX8_runScript_56 : decode cX8_runScript 56 = .ok (.getfield 333, 3) := by decide +kernel
theorem dX8_runScript_59 : decode cX8_runScript 59 = .ok (.ifCond .le 5, 3) := by decide +kernel
theorem dX8_runScript_62 : decode cX8_runScript 62 = .ok (.iconst (-1), 1) := by decide +kernel
theorem dX8_runScript_63 : decode cX8_runScript 63 = .ok (.ireturn, 1) := by decide +kernel
theorem dX8_runScript_64 : decode cX8_runScript 64 = .ok (.iconst 0, 1) := by decide +kernel
theorem dX8_runScript_65 : decode cX8_runScript 65 = .ok (.istore_n 1, 1) := by decide +kernel
theorem dX8_runScript_66 : decode cX8_runScript 66 = .ok (.iload_n 1, 1) := by decide +kernel
theorem dX8_runScript_67 : decode cX8_runScript 67 = .ok (.aload_n 0, 1) := by decide +kernel
theorem dX8_runScript_68 : decode cX8_runScript 68 = .ok (.getfield 342, 3) := by decide +kernel
theorem dX8_runScript_71 : decode cX8_runScript 71 = .ok (.if_icmp .ge 17, 3) := by decide +kernel
theorem dX8_runScript_74 : decode cX8_runScript 74 = .ok (.aload_n 0, 1) := by decide +kernel
theorem dX8_runScript_75 : decode cX8_runScript 75 = .ok (.iload_n 1, 1) := by decide +kernel
theorem dX8_runScript_76 : decode cX8_runScript 76 = .ok (.invokevirtual 364, 3) := by decide +kernel
theorem dX8_runScript_79 : decode cX8_runScript 79 = .ok (.ifCond .ne 9, 3) := by decide +kernel
theorem dX8_runScript_82 : decode cX8_runScript 82 = .ok (.iinc 1 1, 3) := by decide +kernel
theorem dX8_runScript_85 : decode cX8_runScript 85 = .ok (.goto (-19), 3) := by decide +kernel
theorem dX8_runScript_88 : decode cX8_runScript 88 = .ok (.iload_n 1, 1) := by decide +kernel
theorem dX8_runScript_89 : decode cX8_runScript 89 = .ok (.ireturn, 1) := by decide +kernel
theorem tl_X8_361 : Cond.methodLink RX8 361 yX8_readCommand ∈ TMW := tm_in 2105 (by decide +kernel) (by decide +kernel)
theorem ti_X8_readCommand : Cond.instanceMethod yX8_readCommand ∈ TMW := tm_in 2107 (by decide +kernel) (by decide +kernel)
theorem ts_X8_readCommand : Cond.selects RX8 yX8_readCommand yX8_readCommand ∈ TMW := tm_in 102 (by decide +kernel) (by decide +kernel)
theorem tc_X8_readCommand : Cond.code yX8_readCommand cX8_readCommand 2 none ∈ TMW := tm_in 2108 (by decide +kernel) (by decide +kernel)
theorem tl_X8_364 : Cond.methodLink RX8 364 yX8_doesCommand ∈ TMW := tm_in 2129 (by decide +kernel) (by decide +kernel)
theorem ti_X8_doesCommand : Cond.instanceMethod yX8_doesCommand ∈ TMW := tm_in 2131 (by decide +kernel) (by decide +kernel)
theorem ts_X8_doesCommand : Cond.selects RX8 yX8_doesCommand yX8_doesCommand ∈ TMW := tm_in 108 (by decide +kernel) (by decide +kernel)
theorem tc_X8_doesCommand : Cond.code yX8_doesCommand cX8_doesCommand 2 (some .int) ∈ TMW := tm_in 2132 (by decide +kernel) (by decide +kernel)
def f_X8_runScript_24b (K0 : tmM → Option (Int32 × tmM)) (L : tmM → Option (Int32 × tmM)) (v : tmM) : Option (Int32 × tmM) := (if (v 0 21) = 0 then (if (v 0 19) = 0 then K0 v else tm_cl (f_X8_readCommand v) fun _ v7 => L v7) else K0 v)
set_option maxRecDepth 100000 in
set_option maxHeartbeats 4000000 in
theorem w_X8_runScript_24b {p : Program} {l : Launch} {e : Env} {s : State} {m : MethodId} {args : Array Value} {below : List Frame} {meth : Method} {c : Code} {D : va_G} {cy : Nat → ClassId} {ad : Nat → Nat} {A : Nat → Prop} {z : (Int32 × tmM)} {K0 : tmM → Option (Int32 × tmM)} {L : tmM → Option (Int32 × tmM)} (C0 : tmC p s m args meth c cX8_runScript 2 (some .int) RX8 TMW tm_NWR D cy tm_shR ad 13 [] A) (hK0 : ∀ (w : tmM), tmG p l e ({ frames := 8, cells := 0, slots := 0, locals := 178 } : Room) s m args below meth c 0 0 (MQ below (va_Qi (fun r u => z = (r, u)) (tmAt tm_shR 13 D cy ad A) A) args s 0 0 A) 2 D cy tm_shR ad 13 [] A z 45 [(0, .ref (ad 0))] [] w (K0 w)) (hL : ∀ (w : tmM), tmG p l e ({ frames := 8, cells := 0, slots := 0, locals := 178 } : Room) s m args below meth c 0 0 (MQ below (va_Qi (fun r u => z = (r, u)) (tmAt tm_shR 13 D cy ad A) A) args s 0 0 A) 2 D cy tm_shR ad 13 [] A z 24 [(0, .ref (ad 0))] [] w (L w)) (v : tmM) : tmG p l e ({ frames := 8, cells := 0, slots := 0, locals := 178 } : Room) s m args below meth c 0 0 (MQ below (va_Qi (fun r u => z = (r, u)) (tmAt tm_shR 13 D cy ad A) A) args s 0 0 A) 2 D cy tm_shR ad 13 [] A z 24 [(0, .ref (ad 0))] [] v (f_X8_runScript_24b K0 L v) := by
  unfold f_X8_runScript_24b
  refine tg_aload_n 0 C0 dX8_runScript_24 rfl rfl ?_
  refine tg_get 0 21 C0 dX8_runScript_25 (by decide) rfl rfl tu_X8 (by decide) tf_X8_333 rfl rfl rfl ?_
  refine tg_if_ne 45 C0 dX8_runScript_28 (by decide) (fun _ => ?_) (fun _ => ?_)
  · exact hK0 v
  · refine tg_aload_n 0 C0 dX8_runScript_31 rfl rfl ?_
    refine tg_get 0 19 C0 dX8_runScript_32 (by decide) rfl rfl tu_X8 (by decide) tf_X8_327 rfl rfl rfl ?_
    refine tg_if_eq 45 C0 dX8_runScript_35 (by decide) (fun _ => ?_) (fun _ => ?_)
    · exact hK0 v
    · refine tg_aload_n 0 C0 dX8_runScript_38 rfl rfl ?_
      refine tg_callVv (As := []) 0 0 C0 dX8_runScript_39 (c_X8_readCommand l v) rfl rfl (by decide) rfl rfl (tm_gV tl_X8_361 ti_X8_readCommand ts_X8_readCommand tn_X8 tc_X8_readCommand)  rfl rfl rfl rfl (by decide +kernel) ⟨by decide, by decide⟩ (Nat.le_of_ble_eq_true rfl) ⟨by decide, by decide⟩ (fun v7 _ => ?_)
      refine tg_goto 24 C0 dX8_runScript_42 (by decide) ?_
      exact hL v7
def f_X8_runScript_24 (K0 : tmM → Option (Int32 × tmM)) : Nat → tmM → Option (Int32 × tmM)
  | 0 => fun _ => none
  | n + 1 => f_X8_runScript_24b K0 (f_X8_runScript_24 K0 n)
theorem w_X8_runScript_24 {p : Program} {l : Launch} {e : Env} {s : State} {m : MethodId} {args : Array Value} {below : List Frame} {meth : Method} {c : Code} {D : va_G} {cy : Nat → ClassId} {ad : Nat → Nat} {A : Nat → Prop} {z : (Int32 × tmM)} {K0 : tmM → Option (Int32 × tmM)} (C0 : tmC p s m args meth c cX8_runScript 2 (some .int) RX8 TMW tm_NWR D cy tm_shR ad 13 [] A) (hK0 : ∀ (w : tmM), tmG p l e ({ frames := 8, cells := 0, slots := 0, locals := 178 } : Room) s m args below meth c 0 0 (MQ below (va_Qi (fun r u => z = (r, u)) (tmAt tm_shR 13 D cy ad A) A) args s 0 0 A) 2 D cy tm_shR ad 13 [] A z 45 [(0, .ref (ad 0))] [] w (K0 w)) (nn : Nat) : ∀ (v : tmM), tmG p l e ({ frames := 8, cells := 0, slots := 0, locals := 178 } : Room) s m args below meth c 0 0 (MQ below (va_Qi (fun r u => z = (r, u)) (tmAt tm_shR 13 D cy ad A) A) args s 0 0 A) 2 D cy tm_shR ad 13 [] A z 24 [(0, .ref (ad 0))] [] v (f_X8_runScript_24 K0 nn v) := by
  induction nn with
  | zero => intro _; exact tg_none
  | succ n ih => intro v; exact w_X8_runScript_24b C0 hK0 ih v
def f_X8_runScript_66b (K0 : Int32 → tmM → Option (Int32 × tmM)) (L : Int32 → tmM → Option (Int32 × tmM)) (x1 : Int32) (v : tmM) : Option (Int32 × tmM) := (if (v 0 24) ≤ x1 then K0 x1 v else tm_cl (f_X8_doesCommand x1 v) fun r13 v12 => (if r13 = 0 then L (x1 + 1) v12 else K0 x1 v12))
set_option maxRecDepth 100000 in
set_option maxHeartbeats 4000000 in
theorem w_X8_runScript_66b {p : Program} {l : Launch} {e : Env} {s : State} {m : MethodId} {args : Array Value} {below : List Frame} {meth : Method} {c : Code} {D : va_G} {cy : Nat → ClassId} {ad : Nat → Nat} {A : Nat → Prop} {z : (Int32 × tmM)} {K0 : Int32 → tmM → Option (Int32 × tmM)} {L : Int32 → tmM → Option (Int32 × tmM)} (C0 : tmC p s m args meth c cX8_runScript 2 (some .int) RX8 TMW tm_NWR D cy tm_shR ad 13 [] A) (hK0 : ∀ (a1 : Int32) (w : tmM), tmG p l e ({ frames := 8, cells := 0, slots := 0, locals := 178 } : Room) s m args below meth c 0 0 (MQ below (va_Qi (fun r u => z = (r, u)) (tmAt tm_shR 13 D cy ad A) A) args s 0 0 A) 2 D cy tm_shR ad 13 [] A z 88 [(1, .int a1)] [] w (K0 a1 w)) (hL : ∀ (a1 : Int32) (w : tmM), tmG p l e ({ frames := 8, cells := 0, slots := 0, locals := 178 } : Room) s m args below meth c 0 0 (MQ below (va_Qi (fun r u => z = (r, u)) (tmAt tm_shR 13 D cy ad A) A) args s 0 0 A) 2 D cy tm_shR ad 13 [] A z 66 [(0, .ref (ad 0)), (1, .int a1)] [] w (L a1 w)) (x1 : Int32) (v : tmM) : tmG p l e ({ frames := 8, cells := 0, slots := 0, locals := 178 } : Room) s m args below meth c 0 0 (MQ below (va_Qi (fun r u => z = (r, u)) (tmAt tm_shR 13 D cy ad A) A) args s 0 0 A) 2 D cy tm_shR ad 13 [] A z 66 [(0, .ref (ad 0)), (1, .int x1)] [] v (f_X8_runScript_66b K0 L x1 v) := by
  unfold f_X8_runScript_66b
  refine tg_iload_n 1 C0 dX8_runScript_66 rfl rfl ?_
  refine tg_aload_n 0 C0 dX8_runScript_67 rfl rfl ?_
  refine tg_get 0 24 C0 dX8_runScript_68 (by decide) rfl rfl tu_X8 (by decide) tf_X8_342 rfl rfl rfl ?_
  refine tg_icmp_ge 88 C0 dX8_runScript_71 (by decide) (fun _ => ?_) (fun _ => ?_)
  · refine tg_sub [1] rfl ?_
    exact hK0 x1 v
  · refine tg_aload_n 0 C0 dX8_runScript_74 rfl rfl ?_
    refine tg_iload_n 1 C0 dX8_runScript_75 rfl rfl ?_
    refine tg_callVi (As := [.int x1]) 0 1 C0 dX8_runScript_76 (c_X8_doesCommand l x1 v) rfl rfl (by decide) rfl rfl (tm_gV tl_X8_364 ti_X8_doesCommand ts_X8_doesCommand tn_X8 tc_X8_doesCommand)  rfl rfl rfl rfl (by decide +kernel) ⟨by decide, by decide⟩ (Nat.le_of_ble_eq_true rfl) ⟨by decide, by decide⟩ (fun r13 v12 _ => ?_)
    refine tg_if_ne 88 C0 dX8_runScript_79 (by decide) (fun _ => ?_) (fun _ => ?_)
    · refine tg_sub [1] rfl ?_
      exact hK0 x1 v12
    · refine tg_iinc [(1, .int (x1 + 1)), (0, .ref (ad 0))] 1 C0 dX8_runScript_82 rfl rfl (by decide) rfl ?_
      refine tg_goto 66 C0 dX8_runScript_85 (by decide) ?_
      refine tg_sub [1, 0] rfl ?_
      exact hL (x1 + 1) v12
def f_X8_runScript_66 (K0 : Int32 → tmM → Option (Int32 × tmM)) : Nat → Int32 → tmM → Option (Int32 × tmM)
  | 0 => fun _ _ => none
  | n + 1 => f_X8_runScript_66b K0 (f_X8_runScript_66 K0 n)
theorem w_X8_runScript_66 {p : Program} {l : Launch} {e : Env} {s : State} {m : MethodId} {args : Array Value} {below : List Frame} {meth : Method} {c : Code} {D : va_G} {cy : Nat → ClassId} {ad : Nat → Nat} {A : Nat → Prop} {z : (Int32 × tmM)} {K0 : Int32 → tmM → Option (Int32 × tmM)} (C0 : tmC p s m args meth c cX8_runScript 2 (some .int) RX8 TMW tm_NWR D cy tm_shR ad 13 [] A) (hK0 : ∀ (a1 : Int32) (w : tmM), tmG p l e ({ frames := 8, cells := 0, slots := 0, locals := 178 } : Room) s m args below meth c 0 0 (MQ below (va_Qi (fun r u => z = (r, u)) (tmAt tm_shR 13 D cy ad A) A) args s 0 0 A) 2 D cy tm_shR ad 13 [] A z 88 [(1, .int a1)] [] w (K0 a1 w)) (nn : Nat) : ∀ (x1 : Int32) (v : tmM), tmG p l e ({ frames := 8, cells := 0, slots := 0, locals := 178 } : Room) s m args below meth c 0 0 (MQ below (va_Qi (fun r u => z = (r, u)) (tmAt tm_shR 13 D cy ad A) A) args s 0 0 A) 2 D cy tm_shR ad 13 [] A z 66 [(0, .ref (ad 0)), (1, .int x1)] [] v (f_X8_runScript_66 K0 nn x1 v) := by
  induction nn with
  | zero => intro _ _; exact tg_none
  | succ n ih => intro x1 v; exact w_X8_runScript_66b C0 hK0 ih x1 v
def f_X8_runScript_45 (v : tmM) : Option (Int32 × tmM) := tm_lt (tm_up v 0 16 0) fun v10 => tm_lt (tm_up v10 0 0 0) fun v11 => (if (v11 0 21) ≤ 0 then f_X8_runScript_66 (fun x14 v15 => some (x14, v15)) 10000 0 v11 else some ((-1), v11))
set_option maxRecDepth 100000 in
set_option maxHeartbeats 4000000 in
theorem w_X8_runScript_45 {p : Program} {l : Launch} {e : Env} {s : State} {m : MethodId} {args : Array Value} {below : List Frame} {meth : Method} {c : Code} {D : va_G} {cy : Nat → ClassId} {ad : Nat → Nat} {A : Nat → Prop} {z : (Int32 × tmM)} (C0 : tmC p s m args meth c cX8_runScript 2 (some .int) RX8 TMW tm_NWR D cy tm_shR ad 13 [] A) (v : tmM) : tmG p l e ({ frames := 8, cells := 0, slots := 0, locals := 178 } : Room) s m args below meth c 0 0 (MQ below (va_Qi (fun r u => z = (r, u)) (tmAt tm_shR 13 D cy ad A) A) args s 0 0 A) 2 D cy tm_shR ad 13 [] A z 45 [(0, .ref (ad 0))] [] v (f_X8_runScript_45 v) := by
  unfold f_X8_runScript_45
  refine tg_aload_n 0 C0 dX8_runScript_45 rfl rfl ?_
  refine tg_iconst (x := 0) C0 dX8_runScript_46 (by decide) ?_
  refine tg_put 0 16 C0 dX8_runScript_47 (by decide) rfl rfl tu_X8 tyX8_ok nmX8 (by decide) tf_X8_309 rfl rfl rfl rfl rfl rfl ?_
  refine tg_letm (fun v10 _ => ?_)
  refine tg_aload_n 0 C0 dX8_runScript_50 rfl rfl ?_
  refine tg_iconst (x := 0) C0 dX8_runScript_51 (by decide) ?_
  refine tg_put 0 0 C0 dX8_runScript_52 (by decide) rfl rfl tu_X8 tyX8_ok nmX8 (by decide) tf_X8_56 rfl rfl rfl rfl rfl rfl ?_
  refine tg_letm (fun v11 _ => ?_)
  refine tg_aload_n 0 C0 dX8_runScript_55 rfl rfl ?_
  refine tg_get 0 21 C0 dX8_runScript_56 (by decide) rfl rfl tu_X8 (by decide) tf_X8_333 rfl rfl rfl ?_
  refine tg_if_le 64 C0 dX8_runScript_59 (by decide) (fun _ => ?_) (fun _ => ?_)
  · refine tg_iconst (x := 0) C0 dX8_runScript_64 (by decide) ?_
    refine tg_istore_n [(1, .int 0), (0, .ref (ad 0))] C0 dX8_runScript_65 rfl (by decide) rfl ?_
    refine tg_sub [1, 0] rfl ?_
    refine w_X8_runScript_66 C0 (fun x14 v15 => ?_) 10000 0 v11
    refine tg_iload_n 0 C0 dX8_runScript_88 rfl rfl ?_
    exact tg_iret C0 dX8_runScript_89
  · refine tg_iconst (x := (-1)) C0 dX8_runScript_62 (by decide) ?_
    exact tg_iret C0 dX8_runScript_63
def f_X8_runScript (v : tmM) : Option (Int32 × tmM) := tm_lt (tm_up v 0 17 0) fun v1 => tm_lt (tm_up v1 0 21 0) fun v2 => tm_lt (tm_up v2 0 22 (-1)) fun v3 => tm_lt (tm_up v3 0 24 0) fun v4 => tm_cl (f_X8_goesOn v4) fun _ v5 => f_X8_runScript_24 (fun v9 => f_X8_runScript_45 v9) 10000 v5
set_option maxRecDepth 100000 in
set_option maxHeartbeats 4000000 in
theorem w_X8_runScript {p : Program} {l : Launch} {e : Env} {s : State} {m : MethodId} {args : Array Value} {below : List Frame} {meth : Method} {c : Code} {D : va_G} {cy : Nat → ClassId} {ad : Nat → Nat} {A : Nat → Prop} {z : (Int32 × tmM)} (C0 : tmC p s m args meth c cX8_runScript 2 (some .int) RX8 TMW tm_NWR D cy tm_shR ad 13 [] A) (v : tmM) : tmG p l e ({ frames := 8, cells := 0, slots := 0, locals := 178 } : Room) s m args below meth c 0 0 (MQ below (va_Qi (fun r u => z = (r, u)) (tmAt tm_shR 13 D cy ad A) A) args s 0 0 A) 2 D cy tm_shR ad 13 [] A z 0 [(0, .ref (ad 0))] [] v (f_X8_runScript v) := by
  unfold f_X8_runScript
  refine tg_aload_n 0 C0 dX8_runScript_0 rfl rfl ?_
  refine tg_iconst (x := 0) C0 dX8_runScript_1 (by decide) ?_
  refine tg_put 0 17 C0 dX8_runScript_2 (by decide) rfl rfl tu_X8 tyX8_ok nmX8 (by decide) tf_X8_312 rfl rfl rfl rfl rfl rfl ?_
  refine tg_letm (fun v1 _ => ?_)
  refine tg_aload_n 0 C0 dX8_runScript_5 rfl rfl ?_
  refine tg_iconst (x := 0) C0 dX8_runScript_6 (by decide) ?_
  refine tg_put 0 21 C0 dX8_runScript_7 (by decide) rfl rfl tu_X8 tyX8_ok nmX8 (by decide) tf_X8_333 rfl rfl rfl rfl rfl rfl ?_
  refine tg_letm (fun v2 _ => ?_)
  refine tg_aload_n 0 C0 dX8_runScript_10 rfl rfl ?_
  refine tg_iconst (x := (-1)) C0 dX8_runScript_11 (by decide) ?_
  refine tg_put 0 22 C0 dX8_runScript_12 (by decide) rfl rfl tu_X8 tyX8_ok nmX8 (by decide) tf_X8_36 rfl rfl rfl rfl rfl rfl ?_
  refine tg_letm (fun v3 _ => ?_)
  refine tg_aload_n 0 C0 dX8_runScript_15 rfl rfl ?_
  refine tg_iconst (x := 0) C0 dX8_runScript_16 (by decide) ?_
  refine tg_put 0 24 C0 dX8_runScript_17 (by decide) rfl rfl tu_X8 tyX8_ok nmX8 (by decide) tf_X8_342 rfl rfl rfl rfl rfl rfl ?_
  refine tg_letm (fun v4 _ => ?_)
  refine tg_aload_n 0 C0 dX8_runScript_20 rfl rfl ?_
  refine tg_callVv (As := []) 0 0 C0 dX8_runScript_21 (c_X8_goesOn l v4) rfl rfl (by decide) rfl rfl (tm_gV tl_X8_339 ti_X8_goesOn ts_X8_goesOn tn_X8 tc_X8_goesOn)  rfl rfl rfl rfl (by decide +kernel) ⟨by decide, by decide⟩ (Nat.le_of_ble_eq_true rfl) ⟨by decide, by decide⟩ (fun v5 _ => ?_)
  refine w_X8_runScript_24 C0 (fun v9 => ?_) 10000 v5
  exact w_X8_runScript_45 C0 v9
theorem c_X8_runScript (l : Launch) (v : tmM) : tmMi tm_NWR tm_shR 13 l yX8_runScript (Cond.code yX8_runScript cX8_runScript 2 (some .int) :: TMW) ({ frames := 8, cells := 0, slots := 0, locals := 178 } : Room) (fun ad => [.ref (ad 0)]) v (f_X8_runScript v) :=
  tmMi.of (cc := cX8_runScript) (nL := 2) (by decide +kernel) rfl tm_NWR_ok (fun _ => Nat.le_of_ble_eq_true rfl) (fun p e s m args below meth c A D cy ad z C0 => w_X8_runScript C0 v)
-- ----- X8_errorCode
theorem dX8_errorCode_0 : decode cX8_errorCode 0 = .ok (.aload_n 0, 1) := by decide +kernel
theorem dX8_errorCode_1 : decode cX8_errorCode 1 = .ok (.iconst 0, 1) := by decide +kernel
theorem dX8_errorCode_2 : decode cX8_errorCode 2 = .ok (.putfield 56, 3) := by decide +kernel
theorem dX8_errorCode_5 : decode cX8_errorCode 5 = .ok (.aload_n 0, 1) := by decide +kernel
theorem dX8_errorCode_6 : decode cX8_errorCode 6 = .ok (.getfield 333, 3) := by decide +kernel
theorem dX8_errorCode_9 : decode cX8_errorCode 9 = .ok (.ireturn, 1) := by decide +kernel
def f_X8_errorCode (v : tmM) : Option (Int32 × tmM) := tm_lt (tm_up v 0 0 0) fun v1 => some (v1 0 21, v1)
set_option maxRecDepth 100000 in
set_option maxHeartbeats 4000000 in
theorem w_X8_errorCode {p : Program} {l : Launch} {e : Env} {s : State} {m : MethodId} {args : Array Value} {below : List Frame} {meth : Method} {c : Code} {D : va_G} {cy : Nat → ClassId} {ad : Nat → Nat} {A : Nat → Prop} {z : (Int32 × tmM)} (C0 : tmC p s m args meth c cX8_errorCode 1 (some .int) RX8 TMW tm_NWR D cy tm_shR ad 13 [] A) (v : tmM) : tmG p l e ({ frames := 0, cells := 0, slots := 0, locals := 0 } : Room) s m args below meth c 0 0 (MQ below (va_Qi (fun r u => z = (r, u)) (tmAt tm_shR 13 D cy ad A) A) args s 0 0 A) 1 D cy tm_shR ad 13 [] A z 0 [(0, .ref (ad 0))] [] v (f_X8_errorCode v) := by
  unfold f_X8_errorCode
  refine tg_aload_n 0 C0 dX8_errorCode_0 rfl rfl ?_
  refine tg_iconst (x := 0) C0 dX8_errorCode_1 (by decide) ?_
  refine tg_put 0 0 C0 dX8_errorCode_2 (by decide) rfl rfl tu_X8 tyX8_ok nmX8 (by decide) tf_X8_56 rfl rfl rfl rfl rfl rfl ?_
  refine tg_letm (fun v1 _ => ?_)
  refine tg_aload_n 0 C0 dX8_errorCode_5 rfl rfl ?_
  refine tg_get 0 21 C0 dX8_errorCode_6 (by decide) rfl rfl tu_X8 (by decide) tf_X8_333 rfl rfl rfl ?_
  exact tg_iret C0 dX8_errorCode_9
theorem c_X8_errorCode (l : Launch) (v : tmM) : tmMi tm_NWR tm_shR 13 l yX8_errorCode (Cond.code yX8_errorCode cX8_errorCode 1 (some .int) :: TMW) ({ frames := 0, cells := 0, slots := 0, locals := 0 } : Room) (fun ad => [.ref (ad 0)]) v (f_X8_errorCode v) :=
  tmMi.of (cc := cX8_errorCode) (nL := 1) (by decide +kernel) rfl tm_NWR_ok (fun _ => Nat.le_of_ble_eq_true rfl) (fun p e s m args below meth c A D cy ad z C0 => w_X8_errorCode C0 v)
-- ----- X8_errorPosition
theorem dX8_errorPosition_0 : decode cX8_errorPosition 0 = .ok (.aload_n 0, 1) := by decide +kernel
theorem dX8_errorPosition_1 : decode cX8_errorPosition 1 = .ok (.iconst 0, 1) := by decide +kernel
theorem dX8_errorPosition_2 : decode cX8_errorPosition 2 = .ok (.putfield 56, 3) := by decide +kernel
theorem dX8_errorPosition_5 : decode cX8_errorPosition 5 = .ok (.aload_n 0, 1) := by decide +kernel
theorem dX8_errorPosition_6 : decode cX8_errorPosition 6 = .ok (.getfield 36, 3) := by decide +kernel
theorem dX8_errorPosition_9 : decode cX8_errorPosition 9 = .ok (.ireturn, 1) := by decide +kernel
def f_X8_errorPosition (v : tmM) : Option (Int32 × tmM) := tm_lt (tm_up v 0 0 0) fun v1 => some (v1 0 22, v1)
set_option maxRecDepth 100000 in
set_option maxHeartbeats 4000000 in
theorem w_X8_errorPosition {p : Program} {l : Launch} {e : Env} {s : State} {m : MethodId} {args : Array Value} {below : List Frame} {meth : Method} {c : Code} {D : va_G} {cy : Nat → ClassId} {ad : Nat → Nat} {A : Nat → Prop} {z : (Int32 × tmM)} (C0 : tmC p s m args meth c cX8_errorPosition 1 (some .int) RX8 TMW tm_NWR D cy tm_shR ad 13 [] A) (v : tmM) : tmG p l e ({ frames := 0, cells := 0, slots := 0, locals := 0 } : Room) s m args below meth c 0 0 (MQ below (va_Qi (fun r u => z = (r, u)) (tmAt tm_shR 13 D cy ad A) A) args s 0 0 A) 1 D cy tm_shR ad 13 [] A z 0 [(0, .ref (ad 0))] [] v (f_X8_errorPosition v) := by
  unfold f_X8_errorPosition
  refine tg_aload_n 0 C0 dX8_errorPosition_0 rfl rfl ?_
  refine tg_iconst (x := 0) C0 dX8_errorPosition_1 (by decide) ?_
  refine tg_put 0 0 C0 dX8_errorPosition_2 (by decide) rfl rfl tu_X8 tyX8_ok nmX8 (by decide) tf_X8_56 rfl rfl rfl rfl rfl rfl ?_
  refine tg_letm (fun v1 _ => ?_)
  refine tg_aload_n 0 C0 dX8_errorPosition_5 rfl rfl ?_
  refine tg_get 0 22 C0 dX8_errorPosition_6 (by decide) rfl rfl tu_X8 (by decide) tf_X8_36 rfl rfl rfl ?_
  exact tg_iret C0 dX8_errorPosition_9
theorem c_X8_errorPosition (l : Launch) (v : tmM) : tmMi tm_NWR tm_shR 13 l yX8_errorPosition (Cond.code yX8_errorPosition cX8_errorPosition 1 (some .int) :: TMW) ({ frames := 0, cells := 0, slots := 0, locals := 0 } : Room) (fun ad => [.ref (ad 0)]) v (f_X8_errorPosition v) :=
  tmMi.of (cc := cX8_errorPosition) (nL := 1) (by decide +kernel) rfl tm_NWR_ok (fun _ => Nat.le_of_ble_eq_true rfl) (fun p e s m args below meth c A D cy ad z C0 => w_X8_errorPosition C0 v)
-- ----- X8_undo
theorem dX8_undo_0 : decode cX8_undo 0 = .ok (.aload_n 0, 1) := by decide +kernel
theorem dX8_undo_1 : decode cX8_undo 1 = .ok (.iconst 0, 1) := by decide +kernel
theorem dX8_undo_2 : decode cX8_undo 2 = .ok (.putfield 56, 3) := by decide +kernel
theorem dX8_undo_5 : decode cX8_undo 5 = .ok (.aload_n 0, 1) := by decide +kernel
theorem dX8_undo_6 : decode cX8_undo 6 = .ok (.getfield 100, 3) := by decide +kernel
theorem dX8_undo_9 : decode cX8_undo 9 = .ok (.ifCond .ne 5, 3) := by decide +kernel
theorem dX8_undo_12 : decode cX8_undo 12 = .ok (.iconst (-1), 1) := by decide +kernel
theorem dX8_undo_13 : decode cX8_undo 13 = .ok (.ireturn, 1) := by decide +kernel
theorem dX8_undo_14 : decode cX8_undo 14 = .ok (.aload_n 0, 1) := by decide +kernel
theorem dX8_undo_15 : decode cX8_undo 15 = .ok (.dup, 1) := by decide +kernel
theorem dX8_undo_16 : decode cX8_undo 16 = .ok (.getfield 100, 3) := by decide +kernel
theorem dX8_undo_19 : decode cX8_undo 19 = .ok (.iconst 1, 1) := by decide +kernel
theorem dX8_undo_20 : decode cX8_undo 20 = .ok (.isub, 1) := by decide +kernel
theorem dX8_undo_21 : decode cX8_undo 21 = .ok (.putfield 100, 3) := by decide +kernel
theorem dX8_undo_24 : decode cX8_undo 24 = .ok (.aload_n 0, 1) := by decide +kernel
theorem dX8_undo_25 : decode cX8_undo 25 = .ok (.getfield 13, 3) := by decide +kernel
theorem dX8_undo_28 : decode cX8_undo 28 = .ok (.sipush 491, 3) := by decide +kernel
theorem dX8_undo_31 : decode cX8_undo 31 = .ok (.aload_n 0, 1) := by decide +kernel
theorem dX8_undo_32 : decode cX8_undo 32 = .ok (.getfield 100, 3) := by decide +kernel
theorem dX8_undo_35 : decode cX8_undo 35 = .ok (.imul, 1) := by decide +kernel
theorem dX8_undo_36 : decode cX8_undo 36 = .ok (.aload_n 0, 1) := by decide +kernel
theorem dX8_undo_37 : decode cX8_undo 37 = .ok (.getfield 7, 3) := by decide +kernel
theorem dX8_undo_40 : decode cX8_undo 40 = .ok (.iconst 0, 1) := by decide +kernel
theorem dX8_undo_41 : decode cX8_undo 41 = .ok (.sipush 491, 3) := by decide +kernel
theorem dX8_undo_44 : decode cX8_undo 44 = .ok (.invokestatic 103, 3) := by decide +kernel
theorem dX8_undo_47 : decode cX8_undo 47 = .ok (.aload_n 0, 1) := by decide +kernel
theorem dX8_undo_48 : decode cX8_undo 48 = .ok (.getfield 100, 3) := by decide +kernel
theorem dX8_undo_51 : decode cX8_undo 51 = .ok (.ireturn, 1) := by decide +kernel
def f_X8_undo (v : tmM) : Option (Int32 × tmM) := tm_lt (tm_up v 0 0 0) fun v1 => (if (v1 0 3) = 0 then some ((-1), v1) else tm_lt (tm_up v1 0 3 ((v1 0 3) - 1)) fun v2 => tm_cl (f_X8_copies 2 4910 1 491 (491 * (v2 0 3)) 0 491 v2) fun _ v3 => some (v3 0 3, v3))
set_option maxRecDepth 100000 in
set_option maxHeartbeats 4000000 in
theorem w_X8_undo {p : Program} {l : Launch} {e : Env} {s : State} {m : MethodId} {args : Array Value} {below : List Frame} {meth : Method} {c : Code} {D : va_G} {cy : Nat → ClassId} {ad : Nat → Nat} {A : Nat → Prop} {z : (Int32 × tmM)} (C0 : tmC p s m args meth c cX8_undo 1 (some .int) RX8 TMW tm_NWR D cy tm_shR ad 13 [] A) (v : tmM) : tmG p l e ({ frames := 1, cells := 0, slots := 0, locals := 25 } : Room) s m args below meth c 0 0 (MQ below (va_Qi (fun r u => z = (r, u)) (tmAt tm_shR 13 D cy ad A) A) args s 0 0 A) 1 D cy tm_shR ad 13 [] A z 0 [(0, .ref (ad 0))] [] v (f_X8_undo v) := by
  unfold f_X8_undo
  refine tg_aload_n 0 C0 dX8_undo_0 rfl rfl ?_
  refine tg_iconst (x := 0) C0 dX8_undo_1 (by decide) ?_
  refine tg_put 0 0 C0 dX8_undo_2 (by decide) rfl rfl tu_X8 tyX8_ok nmX8 (by decide) tf_X8_56 rfl rfl rfl rfl rfl rfl ?_
  refine tg_letm (fun v1 _ => ?_)
  refine tg_aload_n 0 C0 dX8_undo_5 rfl rfl ?_
  refine tg_get 0 3 C0 dX8_undo_6 (by decide) rfl rfl tu_X8 (by decide) tf_X8_100 rfl rfl rfl ?_
  refine tg_if_ne 14 C0 dX8_undo_9 (by decide) (fun _ => ?_) (fun _ => ?_)
  · refine tg_aload_n 0 C0 dX8_undo_14 rfl rfl ?_
    refine tg_dup C0 dX8_undo_15 rfl ?_
    refine tg_get 0 3 C0 dX8_undo_16 (by decide) rfl rfl tu_X8 (by decide) tf_X8_100 rfl rfl rfl ?_
    refine tg_iconst (x := 1) C0 dX8_undo_19 (by decide) ?_
    refine tg_isub C0 dX8_undo_20 ?_
    refine tg_put 0 3 C0 dX8_undo_21 (by decide) rfl rfl tu_X8 tyX8_ok nmX8 (by decide) tf_X8_100 rfl rfl rfl rfl rfl rfl ?_
    refine tg_letm (fun v2 _ => ?_)
    refine tg_aload_n 0 C0 dX8_undo_24 rfl rfl ?_
    refine tg_get 0 2 C0 dX8_undo_25 (by decide) rfl rfl tu_X8 (by decide) tf_X8_13 rfl rfl rfl ?_
    refine tg_sipush (x := 491) C0 dX8_undo_28 (by decide) ?_
    refine tg_aload_n 0 C0 dX8_undo_31 rfl rfl ?_
    refine tg_get 0 3 C0 dX8_undo_32 (by decide) rfl rfl tu_X8 (by decide) tf_X8_100 rfl rfl rfl ?_
    refine tg_imul C0 dX8_undo_35 ?_
    refine tg_aload_n 0 C0 dX8_undo_36 rfl rfl ?_
    refine tg_get 0 1 C0 dX8_undo_37 (by decide) rfl rfl tu_X8 (by decide) tf_X8_7 rfl rfl rfl ?_
    refine tg_iconst (x := 0) C0 dX8_undo_40 (by decide) ?_
    refine tg_sipush (x := 491) C0 dX8_undo_41 (by decide) ?_
    refine tg_callSv (As := [.ref (ad 2), .int (491 * (v2 0 3)), .ref (ad 1), .int 0, .int 491]) 5 C0 dX8_undo_44 (c_X8_copies l 2 4910 1 491 ⟨rfl, (by decide)⟩ ⟨rfl, (by decide)⟩ (491 * (v2 0 3)) 0 491 v2) rfl rfl (tm_gc tc_X8_copies) tl_X8_103 tn_X8 tst_X8_copies  rfl rfl rfl rfl (by decide +kernel) ⟨by decide, by decide⟩ (Nat.le_of_ble_eq_true rfl) ⟨by decide, by decide⟩ (fun v3 _ => ?_)
    refine tg_aload_n 0 C0 dX8_undo_47 rfl rfl ?_
    refine tg_get 0 3 C0 dX8_undo_48 (by decide) rfl rfl tu_X8 (by decide) tf_X8_100 rfl rfl rfl ?_
    exact tg_iret C0 dX8_undo_51
  · refine tg_iconst (x := (-1)) C0 dX8_undo_12 (by decide) ?_
    exact tg_iret C0 dX8_undo_13
theorem c_X8_undo (l : Launch) (v : tmM) : tmMi tm_NWR tm_shR 13 l yX8_undo (Cond.code yX8_undo cX8_undo 1 (some .int) :: TMW) ({ frames := 1, cells := 0, slots := 0, locals := 25 } : Room) (fun ad => [.ref (ad 0)]) v (f_X8_undo v) :=
  tmMi.of (cc := cX8_undo) (nL := 1) (by decide +kernel) rfl tm_NWR_ok (fun _ => Nat.le_of_ble_eq_true rfl) (fun p e s m args below meth c A D cy ad z C0 => w_X8_undo C0 v)
-- ----- X8_save
theorem dX8_save_0 : decode cX8_save 0 = .ok (.aload_n 0, 1) := by decide +kernel
theorem dX8_save_1 : decode cX8_save 1 = .ok (.iload_n 1, 1) := by decide +kernel
theorem dX8_save_2 : decode cX8_save 2 = .ok (.iconst 0, 1) := by decide +kernel
theorem dX8_save_3 : decode cX8_save 3 = .ok (.iconst 1, 1) := by decide +kernel
theorem dX8_save_4 : decode cX8_save 4 = .ok (.invokestatic 63, 3) := by decide +kernel
theorem dX8_save_7 : decode cX8_save 7 = .ok (.ifCond .eq 7, 3) := by decide +kernel
theorem dX8_save_10 : decode cX8_save 10 = .ok (.iconst 0, 1) := by decide +kernel
theorem dX8_save_11 : decode cX8_save 11 = .ok (.goto 4, 3) := by decide +kernel
theorem dX8_save_14 : decode cX8_save 14 = .ok (.iconst 1, 1) := by decide +kernel
theorem dX8_save_15 : decode cX8_save 15 = .ok (.putfield 56, 3) := by decide +kernel
theorem dX8_save_18 : decode cX8_save 18 = .ok (.aload_n 0, 1) := by decide +kernel
theorem dX8_save_19 : decode cX8_save 19 = .ok (.getfield 56, 3) := by decide +kernel
theorem dX8_save_22 : decode cX8_save 22 = .ok (.ifCond .le 4, 3) := by decide +kernel
theorem dX8_save_25 : decode cX8_save 25 = .ok (.return_, 1) := by decide +kernel
theorem dX8_save_26 : decode cX8_save 26 = .ok (.aload_n 0, 1) := by decide +kernel
theorem dX8_save_27 : decode cX8_save 27 = .ok (.getfield 7, 3) := by decide +kernel
theorem dX8_save_30 : decode cX8_save 30 = .ok (.iconst 0, 1) := by decide +kernel
theorem dX8_save_31 : decode cX8_save 31 = .ok (.aload_n 0, 1) := by decide +kernel
theorem dX8_save_32 : decode cX8_save 32 = .ok (.getfield 16, 3) := by decide +kernel
theorem dX8_save_35 : decode cX8_save 35 = .ok (.sipush 491, 3) := by decide +kernel
theorem dX8_save_38 : decode cX8_save 38 = .ok (.iload_n 1, 1) := by decide +kernel
theorem dX8_save_39 : decode cX8_save 39 = .ok (.imul, 1) := by decide +kernel
theorem dX8_save_40 : decode cX8_save 40 = .ok (.sipush 491, 3) := by decide +kernel
theorem dX8_save_43 : decode cX8_save 43 = .ok (.invokestatic 103, 3) := by decide +kernel
theorem dX8_save_46 : decode cX8_save 46 = .ok (.aload_n 0, 1) := by decide +kernel
theorem dX8_save_47 : decode cX8_save 47 = .ok (.getfield 19, 3) := by decide +kernel
theorem dX8_save_50 : decode cX8_save 50 = .ok (.iload_n 1, 1) := by decide +kernel
theorem dX8_save_51 : decode cX8_save 51 = .ok (.iconst 1, 1) := by decide +kernel
theorem dX8_save_52 : decode cX8_save 52 = .ok (.bastore, 1) := by decide +kernel
theorem dX8_save_53 : decode cX8_save 53 = .ok (.return_, 1) := by decide +kernel
def f_X8_save_15 (x1 s0 : Int32) (v : tmM) : Option (Unit × tmM) := tm_lt (tm_up v 0 0 s0) fun v3 => (if (v3 0 0) ≤ 0 then tm_cl (f_X8_copies 1 491 3 982 0 (491 * x1) 491 v3) fun _ v4 => tm_g (tm_ix x1 2) (tm_lt (tm_up v4 4 x1.toNatClampNeg (vp_nar .boolean 1)) fun v6 => some ((), v6)) else some ((), v3))
set_option maxRecDepth 100000 in
set_option maxHeartbeats 4000000 in
theorem w_X8_save_15 {p : Program} {l : Launch} {e : Env} {s : State} {m : MethodId} {args : Array Value} {below : List Frame} {meth : Method} {c : Code} {D : va_G} {cy : Nat → ClassId} {ad : Nat → Nat} {A : Nat → Prop} {z : (Unit × tmM)} (C0 : tmC p s m args meth c cX8_save 2 none RX8 TMW tm_NWR D cy tm_shR ad 13 [] A) (x1 s0 : Int32) (v : tmM) : tmG p l e ({ frames := 1, cells := 0, slots := 0, locals := 25 } : Room) s m args below meth c 0 0 (MQ below (va_Qv (fun u => z = ((), u)) (tmAt tm_shR 13 D cy ad A) A) args s 0 0 A) 2 D cy tm_shR ad 13 [] A z 15 [(0, .ref (ad 0)), (1, .int x1)] [.int s0, .ref (ad 0)] v (f_X8_save_15 x1 s0 v) := by
  unfold f_X8_save_15
  refine tg_put 0 0 C0 dX8_save_15 (by decide) rfl rfl tu_X8 tyX8_ok nmX8 (by decide) tf_X8_56 rfl rfl rfl rfl rfl rfl ?_
  refine tg_letm (fun v3 _ => ?_)
  refine tg_aload_n 0 C0 dX8_save_18 rfl rfl ?_
  refine tg_get 0 0 C0 dX8_save_19 (by decide) rfl rfl tu_X8 (by decide) tf_X8_56 rfl rfl rfl ?_
  refine tg_if_le 26 C0 dX8_save_22 (by decide) (fun _ => ?_) (fun _ => ?_)
  · refine tg_aload_n 0 C0 dX8_save_26 rfl rfl ?_
    refine tg_get 0 1 C0 dX8_save_27 (by decide) rfl rfl tu_X8 (by decide) tf_X8_7 rfl rfl rfl ?_
    refine tg_iconst (x := 0) C0 dX8_save_30 (by decide) ?_
    refine tg_aload_n 0 C0 dX8_save_31 rfl rfl ?_
    refine tg_get 0 4 C0 dX8_save_32 (by decide) rfl rfl tu_X8 (by decide) tf_X8_16 rfl rfl rfl ?_
    refine tg_sipush (x := 491) C0 dX8_save_35 (by decide) ?_
    refine tg_iload_n 1 C0 dX8_save_38 rfl rfl ?_
    refine tg_imul C0 dX8_save_39 ?_
    refine tg_sipush (x := 491) C0 dX8_save_40 (by decide) ?_
    refine tg_callSv (As := [.ref (ad 1), .int 0, .ref (ad 3), .int (491 * x1), .int 491]) 5 C0 dX8_save_43 (c_X8_copies l 1 491 3 982 ⟨rfl, (by decide)⟩ ⟨rfl, (by decide)⟩ 0 (491 * x1) 491 v3) rfl rfl (tm_gc tc_X8_copies) tl_X8_103 tn_X8 tst_X8_copies  rfl rfl rfl rfl (by decide +kernel) ⟨by decide, by decide⟩ (Nat.le_of_ble_eq_true rfl) ⟨by decide, by decide⟩ (fun v4 _ => ?_)
    refine tg_aload_n 0 C0 dX8_save_46 rfl rfl ?_
    refine tg_get 0 5 C0 dX8_save_47 (by decide) rfl rfl tu_X8 (by decide) tf_X8_19 rfl rfl rfl ?_
    refine tg_iload_n 1 C0 dX8_save_50 rfl rfl ?_
    refine tg_iconst (x := 1) C0 dX8_save_51 (by decide) ?_
    refine tg_zast 4 C0 dX8_save_52 (by decide) rfl (fun _ => ?_)
    refine tg_letm (fun v6 _ => ?_)
    exact tg_vret C0 dX8_save_53
  · exact tg_vret C0 dX8_save_25
def f_X8_save (x1 : Int32) (v : tmM) : Option (Unit × tmM) := tm_cl (f_X8_in x1 0 1 v) fun r2 v1 => (if r2 = 0 then f_X8_save_15 x1 1 v1 else f_X8_save_15 x1 0 v1)
set_option maxRecDepth 100000 in
set_option maxHeartbeats 4000000 in
theorem w_X8_save {p : Program} {l : Launch} {e : Env} {s : State} {m : MethodId} {args : Array Value} {below : List Frame} {meth : Method} {c : Code} {D : va_G} {cy : Nat → ClassId} {ad : Nat → Nat} {A : Nat → Prop} {z : (Unit × tmM)} (C0 : tmC p s m args meth c cX8_save 2 none RX8 TMW tm_NWR D cy tm_shR ad 13 [] A) (x1 : Int32) (v : tmM) : tmG p l e ({ frames := 1, cells := 0, slots := 0, locals := 25 } : Room) s m args below meth c 0 0 (MQ below (va_Qv (fun u => z = ((), u)) (tmAt tm_shR 13 D cy ad A) A) args s 0 0 A) 2 D cy tm_shR ad 13 [] A z 0 [(0, .ref (ad 0)), (1, .int x1)] [] v (f_X8_save x1 v) := by
  unfold f_X8_save
  refine tg_aload_n 0 C0 dX8_save_0 rfl rfl ?_
  refine tg_iload_n 1 C0 dX8_save_1 rfl rfl ?_
  refine tg_iconst (x := 0) C0 dX8_save_2 (by decide) ?_
  refine tg_iconst (x := 1) C0 dX8_save_3 (by decide) ?_
  refine tg_callSi (As := [.int x1, .int 0, .int 1]) 3 C0 dX8_save_4 (c_X8_in l x1 0 1 v) rfl rfl (tm_gc tc_X8_in) tl_X8_63 tn_X8 tst_X8_in  rfl rfl rfl rfl (by decide +kernel) ⟨by decide, by decide⟩ (Nat.le_of_ble_eq_true rfl) ⟨by decide, by decide⟩ (fun r2 v1 _ => ?_)
  refine tg_if_eq 14 C0 dX8_save_7 (by decide) (fun _ => ?_) (fun _ => ?_)
  · refine tg_iconst (x := 1) C0 dX8_save_14 (by decide) ?_
    exact w_X8_save_15 C0 x1 1 v1
  · refine tg_iconst (x := 0) C0 dX8_save_10 (by decide) ?_
    refine tg_goto 15 C0 dX8_save_11 (by decide) ?_
    exact w_X8_save_15 C0 x1 0 v1
theorem c_X8_save (l : Launch) (x1 : Int32) (v : tmM) : tmMv tm_NWR tm_shR 13 l yX8_save (Cond.code yX8_save cX8_save 2 none :: TMW) ({ frames := 1, cells := 0, slots := 0, locals := 25 } : Room) (fun ad => [.ref (ad 0), .int x1]) v (f_X8_save x1 v) :=
  tmMv.of (cc := cX8_save) (nL := 2) (by decide +kernel) rfl tm_NWR_ok (fun _ => Nat.le_of_ble_eq_true rfl) (fun p e s m args below meth c A D cy ad z C0 => w_X8_save C0 x1 v)
-- ----- X8_restore
theorem dX8_restore_0 : decode cX8_restore 0 = .ok (.aload_n 0, 1) := by decide +kernel
theorem dX8_restore_1 : decode cX8_restore 1 = .ok (.iload_n 1, 1) := by decide +kernel
theorem dX8_restore_2 : decode cX8_restore 2 = .ok (.iconst 0, 1) := by decide +kernel
theorem dX8_restore_3 : decode cX8_restore 3 = .ok (.iconst 1, 1) := by decide +kernel
theorem dX8_restore_4 : decode cX8_restore 4 = .ok (.invokestatic 63, 3) := by decide +kernel
theorem dX8_restore_7 : decode cX8_restore 7 = .ok (.ifCond .ne 7, 3) := by decide +kernel
theorem dX8_restore_10 : decode cX8_restore 10 = .ok (.iconst 1, 1) := by decide +kernel
theorem dX8_restore_11 : decode cX8_restore 11 = .ok (.goto 17, 3) := by decide +kernel
theorem dX8_restore_14 : decode cX8_restore 14 = .ok (.aload_n 0, 1) := by decide +kernel
theorem dX8_restore_15 : decode cX8_restore 15 = .ok (.getfield 19, 3) := by decide +kernel
theorem dX8_restore_18 : decode cX8_restore 18 = .ok (.iload_n 1, 1) := by decide +kernel
theorem dX8_restore_19 : decode cX8_restore 19 = .ok (.baload, 1) := by decide +kernel
theorem dX8_restore_20 : decode cX8_restore 20 = .ok (.ifCond .eq 7, 3) := by decide +kernel
theorem dX8_restore_23 : decode cX8_restore 23 = .ok (.iconst 0, 1) := by decide +kernel
theorem dX8_restore_24 : decode cX8_restore 24 = .ok (.goto 4, 3) := by decide +kernel
theorem dX8_restore_27 : decode cX8_restore 27 = .ok (.iconst 2, 1) := by decide +kernel
theorem dX8_restore_28 : decode cX8_restore 28 = .ok (.putfield 56, 3) := by decide +kernel
theorem dX8_restore_31 : decode cX8_restore 31 = .ok (.aload_n 0, 1) := by decide +kernel
theorem dX8_restore_32 : decode cX8_restore 32 = .ok (.getfield 56, 3) := by decide +kernel
theorem dX8_restore_35 : decode cX8_restore 35 = .ok (.ifCond .le 4, 3) := by decide +kernel
theorem dX8_restore_38 : decode cX8_restore 38 = .ok (.return_, 1) := by decide +kernel
theorem dX8_restore_39 : decode cX8_restore 39 = .ok (.aload_n 0, 1) := by decide +kernel
theorem dX8_restore_40 : decode cX8_restore 40 = .ok (.getfield 16, 3) := by decide +kernel
theorem dX8_restore_43 : decode cX8_restore 43 = .ok (.sipush 491, 3) := by decide +kernel
theorem dX8_restore_46 : decode cX8_restore 46 = .ok (.iload_n 1, 1) := by decide +kernel
theorem dX8_restore_47 : decode cX8_restore 47 = .ok (.imul, 1) := by decide +kernel
theorem dX8_restore_48 : decode cX8_restore 48 = .ok (.aload_n 0, 1) := by decide +kernel
theorem dX8_restore_49 : decode cX8_restore 49 = .ok (.getfield 7, 3) := by decide +kernel
theorem dX8_restore_52 : decode cX8_restore 52 = .ok (.iconst 0, 1) := by decide +kernel
theorem dX8_restore_53 : decode cX8_restore 53 = .ok (.sipush 491, 3) := by decide +kernel
theorem dX8_restore_56 : decode cX8_restore 56 = .ok (.invokestatic 103, 3) := by decide +kernel
theorem dX8_restore_59 : decode cX8_restore 59 = .ok (.aload_n 0, 1) := by decide +kernel
theorem dX8_restore_60 : decode cX8_restore 60 = .ok (.iconst 0, 1) := by decide +kernel
theorem dX8_restore_61 : decode cX8_restore 61 = .ok (.putfield 100, 3) := by decide +kernel
theorem dX8_restore_64 : decode cX8_restore 64 = .ok (.return_, 1) := by decide +kernel
def f_X8_restore_28 (x1 s0 : Int32) (v : tmM) : Option (Unit × tmM) := tm_lt (tm_up v 0 0 s0) fun v3 => (if (v3 0 0) ≤ 0 then tm_cl (f_X8_copies 3 982 1 491 (491 * x1) 0 491 v3) fun _ v4 => tm_lt (tm_up v4 0 3 0) fun v6 => some ((), v6) else some ((), v3))
set_option maxRecDepth 100000 in
set_option maxHeartbeats 4000000 in
theorem w_X8_restore_28 {p : Program} {l : Launch} {e : Env} {s : State} {m : MethodId} {args : Array Value} {below : List Frame} {meth : Method} {c : Code} {D : va_G} {cy : Nat → ClassId} {ad : Nat → Nat} {A : Nat → Prop} {z : (Unit × tmM)} (C0 : tmC p s m args meth c cX8_restore 2 none RX8 TMW tm_NWR D cy tm_shR ad 13 [] A) (x1 s0 : Int32) (v : tmM) : tmG p l e ({ frames := 1, cells := 0, slots := 0, locals := 25 } : Room) s m args below meth c 0 0 (MQ below (va_Qv (fun u => z = ((), u)) (tmAt tm_shR 13 D cy ad A) A) args s 0 0 A) 2 D cy tm_shR ad 13 [] A z 28 [(0, .ref (ad 0)), (1, .int x1)] [.int s0, .ref (ad 0)] v (f_X8_restore_28 x1 s0 v) := by
  unfold f_X8_restore_28
  refine tg_put 0 0 C0 dX8_restore_28 (by decide) rfl rfl tu_X8 tyX8_ok nmX8 (by decide) tf_X8_56 rfl rfl rfl rfl rfl rfl ?_
  refine tg_letm (fun v3 _ => ?_)
  refine tg_aload_n 0 C0 dX8_restore_31 rfl rfl ?_
  refine tg_get 0 0 C0 dX8_restore_32 (by decide) rfl rfl tu_X8 (by decide) tf_X8_56 rfl rfl rfl ?_
  refine tg_if_le 39 C0 dX8_restore_35 (by decide) (fun _ => ?_) (fun _ => ?_)
  · refine tg_aload_n 0 C0 dX8_restore_39 rfl rfl ?_
    refine tg_get 0 4 C0 dX8_restore_40 (by decide) rfl rfl tu_X8 (by decide) tf_X8_16 rfl rfl rfl ?_
    refine tg_sipush (x := 491) C0 dX8_restore_43 (by decide) ?_
    refine tg_iload_n 1 C0 dX8_restore_46 rfl rfl ?_
    refine tg_imul C0 dX8_restore_47 ?_
    refine tg_aload_n 0 C0 dX8_restore_48 rfl rfl ?_
    refine tg_get 0 1 C0 dX8_restore_49 (by decide) rfl rfl tu_X8 (by decide) tf_X8_7 rfl rfl rfl ?_
    refine tg_iconst (x := 0) C0 dX8_restore_52 (by decide) ?_
    refine tg_sipush (x := 491) C0 dX8_restore_53 (by decide) ?_
    refine tg_callSv (As := [.ref (ad 3), .int (491 * x1), .ref (ad 1), .int 0, .int 491]) 5 C0 dX8_restore_56 (c_X8_copies l 3 982 1 491 ⟨rfl, (by decide)⟩ ⟨rfl, (by decide)⟩ (491 * x1) 0 491 v3) rfl rfl (tm_gc tc_X8_copies) tl_X8_103 tn_X8 tst_X8_copies  rfl rfl rfl rfl (by decide +kernel) ⟨by decide, by decide⟩ (Nat.le_of_ble_eq_true rfl) ⟨by decide, by decide⟩ (fun v4 _ => ?_)
    refine tg_aload_n 0 C0 dX8_restore_59 rfl rfl ?_
    refine tg_iconst (x := 0) C0 dX8_restore_60 (by decide) ?_
    refine tg_put 0 3 C0 dX8_restore_61 (by decide) rfl rfl tu_X8 tyX8_ok nmX8 (by decide) tf_X8_100 rfl rfl rfl rfl rfl rfl ?_
    refine tg_letm (fun v6 _ => ?_)
    exact tg_vret C0 dX8_restore_64
  · exact tg_vret C0 dX8_restore_38
def f_X8_restore (x1 : Int32) (v : tmM) : Option (Unit × tmM) := tm_cl (f_X8_in x1 0 1 v) fun r2 v1 => (if r2 = 0 then f_X8_restore_28 x1 1 v1 else tm_g (tm_ix x1 2) ((if (v1 4 x1.toNatClampNeg) = 0 then f_X8_restore_28 x1 2 v1 else f_X8_restore_28 x1 0 v1)))
set_option maxRecDepth 100000 in
set_option maxHeartbeats 4000000 in
theorem w_X8_restore {p : Program} {l : Launch} {e : Env} {s : State} {m : MethodId} {args : Array Value} {below : List Frame} {meth : Method} {c : Code} {D : va_G} {cy : Nat → ClassId} {ad : Nat → Nat} {A : Nat → Prop} {z : (Unit × tmM)} (C0 : tmC p s m args meth c cX8_restore 2 none RX8 TMW tm_NWR D cy tm_shR ad 13 [] A) (x1 : Int32) (v : tmM) : tmG p l e ({ frames := 1, cells := 0, slots := 0, locals := 25 } : Room) s m args below meth c 0 0 (MQ below (va_Qv (fun u => z = ((), u)) (tmAt tm_shR 13 D cy ad A) A) args s 0 0 A) 2 D cy tm_shR ad 13 [] A z 0 [(0, .ref (ad 0)), (1, .int x1)] [] v (f_X8_restore x1 v) := by
  unfold f_X8_restore
  refine tg_aload_n 0 C0 dX8_restore_0 rfl rfl ?_
  refine tg_iload_n 1 C0 dX8_restore_1 rfl rfl ?_
  refine tg_iconst (x := 0) C0 dX8_restore_2 (by decide) ?_
  refine tg_iconst (x := 1) C0 dX8_restore_3 (by decide) ?_
  refine tg_callSi (As := [.int x1, .int 0, .int 1]) 3 C0 dX8_restore_4 (c_X8_in l x1 0 1 v) rfl rfl (tm_gc tc_X8_in) tl_X8_63 tn_X8 tst_X8_in  rfl rfl rfl rfl (by decide +kernel) ⟨by decide, by decide⟩ (Nat.le_of_ble_eq_true rfl) ⟨by decide, by decide⟩ (fun r2 v1 _ => ?_)
  refine tg_if_ne 14 C0 dX8_restore_7 (by decide) (fun _ => ?_) (fun _ => ?_)
  · refine tg_aload_n 0 C0 dX8_restore_14 rfl rfl ?_
    refine tg_get 0 5 C0 dX8_restore_15 (by decide) rfl rfl tu_X8 (by decide) tf_X8_19 rfl rfl rfl ?_
    refine tg_iload_n 1 C0 dX8_restore_18 rfl rfl ?_
    refine tg_zald 4 C0 dX8_restore_19 (by decide) rfl (fun _ => ?_)
    refine tg_if_eq 27 C0 dX8_restore_20 (by decide) (fun _ => ?_) (fun _ => ?_)
    · refine tg_iconst (x := 2) C0 dX8_restore_27 (by decide) ?_
      exact w_X8_restore_28 C0 x1 2 v1
    · refine tg_iconst (x := 0) C0 dX8_restore_23 (by decide) ?_
      refine tg_goto 28 C0 dX8_restore_24 (by decide) ?_
      exact w_X8_restore_28 C0 x1 0 v1
  · refine tg_iconst (x := 1) C0 dX8_restore_10 (by decide) ?_
    refine tg_goto 28 C0 dX8_restore_11 (by decide) ?_
    exact w_X8_restore_28 C0 x1 1 v1
theorem c_X8_restore (l : Launch) (x1 : Int32) (v : tmM) : tmMv tm_NWR tm_shR 13 l yX8_restore (Cond.code yX8_restore cX8_restore 2 none :: TMW) ({ frames := 1, cells := 0, slots := 0, locals := 25 } : Room) (fun ad => [.ref (ad 0), .int x1]) v (f_X8_restore x1 v) :=
  tmMv.of (cc := cX8_restore) (nL := 2) (by decide +kernel) rfl tm_NWR_ok (fun _ => Nat.le_of_ble_eq_true rfl) (fun p e s m args below meth c A D cy ad z C0 => w_X8_restore C0 x1 v)
-- ----- X8_thrown
theorem dX8_thrown_0 : decode cX8_thrown 0 = .ok (.aload_n 0, 1) := by decide +kernel
theorem dX8_thrown_1 : decode cX8_thrown 1 = .ok (.getfield 56, 3) := by decide +kernel
theorem dX8_thrown_4 : decode cX8_thrown 4 = .ok (.ireturn, 1) := by decide +kernel
def f_X8_thrown (v : tmM) : Option (Int32 × tmM) := some (v 0 0, v)
set_option maxRecDepth 100000 in
set_option maxHeartbeats 4000000 in
theorem w_X8_thrown {p : Program} {l : Launch} {e : Env} {s : State} {m : MethodId} {args : Array Value} {below : List Frame} {meth : Method} {c : Code} {D : va_G} {cy : Nat → ClassId} {ad : Nat → Nat} {A : Nat → Prop} {z : (Int32 × tmM)} (C0 : tmC p s m args meth c cX8_thrown 1 (some .int) RX8 TMW tm_NWR D cy tm_shR ad 13 [] A) (v : tmM) : tmG p l e ({ frames := 0, cells := 0, slots := 0, locals := 0 } : Room) s m args below meth c 0 0 (MQ below (va_Qi (fun r u => z = (r, u)) (tmAt tm_shR 13 D cy ad A) A) args s 0 0 A) 1 D cy tm_shR ad 13 [] A z 0 [(0, .ref (ad 0))] [] v (f_X8_thrown v) := by
  unfold f_X8_thrown
  refine tg_aload_n 0 C0 dX8_thrown_0 rfl rfl ?_
  refine tg_get 0 0 C0 dX8_thrown_1 (by decide) rfl rfl tu_X8 (by decide) tf_X8_56 rfl rfl rfl ?_
  exact tg_iret C0 dX8_thrown_4
theorem c_X8_thrown (l : Launch) (v : tmM) : tmMi tm_NWR tm_shR 13 l yX8_thrown (Cond.code yX8_thrown cX8_thrown 1 (some .int) :: TMW) ({ frames := 0, cells := 0, slots := 0, locals := 0 } : Room) (fun ad => [.ref (ad 0)]) v (f_X8_thrown v) :=
  tmMi.of (cc := cX8_thrown) (nL := 1) (by decide +kernel) rfl tm_NWR_ok (fun _ => Nat.le_of_ble_eq_true rfl) (fun p e s m args below meth c A D cy ad z C0 => w_X8_thrown C0 v)
-- ----- X8_agreement
theorem dX8_agreement_0 : decode cX8_agreement 0 = .ok (.aload_n 0, 1) := by decide +kernel
theorem dX8_agreement_1 : decode cX8_agreement 1 = .ok (.iconst 0, 1) := by decide +kernel
theorem dX8_agreement_2 : decode cX8_agreement 2 = .ok (.putfield 56, 3) := by decide +kernel
theorem dX8_agreement_5 : decode cX8_agreement 5 = .ok (.iconst 0, 1) := by decide +kernel
theorem dX8_agreement_6 : decode cX8_agreement 6 = .ok (.istore_n 1, 1) := by decide +kernel
theorem dX8_agreement_7 : decode cX8_agreement 7 = .ok (.iconst 0, 1) := by decide +kernel
theorem dX8_agreement_8 : decode cX8_agreement 8 = .ok (.istore_n 2, 1) := by decide +kernel
theorem dX8_agreement_9 : decode cX8_agreement 9 = .ok (.iconst 0, 1) := by decide +kernel
theorem dX8_agreement_10 : decode cX8_agreement 10 = .ok (.istore_n 3, 1) := by decide +kernel
theorem dX8_agreement_11 : decode cX8_agreement 11 = .ok (.iload_n 3, 1) := by decide +kernel
theorem dX8_agreement_12 : decode cX8_agreement 12 = .ok (.bipush 60, 2) := by decide +kernel
theorem dX8_agreement_14 : decode cX8_agreement 14 = .ok (.if_icmp .ge 49, 3) := by decide +kernel
theorem dX8_agreement_17 : decode cX8_agreement 17 = .ok (.iload_n 1, 1) := by decide +kernel
theorem dX8_agreement_18 : decode cX8_agreement 18 = .ok (.aload_n 0, 1) := by decide +kernel
theorem dX8_agreement_19 : decode cX8_agreement 19 = .ok (.iload_n 3, 1) := by decide +kernel
theorem dX8_agreement_20 : decode cX8_agreement 20 = .ok (.invokevirtual 291, 3) := by decide +kernel
theorem dX8_agreement_23 : decode cX8_agreement 23 = .ok (.ifCond .eq 7, 3) := by decide +kernel
theorem dX8_agreement_26 : decode cX8_agreement 26 = .ok (.iconst 1, 1) := by decide +kernel
theorem dX8_agreement_27 : decode cX8_agreement 27 = .ok (.goto 4, 3) := by decide +kernel
theorem dX8_agreement_30 : decode cX8_agreement 30 = .ok (.iconst 0, 1) := by decide +kernel
theorem dX8_agreement_31 : decode cX8_agreement 31 = .ok (.iadd, 1) := by decide +kernel
theorem dX8_agreement_32 : decode cX8_agreement 32 = .ok (.istore_n 1, 1) := by decide +kernel
theorem dX8_agreement_33 : decode cX8_agreement 33 = .ok (.iload_n 2, 1) := by decide +kernel
theorem dX8_agreement_34 : decode cX8_agreement 34 = .ok (.aload_n 0, 1) := by decide +kernel
theorem dX8_agreement_35 : decode cX8_agreement 35 = .ok (.iload_n 3, 1) := by decide +kernel
theorem dX8_agreement_36 : decode cX8_agreement 36 = .ok (.invokevirtual 291, 3) := by decide +kernel
theorem dX8_agreement_39 : decode cX8_agreement 39 = .ok (.ifCond .eq 15, 3) := by decide +kernel
theorem dX8_agreement_42 : decode cX8_agreement 42 = .ok (.aload_n 0, 1) := by decide +kernel
theorem dX8_agreement_43 : decode cX8_agreement 43 = .ok (.iload_n 3, 1) := by decide +kernel
theorem dX8_agreement_44 : decode cX8_agreement 44 = .ok (.invokevirtual 78, 3) := by decide +kernel
theorem dX8_agreement_47 : decode cX8_agreement 47 = .ok (.ifCond .ne 7, 3) := by decide +kernel
theorem dX8_agreement_50 : decode cX8_agreement 50 = .ok (.iconst 1, 1) := by decide +kernel
theorem dX8_agreement_51 : decode cX8_agreement 51 = .ok (.goto 4, 3) := by decide +kernel
theorem dX8_agreement_54 : decode cX8_agreement 54 = .ok (.iconst 0, 1) := by decide +kernel
theorem dX8_agreement_55 : decode cX8_agreement 55 = .ok (.iadd, 1) := by decide +kernel
theorem dX8_agreement_56 : decode cX8_agreement 56 = .ok (.istore_n 2, 1) := by decide +kernel
theorem dX8_agreement_57 : decode cX8_agreement 57 = .ok (.iinc 3 1, 3) := by decide +kernel
theorem dX8_agreement_60 : decode cX8_agreement 60 = .ok (.goto (-49), 3) := by decide +kernel
theorem dX8_agreement_63 : decode cX8_agreement 63 = .ok (.iload_n 1, 1) := by decide +kernel
theorem dX8_agreement_64 : decode cX8_agreement 64 = .ok (.ifCond .ne 7, 3) := by decide +kernel
theorem dX8_agreement_67 : decode cX8_agreement 67 = .ok (.fconst 1, 1) := by decide +kernel
theorem dX8_agreement_68 : decode cX8_agreement 68 = .ok (.goto 8, 3) := by decide +kernel
theorem dX8_agreement_71 : decode cX8_agreement 71 = .ok (.iload_n 2, 1) := by decide +kernel
theorem dX8_agreement_72 : decode cX8_agreement 72 = .ok (.i2f, 1) := by decide +kernel
theorem dX8_agreement_73 : decode cX8_agreement 73 = .ok (.iload_n 1, 1) := by decide +kernel
theorem dX8_agreement_74 : decode cX8_agreement 74 = .ok (.i2f, 1) := by decide +kernel
theorem dX8_agreement_75 : decode cX8_agreement 75 = .ok (.fdiv, 1) := by decide +kernel
theorem dX8_agreement_76 : decode cX8_agreement 76 = .ok (.freturn, 1) := by decide +kernel
def f_X8_agreement_55 (K0 : Int32 → Int32 → tmM → Option (UInt32 × tmM)) (L : Int32 → Int32 → Int32 → tmM → Option (UInt32 × tmM)) (x1 x3 s0 s1 : Int32) (v : tmM) : Option (UInt32 × tmM) := tm_lt (s1 + s0) fun y7 => L x1 y7 (x3 + 1) v
set_option maxRecDepth 100000 in
set_option maxHeartbeats 4000000 in
theorem w_X8_agreement_55 {p : Program} {l : Launch} {e : Env} {s : State} {m : MethodId} {args : Array Value} {below : List Frame} {meth : Method} {c : Code} {D : va_G} {cy : Nat → ClassId} {ad : Nat → Nat} {A : Nat → Prop} {z : (UInt32 × tmM)} {K0 : Int32 → Int32 → tmM → Option (UInt32 × tmM)} {L : Int32 → Int32 → Int32 → tmM → Option (UInt32 × tmM)} (C0 : tmC p s m args meth c cX8_agreement 4 (some .float) RX8 TMW tm_NWR D cy tm_shR ad 13 [] A) (hK0 : ∀ (a1 a2 : Int32) (w : tmM), tmG p l e ({ frames := 4, cells := 0, slots := 0, locals := 88 } : Room) s m args below meth c 0 0 (MQ below (va_Qf (fun r u => z = (r, u)) (tmAt tm_shR 13 D cy ad A) A) args s 0 0 A) 4 D cy tm_shR ad 13 [] A z 63 [(1, .int a1), (2, .int a2)] [] w (K0 a1 a2 w)) (hL : ∀ (a1 a2 a3 : Int32) (w : tmM), tmG p l e ({ frames := 4, cells := 0, slots := 0, locals := 88 } : Room) s m args below meth c 0 0 (MQ below (va_Qf (fun r u => z = (r, u)) (tmAt tm_shR 13 D cy ad A) A) args s 0 0 A) 4 D cy tm_shR ad 13 [] A z 11 [(0, .ref (ad 0)), (1, .int a1), (2, .int a2), (3, .int a3)] [] w (L a1 a2 a3 w)) (x1 x3 s0 s1 : Int32) (v : tmM) : tmG p l e ({ frames := 4, cells := 0, slots := 0, locals := 88 } : Room) s m args below meth c 0 0 (MQ below (va_Qf (fun r u => z = (r, u)) (tmAt tm_shR 13 D cy ad A) A) args s 0 0 A) 4 D cy tm_shR ad 13 [] A z 55 [(0, .ref (ad 0)), (1, .int x1), (3, .int x3)] [.int s0, .int s1] v (f_X8_agreement_55 K0 L x1 x3 s0 s1 v) := by
  unfold f_X8_agreement_55
  refine tg_iadd C0 dX8_agreement_55 ?_
  refine tg_leti (fun y7 _ => ?_)
  refine tg_istore_n [(2, .int y7), (0, .ref (ad 0)), (1, .int x1), (3, .int x3)] C0 dX8_agreement_56 rfl (by decide) rfl ?_
  refine tg_iinc [(3, .int (x3 + 1)), (2, .int y7), (0, .ref (ad 0)), (1, .int x1)] 3 C0 dX8_agreement_57 rfl rfl (by decide) rfl ?_
  refine tg_goto 11 C0 dX8_agreement_60 (by decide) ?_
  refine tg_sub [2, 3, 1, 0] rfl ?_
  exact hL x1 y7 (x3 + 1) v
def f_X8_agreement_54 (K0 : Int32 → Int32 → tmM → Option (UInt32 × tmM)) (L : Int32 → Int32 → Int32 → tmM → Option (UInt32 × tmM)) (x1 x3 s0 : Int32) (v : tmM) : Option (UInt32 × tmM) := f_X8_agreement_55 K0 L x1 x3 0 s0 v
set_option maxRecDepth 100000 in
set_option maxHeartbeats 4000000 in
theorem w_X8_agreement_54 {p : Program} {l : Launch} {e : Env} {s : State} {m : MethodId} {args : Array Value} {below : List Frame} {meth : Method} {c : Code} {D : va_G} {cy : Nat → ClassId} {ad : Nat → Nat} {A : Nat → Prop} {z : (UInt32 × tmM)} {K0 : Int32 → Int32 → tmM → Option (UInt32 × tmM)} {L : Int32 → Int32 → Int32 → tmM → Option (UInt32 × tmM)} (C0 : tmC p s m args meth c cX8_agreement 4 (some .float) RX8 TMW tm_NWR D cy tm_shR ad 13 [] A) (hK0 : ∀ (a1 a2 : Int32) (w : tmM), tmG p l e ({ frames := 4, cells := 0, slots := 0, locals := 88 } : Room) s m args below meth c 0 0 (MQ below (va_Qf (fun r u => z = (r, u)) (tmAt tm_shR 13 D cy ad A) A) args s 0 0 A) 4 D cy tm_shR ad 13 [] A z 63 [(1, .int a1), (2, .int a2)] [] w (K0 a1 a2 w)) (hL : ∀ (a1 a2 a3 : Int32) (w : tmM), tmG p l e ({ frames := 4, cells := 0, slots := 0, locals := 88 } : Room) s m args below meth c 0 0 (MQ below (va_Qf (fun r u => z = (r, u)) (tmAt tm_shR 13 D cy ad A) A) args s 0 0 A) 4 D cy tm_shR ad 13 [] A z 11 [(0, .ref (ad 0)), (1, .int a1), (2, .int a2), (3, .int a3)] [] w (L a1 a2 a3 w)) (x1 x3 s0 : Int32) (v : tmM) : tmG p l e ({ frames := 4, cells := 0, slots := 0, locals := 88 } : Room) s m args below meth c 0 0 (MQ below (va_Qf (fun r u => z = (r, u)) (tmAt tm_shR 13 D cy ad A) A) args s 0 0 A) 4 D cy tm_shR ad 13 [] A z 54 [(0, .ref (ad 0)), (1, .int x1), (3, .int x3)] [.int s0] v (f_X8_agreement_54 K0 L x1 x3 s0 v) := by
  unfold f_X8_agreement_54
  refine tg_iconst (x := 0) C0 dX8_agreement_54 (by decide) ?_
  exact w_X8_agreement_55 C0 hK0 hL x1 x3 0 s0 v
def f_X8_agreement_31 (K0 : Int32 → Int32 → tmM → Option (UInt32 × tmM)) (L : Int32 → Int32 → Int32 → tmM → Option (UInt32 × tmM)) (x2 x3 s0 s1 : Int32) (v : tmM) : Option (UInt32 × tmM) := tm_lt (s1 + s0) fun y4 => tm_cl (f_X8_hasKey x3 v) fun r6 v5 => (if r6 = 0 then f_X8_agreement_54 K0 L y4 x3 x2 v5 else tm_cl (f_X8_differs x3 v5) fun r9 v8 => (if r9 = 0 then f_X8_agreement_55 K0 L y4 x3 1 x2 v8 else f_X8_agreement_54 K0 L y4 x3 x2 v8))
set_option maxRecDepth 100000 in
set_option maxHeartbeats 4000000 in
theorem w_X8_agreement_31 {p : Program} {l : Launch} {e : Env} {s : State} {m : MethodId} {args : Array Value} {below : List Frame} {meth : Method} {c : Code} {D : va_G} {cy : Nat → ClassId} {ad : Nat → Nat} {A : Nat → Prop} {z : (UInt32 × tmM)} {K0 : Int32 → Int32 → tmM → Option (UInt32 × tmM)} {L : Int32 → Int32 → Int32 → tmM → Option (UInt32 × tmM)} (C0 : tmC p s m args meth c cX8_agreement 4 (some .float) RX8 TMW tm_NWR D cy tm_shR ad 13 [] A) (hK0 : ∀ (a1 a2 : Int32) (w : tmM), tmG p l e ({ frames := 4, cells := 0, slots := 0, locals := 88 } : Room) s m args below meth c 0 0 (MQ below (va_Qf (fun r u => z = (r, u)) (tmAt tm_shR 13 D cy ad A) A) args s 0 0 A) 4 D cy tm_shR ad 13 [] A z 63 [(1, .int a1), (2, .int a2)] [] w (K0 a1 a2 w)) (hL : ∀ (a1 a2 a3 : Int32) (w : tmM), tmG p l e ({ frames := 4, cells := 0, slots := 0, locals := 88 } : Room) s m args below meth c 0 0 (MQ below (va_Qf (fun r u => z = (r, u)) (tmAt tm_shR 13 D cy ad A) A) args s 0 0 A) 4 D cy tm_shR ad 13 [] A z 11 [(0, .ref (ad 0)), (1, .int a1), (2, .int a2), (3, .int a3)] [] w (L a1 a2 a3 w)) (x2 x3 s0 s1 : Int32) (v : tmM) : tmG p l e ({ frames := 4, cells := 0, slots := 0, locals := 88 } : Room) s m args below meth c 0 0 (MQ below (va_Qf (fun r u => z = (r, u)) (tmAt tm_shR 13 D cy ad A) A) args s 0 0 A) 4 D cy tm_shR ad 13 [] A z 31 [(0, .ref (ad 0)), (2, .int x2), (3, .int x3)] [.int s0, .int s1] v (f_X8_agreement_31 K0 L x2 x3 s0 s1 v) := by
  unfold f_X8_agreement_31
  refine tg_iadd C0 dX8_agreement_31 ?_
  refine tg_leti (fun y4 _ => ?_)
  refine tg_istore_n [(1, .int y4), (0, .ref (ad 0)), (2, .int x2), (3, .int x3)] C0 dX8_agreement_32 rfl (by decide) rfl ?_
  refine tg_iload_n 2 C0 dX8_agreement_33 rfl rfl ?_
  refine tg_aload_n 1 C0 dX8_agreement_34 rfl rfl ?_
  refine tg_iload_n 3 C0 dX8_agreement_35 rfl rfl ?_
  refine tg_callVi (As := [.int x3]) 0 1 C0 dX8_agreement_36 (c_X8_hasKey l x3 v) rfl rfl (by decide) rfl rfl (tm_gV tl_X8_291 ti_X8_hasKey ts_X8_hasKey tn_X8 tc_X8_hasKey)  rfl rfl rfl rfl (by decide +kernel) ⟨by decide, by decide⟩ (Nat.le_of_ble_eq_true rfl) ⟨by decide, by decide⟩ (fun r6 v5 _ => ?_)
  refine tg_if_eq 54 C0 dX8_agreement_39 (by decide) (fun _ => ?_) (fun _ => ?_)
  · refine tg_sub [1, 0, 3] rfl ?_
    exact w_X8_agreement_54 C0 hK0 hL y4 x3 x2 v5
  · refine tg_aload_n 1 C0 dX8_agreement_42 rfl rfl ?_
    refine tg_iload_n 3 C0 dX8_agreement_43 rfl rfl ?_
    refine tg_callVi (As := [.int x3]) 0 1 C0 dX8_agreement_44 (c_X8_differs l x3 v5) rfl rfl (by decide) rfl rfl (tm_gV tl_X8_78 ti_X8_differs ts_X8_differs tn_X8 tc_X8_differs)  rfl rfl rfl rfl (by decide +kernel) ⟨by decide, by decide⟩ (Nat.le_of_ble_eq_true rfl) ⟨by decide, by decide⟩ (fun r9 v8 _ => ?_)
    refine tg_if_ne 54 C0 dX8_agreement_47 (by decide) (fun _ => ?_) (fun _ => ?_)
    · refine tg_sub [1, 0, 3] rfl ?_
      exact w_X8_agreement_54 C0 hK0 hL y4 x3 x2 v8
    · refine tg_iconst (x := 1) C0 dX8_agreement_50 (by decide) ?_
      refine tg_goto 55 C0 dX8_agreement_51 (by decide) ?_
      refine tg_sub [1, 0, 3] rfl ?_
      exact w_X8_agreement_55 C0 hK0 hL y4 x3 1 x2 v8
def f_X8_agreement_11b (K0 : Int32 → Int32 → tmM → Option (UInt32 × tmM)) (L : Int32 → Int32 → Int32 → tmM → Option (UInt32 × tmM)) (x1 x2 x3 : Int32) (v : tmM) : Option (UInt32 × tmM) := (if 60 ≤ x3 then K0 x1 x2 v else tm_cl (f_X8_hasKey x3 v) fun r3 v2 => (if r3 = 0 then f_X8_agreement_31 K0 L x2 x3 0 x1 v2 else f_X8_agreement_31 K0 L x2 x3 1 x1 v2))
set_option maxRecDepth 100000 in
set_option maxHeartbeats 4000000 in
theorem w_X8_agreement_11b {p : Program} {l : Launch} {e : Env} {s : State} {m : MethodId} {args : Array Value} {below : List Frame} {meth : Method} {c : Code} {D : va_G} {cy : Nat → ClassId} {ad : Nat → Nat} {A : Nat → Prop} {z : (UInt32 × tmM)} {K0 : Int32 → Int32 → tmM → Option (UInt32 × tmM)} {L : Int32 → Int32 → Int32 → tmM → Option (UInt32 × tmM)} (C0 : tmC p s m args meth c cX8_agreement 4 (some .float) RX8 TMW tm_NWR D cy tm_shR ad 13 [] A) (hK0 : ∀ (a1 a2 : Int32) (w : tmM), tmG p l e ({ frames := 4, cells := 0, slots := 0, locals := 88 } : Room) s m args below meth c 0 0 (MQ below (va_Qf (fun r u => z = (r, u)) (tmAt tm_shR 13 D cy ad A) A) args s 0 0 A) 4 D cy tm_shR ad 13 [] A z 63 [(1, .int a1), (2, .int a2)] [] w (K0 a1 a2 w)) (hL : ∀ (a1 a2 a3 : Int32) (w : tmM), tmG p l e ({ frames := 4, cells := 0, slots := 0, locals := 88 } : Room) s m args below meth c 0 0 (MQ below (va_Qf (fun r u => z = (r, u)) (tmAt tm_shR 13 D cy ad A) A) args s 0 0 A) 4 D cy tm_shR ad 13 [] A z 11 [(0, .ref (ad 0)), (1, .int a1), (2, .int a2), (3, .int a3)] [] w (L a1 a2 a3 w)) (x1 x2 x3 : Int32) (v : tmM) : tmG p l e ({ frames := 4, cells := 0, slots := 0, locals := 88 } : Room) s m args below meth c 0 0 (MQ below (va_Qf (fun r u => z = (r, u)) (tmAt tm_shR 13 D cy ad A) A) args s 0 0 A) 4 D cy tm_shR ad 13 [] A z 11 [(0, .ref (ad 0)), (1, .int x1), (2, .int x2), (3, .int x3)] [] v (f_X8_agreement_11b K0 L x1 x2 x3 v) := by
  unfold f_X8_agreement_11b
  refine tg_iload_n 3 C0 dX8_agreement_11 rfl rfl ?_
  refine tg_bipush (x := 60) C0 dX8_agreement_12 (by decide) ?_
  refine tg_icmp_ge 63 C0 dX8_agreement_14 (by decide) (fun _ => ?_) (fun _ => ?_)
  · refine tg_sub [1, 2] rfl ?_
    exact hK0 x1 x2 v
  · refine tg_iload_n 1 C0 dX8_agreement_17 rfl rfl ?_
    refine tg_aload_n 0 C0 dX8_agreement_18 rfl rfl ?_
    refine tg_iload_n 3 C0 dX8_agreement_19 rfl rfl ?_
    refine tg_callVi (As := [.int x3]) 0 1 C0 dX8_agreement_20 (c_X8_hasKey l x3 v) rfl rfl (by decide) rfl rfl (tm_gV tl_X8_291 ti_X8_hasKey ts_X8_hasKey tn_X8 tc_X8_hasKey)  rfl rfl rfl rfl (by decide +kernel) ⟨by decide, by decide⟩ (Nat.le_of_ble_eq_true rfl) ⟨by decide, by decide⟩ (fun r3 v2 _ => ?_)
    refine tg_if_eq 30 C0 dX8_agreement_23 (by decide) (fun _ => ?_) (fun _ => ?_)
    · refine tg_iconst (x := 0) C0 dX8_agreement_30 (by decide) ?_
      refine tg_sub [0, 2, 3] rfl ?_
      exact w_X8_agreement_31 C0 hK0 hL x2 x3 0 x1 v2
    · refine tg_iconst (x := 1) C0 dX8_agreement_26 (by decide) ?_
      refine tg_goto 31 C0 dX8_agreement_27 (by decide) ?_
      refine tg_sub [0, 2, 3] rfl ?_
      exact w_X8_agreement_31 C0 hK0 hL x2 x3 1 x1 v2
def f_X8_agreement_11 (K0 : Int32 → Int32 → tmM → Option (UInt32 × tmM)) : Nat → Int32 → Int32 → Int32 → tmM → Option (UInt32 × tmM)
  | 0 => fun _ _ _ _ => none
  | n + 1 => f_X8_agreement_11b K0 (f_X8_agreement_11 K0 n)
theorem w_X8_agreement_11 {p : Program} {l : Launch} {e : Env} {s : State} {m : MethodId} {args : Array Value} {below : List Frame} {meth : Method} {c : Code} {D : va_G} {cy : Nat → ClassId} {ad : Nat → Nat} {A : Nat → Prop} {z : (UInt32 × tmM)} {K0 : Int32 → Int32 → tmM → Option (UInt32 × tmM)} (C0 : tmC p s m args meth c cX8_agreement 4 (some .float) RX8 TMW tm_NWR D cy tm_shR ad 13 [] A) (hK0 : ∀ (a1 a2 : Int32) (w : tmM), tmG p l e ({ frames := 4, cells := 0, slots := 0, locals := 88 } : Room) s m args below meth c 0 0 (MQ below (va_Qf (fun r u => z = (r, u)) (tmAt tm_shR 13 D cy ad A) A) args s 0 0 A) 4 D cy tm_shR ad 13 [] A z 63 [(1, .int a1), (2, .int a2)] [] w (K0 a1 a2 w)) (nn : Nat) : ∀ (x1 x2 x3 : Int32) (v : tmM), tmG p l e ({ frames := 4, cells := 0, slots := 0, locals := 88 } : Room) s m args below meth c 0 0 (MQ below (va_Qf (fun r u => z = (r, u)) (tmAt tm_shR 13 D cy ad A) A) args s 0 0 A) 4 D cy tm_shR ad 13 [] A z 11 [(0, .ref (ad 0)), (1, .int x1), (2, .int x2), (3, .int x3)] [] v (f_X8_agreement_11 K0 nn x1 x2 x3 v) := by
  induction nn with
  | zero => intro _ _ _ _; exact tg_none
  | succ n ih => intro x1 x2 x3 v; exact w_X8_agreement_11b C0 hK0 ih x1 x2 x3 v
def f_X8_agreement (v : tmM) : Option (UInt32 × tmM) := tm_lt (tm_up v 0 0 0) fun v1 => f_X8_agreement_11 (fun x10 x11 v12 => (if x10 = 0 then some (FP.fconst1, v12) else tm_g (tm_n32 (FP.fdiv (FP.i2f x11) (FP.i2f x10))) (some (FP.fdiv (FP.i2f x11) (FP.i2f x10), v12)))) 10000 0 0 0 v1
set_option maxRecDepth 100000 in
set_option maxHeartbeats 4000000 in
theorem w_X8_agreement {p : Program} {l : Launch} {e : Env} {s : State} {m : MethodId} {args : Array Value} {below : List Frame} {meth : Method} {c : Code} {D : va_G} {cy : Nat → ClassId} {ad : Nat → Nat} {A : Nat → Prop} {z : (UInt32 × tmM)} (C0 : tmC p s m args meth c cX8_agreement 4 (some .float) RX8 TMW tm_NWR D cy tm_shR ad 13 [] A) (v : tmM) : tmG p l e ({ frames := 4, cells := 0, slots := 0, locals := 88 } : Room) s m args below meth c 0 0 (MQ below (va_Qf (fun r u => z = (r, u)) (tmAt tm_shR 13 D cy ad A) A) args s 0 0 A) 4 D cy tm_shR ad 13 [] A z 0 [(0, .ref (ad 0))] [] v (f_X8_agreement v) := by
  unfold f_X8_agreement
  refine tg_aload_n 0 C0 dX8_agreement_0 rfl rfl ?_
  refine tg_iconst (x := 0) C0 dX8_agreement_1 (by decide) ?_
  refine tg_put 0 0 C0 dX8_agreement_2 (by decide) rfl rfl tu_X8 tyX8_ok nmX8 (by decide) tf_X8_56 rfl rfl rfl rfl rfl rfl ?_
  refine tg_letm (fun v1 _ => ?_)
  refine tg_iconst (x := 0) C0 dX8_agreement_5 (by decide) ?_
  refine tg_istore_n [(1, .int 0), (0, .ref (ad 0))] C0 dX8_agreement_6 rfl (by decide) rfl ?_
  refine tg_iconst (x := 0) C0 dX8_agreement_7 (by decide) ?_
  refine tg_istore_n [(2, .int 0), (1, .int 0), (0, .ref (ad 0))] C0 dX8_agreement_8 rfl (by decide) rfl ?_
  refine tg_iconst (x := 0) C0 dX8_agreement_9 (by decide) ?_
  refine tg_istore_n [(3, .int 0), (2, .int 0), (1, .int 0), (0, .ref (ad 0))] C0 dX8_agreement_10 rfl (by decide) rfl ?_
  refine tg_sub [3, 2, 1, 0] rfl ?_
  refine w_X8_agreement_11 C0 (fun x10 x11 v12 => ?_) 10000 0 0 0 v1
  refine tg_iload_n 0 C0 dX8_agreement_63 rfl rfl ?_
  refine tg_if_ne 71 C0 dX8_agreement_64 (by decide) (fun _ => ?_) (fun _ => ?_)
  · refine tg_iload_n 1 C0 dX8_agreement_71 rfl rfl ?_
    refine tg_i2f C0 dX8_agreement_72 ?_
    refine tg_iload_n 0 C0 dX8_agreement_73 rfl rfl ?_
    refine tg_i2f C0 dX8_agreement_74 ?_
    refine tg_fdiv C0 dX8_agreement_75 ?_
    exact tg_fret C0 dX8_agreement_76
  · refine tg_fconst1 C0 dX8_agreement_67 ?_
    refine tg_goto 76 C0 dX8_agreement_68 (by decide) ?_
    exact tg_fret C0 dX8_agreement_76
theorem c_X8_agreement (l : Launch) (v : tmM) : tmMf tm_NWR tm_shR 13 l yX8_agreement (Cond.code yX8_agreement cX8_agreement 4 (some .float) :: TMW) ({ frames := 4, cells := 0, slots := 0, locals := 88 } : Room) (fun ad => [.ref (ad 0)]) v (f_X8_agreement v) :=
  tmMf.of (cc := cX8_agreement) (nL := 4) (by decide +kernel) rfl tm_NWR_ok (fun _ => Nat.le_of_ble_eq_true rfl) (fun p e s m args below meth c A D cy ad z C0 => w_X8_agreement C0 v)
