-- ----- X2_placeOf
theorem dX2_placeOf_0 : decode cX2_placeOf 0 = .ok (.iconst 0, 1) := by decide +kernel
theorem dX2_placeOf_1 : decode cX2_placeOf 1 = .ok (.istore_n 2, 1) := by decide +kernel
theorem dX2_placeOf_2 : decode cX2_placeOf 2 = .ok (.iload_n 2, 1) := by decide +kernel
theorem dX2_placeOf_3 : decode cX2_placeOf 3 = .ok (.aload_n 0, 1) := by decide +kernel
theorem dX2_placeOf_4 : decode cX2_placeOf 4 = .ok (.getfield 15, 3) := by decide +kernel
theorem dX2_placeOf_7 : decode cX2_placeOf 7 = .ok (.if_icmp .ge 21, 3) := by decide +kernel
theorem dX2_placeOf_10 : decode cX2_placeOf 10 = .ok (.aload_n 0, 1) := by decide +kernel
theorem dX2_placeOf_11 : decode cX2_placeOf 11 = .ok (.getfield 9, 3) := by decide +kernel
theorem dX2_placeOf_14 : decode cX2_placeOf 14 = .ok (.iload_n 2, 1) := by decide +kernel
theorem dX2_placeOf_15 : decode cX2_placeOf 15 = .ok (.iaload, 1) := by decide +kernel
theorem dX2_placeOf_16 : decode cX2_placeOf 16 = .ok (.iload_n 1, 1) := by decide +kernel
theorem dX2_placeOf_17 : decode cX2_placeOf 17 = .ok (.if_icmp .ne 5, 3) := by decide +kernel
theorem dX2_placeOf_20 : decode cX2_placeOf 20 = .ok (.iload_n 2, 1) := by decide +kernel
theorem dX2_placeOf_21 : decode cX2_placeOf 21 = .ok (.ireturn, 1) := by decide +kernel
theorem dX2_placeOf_22 : decode cX2_placeOf 22 = .ok (.iinc 2 1, 3) := by decide +kernel
theorem dX2_placeOf_25 : decode cX2_placeOf 25 = .ok (.goto (-23), 3) := by decide +kernel
theorem dX2_placeOf_28 : decode cX2_placeOf 28 = .ok (.iconst (-1), 1) := by decide +kernel
theorem dX2_placeOf_29 : decode cX2_placeOf 29 = .ok (.ireturn, 1) := by decide +kernel
theorem tf_X2_15 : Cond.fieldLink RX2 15 "TableMove$Queue" (TX2 1).2.1 (TX2 1).2.2.1 ∈ TMW := tm_in 186 (by decide +kernel) (by decide +kernel)
theorem tu_X2 : ∀ w ∈ u_ws RX2 TX2 2, w ∈ TMW := tm_us [189, 191] (by decide +kernel) (by decide +kernel)
theorem tf_X2_9 : Cond.fieldLink RX2 9 "TableMove$Queue" (TX2 0).2.1 (TX2 0).2.2.1 ∈ TMW := tm_in 183 (by decide +kernel) (by decide +kernel)
def f_X2_placeOf_2b (K0 : tmM → Option (Int32 × tmM)) (L : Int32 → Int32 → tmM → Option (Int32 × tmM)) (x1 x2 : Int32) (v : tmM) : Option (Int32 × tmM) := (if (v 8 1) ≤ x2 then K0 v else tm_g (tm_ix x2 60) ((if (v 9 x2.toNatClampNeg) = x1 then some (x2, v) else L x1 (x2 + 1) v)))
set_option maxRecDepth 100000 in
set_option maxHeartbeats 4000000 in
theorem w_X2_placeOf_2b {p : Program} {l : Launch} {e : Env} {s : State} {m : MethodId} {args : Array Value} {below : List Frame} {meth : Method} {c : Code} {D : va_G} {cy : Nat → ClassId} {ad : Nat → Nat} {A : Nat → Prop} {z : (Int32 × tmM)} {K0 : tmM → Option (Int32 × tmM)} {L : Int32 → Int32 → tmM → Option (Int32 × tmM)} (C0 : tmC p s m args meth c cX2_placeOf 3 (some .int) RX2 TMW tm_NWC D cy tm_shC ad 256 [] A) (hK0 : ∀ (w : tmM), tmG p l e ({ frames := 0, cells := 0, slots := 0, locals := 0 } : Room) s m args below meth c 0 0 (MQ below (va_Qi (fun r u => z = (r, u)) (tmAt tm_shC 256 D cy ad A) A) args s 0 0 A) 3 D cy tm_shC ad 256 [] A z 28 [] [] w (K0 w)) (hL : ∀ (a1 a2 : Int32) (w : tmM), tmG p l e ({ frames := 0, cells := 0, slots := 0, locals := 0 } : Room) s m args below meth c 0 0 (MQ below (va_Qi (fun r u => z = (r, u)) (tmAt tm_shC 256 D cy ad A) A) args s 0 0 A) 3 D cy tm_shC ad 256 [] A z 2 [(0, .ref (ad 8)), (1, .int a1), (2, .int a2)] [] w (L a1 a2 w)) (x1 x2 : Int32) (v : tmM) : tmG p l e ({ frames := 0, cells := 0, slots := 0, locals := 0 } : Room) s m args below meth c 0 0 (MQ below (va_Qi (fun r u => z = (r, u)) (tmAt tm_shC 256 D cy ad A) A) args s 0 0 A) 3 D cy tm_shC ad 256 [] A z 2 [(0, .ref (ad 8)), (1, .int x1), (2, .int x2)] [] v (f_X2_placeOf_2b K0 L x1 x2 v) := by
  unfold f_X2_placeOf_2b
  refine tg_iload_n 2 C0 dX2_placeOf_2 rfl rfl ?_
  refine tg_aload_n 0 C0 dX2_placeOf_3 rfl rfl ?_
  refine tg_get 8 1 C0 dX2_placeOf_4 (by decide) rfl rfl tu_X2 (by decide) tf_X2_15 rfl rfl rfl ?_
  refine tg_icmp_ge 28 C0 dX2_placeOf_7 (by decide) (fun _ => ?_) (fun _ => ?_)
  · refine tg_sub [] rfl ?_
    exact hK0 v
  · refine tg_aload_n 0 C0 dX2_placeOf_10 rfl rfl ?_
    refine tg_get 8 0 C0 dX2_placeOf_11 (by decide) rfl rfl tu_X2 (by decide) tf_X2_9 rfl rfl rfl ?_
    refine tg_iload_n 2 C0 dX2_placeOf_14 rfl rfl ?_
    refine tg_iald 9 C0 dX2_placeOf_15 (by decide) rfl (fun _ => ?_)
    refine tg_iload_n 1 C0 dX2_placeOf_16 rfl rfl ?_
    refine tg_icmp_ne 22 C0 dX2_placeOf_17 (by decide) (fun _ => ?_) (fun _ => ?_)
    · refine tg_iinc [(2, .int (x2 + 1)), (0, .ref (ad 8)), (1, .int x1)] 2 C0 dX2_placeOf_22 rfl rfl (by decide) rfl ?_
      refine tg_goto 2 C0 dX2_placeOf_25 (by decide) ?_
      refine tg_sub [1, 2, 0] rfl ?_
      exact hL x1 (x2 + 1) v
    · refine tg_iload_n 2 C0 dX2_placeOf_20 rfl rfl ?_
      exact tg_iret C0 dX2_placeOf_21
def f_X2_placeOf_2 (K0 : tmM → Option (Int32 × tmM)) : Nat → Int32 → Int32 → tmM → Option (Int32 × tmM)
  | 0 => fun _ _ _ => none
  | n + 1 => f_X2_placeOf_2b K0 (f_X2_placeOf_2 K0 n)
theorem w_X2_placeOf_2 {p : Program} {l : Launch} {e : Env} {s : State} {m : MethodId} {args : Array Value} {below : List Frame} {meth : Method} {c : Code} {D : va_G} {cy : Nat → ClassId} {ad : Nat → Nat} {A : Nat → Prop} {z : (Int32 × tmM)} {K0 : tmM → Option (Int32 × tmM)} (C0 : tmC p s m args meth c cX2_placeOf 3 (some .int) RX2 TMW tm_NWC D cy tm_shC ad 256 [] A) (hK0 : ∀ (w : tmM), tmG p l e ({ frames := 0, cells := 0, slots := 0, locals := 0 } : Room) s m args below meth c 0 0 (MQ below (va_Qi (fun r u => z = (r, u)) (tmAt tm_shC 256 D cy ad A) A) args s 0 0 A) 3 D cy tm_shC ad 256 [] A z 28 [] [] w (K0 w)) (nn : Nat) : ∀ (x1 x2 : Int32) (v : tmM), tmG p l e ({ frames := 0, cells := 0, slots := 0, locals := 0 } : Room) s m args below meth c 0 0 (MQ below (va_Qi (fun r u => z = (r, u)) (tmAt tm_shC 256 D cy ad A) A) args s 0 0 A) 3 D cy tm_shC ad 256 [] A z 2 [(0, .ref (ad 8)), (1, .int x1), (2, .int x2)] [] v (f_X2_placeOf_2 K0 nn x1 x2 v) := by
  induction nn with
  | zero => intro _ _ _; exact tg_none
  | succ n ih => intro x1 x2 v; exact w_X2_placeOf_2b C0 hK0 ih x1 x2 v
def f_X2_placeOf (x1 : Int32) (v : tmM) : Option (Int32 × tmM) := f_X2_placeOf_2 (fun v1 => some ((-1), v1)) 10000 x1 0 v
set_option maxRecDepth 100000 in
set_option maxHeartbeats 4000000 in
theorem w_X2_placeOf {p : Program} {l : Launch} {e : Env} {s : State} {m : MethodId} {args : Array Value} {below : List Frame} {meth : Method} {c : Code} {D : va_G} {cy : Nat → ClassId} {ad : Nat → Nat} {A : Nat → Prop} {z : (Int32 × tmM)} (C0 : tmC p s m args meth c cX2_placeOf 3 (some .int) RX2 TMW tm_NWC D cy tm_shC ad 256 [] A) (x1 : Int32) (v : tmM) : tmG p l e ({ frames := 0, cells := 0, slots := 0, locals := 0 } : Room) s m args below meth c 0 0 (MQ below (va_Qi (fun r u => z = (r, u)) (tmAt tm_shC 256 D cy ad A) A) args s 0 0 A) 3 D cy tm_shC ad 256 [] A z 0 [(0, .ref (ad 8)), (1, .int x1)] [] v (f_X2_placeOf x1 v) := by
  unfold f_X2_placeOf
  refine tg_iconst (x := 0) C0 dX2_placeOf_0 (by decide) ?_
  refine tg_istore_n [(2, .int 0), (0, .ref (ad 8)), (1, .int x1)] C0 dX2_placeOf_1 rfl (by decide) rfl ?_
  refine tg_sub [1, 2, 0] rfl ?_
  refine w_X2_placeOf_2 C0 (fun v1 => ?_) 10000 x1 0 v
  refine tg_iconst (x := (-1)) C0 dX2_placeOf_28 (by decide) ?_
  exact tg_iret C0 dX2_placeOf_29
theorem c_X2_placeOf (l : Launch) (x1 : Int32) (v : tmM) : tmMi tm_NWC tm_shC 256 l yX2_placeOf (Cond.code yX2_placeOf cX2_placeOf 3 (some .int) :: TMW) ({ frames := 0, cells := 0, slots := 0, locals := 0 } : Room) (fun ad => [.ref (ad 8), .int x1]) v (f_X2_placeOf x1 v) :=
  tmMi.of (cc := cX2_placeOf) (nL := 3) (by decide +kernel) rfl tm_NWC_ok (fun _ => Nat.le_of_ble_eq_true rfl) (fun p e s m args below meth c A D cy ad z C0 => w_X2_placeOf C0 x1 v)
-- ----- X2_holds
theorem dX2_holds_0 : decode cX2_holds 0 = .ok (.aload_n 0, 1) := by decide +kernel
theorem dX2_holds_1 : decode cX2_holds 1 = .ok (.iload_n 1, 1) := by decide +kernel
theorem dX2_holds_2 : decode cX2_holds 2 = .ok (.invokevirtual 25, 3) := by decide +kernel
theorem dX2_holds_5 : decode cX2_holds 5 = .ok (.iconst (-1), 1) := by decide +kernel
theorem dX2_holds_6 : decode cX2_holds 6 = .ok (.if_icmp .eq 7, 3) := by decide +kernel
theorem dX2_holds_9 : decode cX2_holds 9 = .ok (.iconst 1, 1) := by decide +kernel
theorem dX2_holds_10 : decode cX2_holds 10 = .ok (.goto 4, 3) := by decide +kernel
theorem dX2_holds_13 : decode cX2_holds 13 = .ok (.iconst 0, 1) := by decide +kernel
theorem dX2_holds_14 : decode cX2_holds 14 = .ok (.ireturn, 1) := by decide +kernel
theorem tl_X2_25 : Cond.methodLink RX2 25 yX2_placeOf ∈ TMW := tm_in 563 (by decide +kernel) (by decide +kernel)
theorem ti_X2_placeOf : Cond.instanceMethod yX2_placeOf ∈ TMW := tm_in 565 (by decide +kernel) (by decide +kernel)
theorem ts_X2_placeOf : Cond.selects RX2 yX2_placeOf yX2_placeOf ∈ TMW := tm_in 12 (by decide +kernel) (by decide +kernel)
theorem tn_X2 : Cond.initialized RX2 ∈ TMW := tm_in 113 (by decide +kernel) (by decide +kernel)
theorem tc_X2_placeOf : Cond.code yX2_placeOf cX2_placeOf 3 (some .int) ∈ TMW := tm_in 566 (by decide +kernel) (by decide +kernel)
def f_X2_holds (x1 : Int32) (v : tmM) : Option (Int32 × tmM) := tm_cl (f_X2_placeOf x1 v) fun r2 v1 => (if r2 = (-1) then some (0, v1) else some (1, v1))
set_option maxRecDepth 100000 in
set_option maxHeartbeats 4000000 in
theorem w_X2_holds {p : Program} {l : Launch} {e : Env} {s : State} {m : MethodId} {args : Array Value} {below : List Frame} {meth : Method} {c : Code} {D : va_G} {cy : Nat → ClassId} {ad : Nat → Nat} {A : Nat → Prop} {z : (Int32 × tmM)} (C0 : tmC p s m args meth c cX2_holds 2 (some .boolean) RX2 TMW tm_NWC D cy tm_shC ad 256 [] A) (x1 : Int32) (v : tmM) : tmG p l e ({ frames := 1, cells := 0, slots := 0, locals := 22 } : Room) s m args below meth c 0 0 (MQ below (va_Qi (fun r u => z = (r, u)) (tmAt tm_shC 256 D cy ad A) A) args s 0 0 A) 2 D cy tm_shC ad 256 [] A z 0 [(0, .ref (ad 8)), (1, .int x1)] [] v (f_X2_holds x1 v) := by
  unfold f_X2_holds
  refine tg_aload_n 0 C0 dX2_holds_0 rfl rfl ?_
  refine tg_iload_n 1 C0 dX2_holds_1 rfl rfl ?_
  refine tg_callVi (As := [.int x1]) 8 1 C0 dX2_holds_2 (c_X2_placeOf l x1 v) rfl rfl (by decide) rfl rfl (tm_gV tl_X2_25 ti_X2_placeOf ts_X2_placeOf tn_X2 tc_X2_placeOf)  rfl rfl rfl rfl (by decide +kernel) ⟨by decide, by decide⟩ (Nat.le_of_ble_eq_true rfl) ⟨by decide, by decide⟩ (fun r2 v1 _ => ?_)
  refine tg_iconst (x := (-1)) C0 dX2_holds_5 (by decide) ?_
  refine tg_icmp_eq 13 C0 dX2_holds_6 (by decide) (fun _ => ?_) (fun _ => ?_)
  · refine tg_iconst (x := 0) C0 dX2_holds_13 (by decide) ?_
    exact tg_zret C0 dX2_holds_14 rfl
  · refine tg_iconst (x := 1) C0 dX2_holds_9 (by decide) ?_
    refine tg_goto 14 C0 dX2_holds_10 (by decide) ?_
    exact tg_zret C0 dX2_holds_14 rfl
theorem c_X2_holds (l : Launch) (x1 : Int32) (v : tmM) : tmMi tm_NWC tm_shC 256 l yX2_holds (Cond.code yX2_holds cX2_holds 2 (some .boolean) :: TMW) ({ frames := 1, cells := 0, slots := 0, locals := 22 } : Room) (fun ad => [.ref (ad 8), .int x1]) v (f_X2_holds x1 v) :=
  tmMi.of (cc := cX2_holds) (nL := 2) (by decide +kernel) rfl tm_NWC_ok (fun _ => Nat.le_of_ble_eq_true rfl) (fun p e s m args below meth c A D cy ad z C0 => w_X2_holds C0 x1 v)
-- ----- X2_drop
theorem dX2_drop_0 : decode cX2_drop 0 = .ok (.aload_n 0, 1) := by decide +kernel
theorem dX2_drop_1 : decode cX2_drop 1 = .ok (.iload_n 1, 1) := by decide +kernel
theorem dX2_drop_2 : decode cX2_drop 2 = .ok (.invokevirtual 25, 3) := by decide +kernel
theorem dX2_drop_5 : decode cX2_drop 5 = .ok (.istore_n 2, 1) := by decide +kernel
theorem dX2_drop_6 : decode cX2_drop 6 = .ok (.iload_n 2, 1) := by decide +kernel
theorem dX2_drop_7 : decode cX2_drop 7 = .ok (.iconst (-1), 1) := by decide +kernel
theorem dX2_drop_8 : decode cX2_drop 8 = .ok (.if_icmp .eq 34, 3) := by decide +kernel
theorem dX2_drop_11 : decode cX2_drop 11 = .ok (.aload_n 0, 1) := by decide +kernel
theorem dX2_drop_12 : decode cX2_drop 12 = .ok (.dup, 1) := by decide +kernel
theorem dX2_drop_13 : decode cX2_drop 13 = .ok (.getfield 15, 3) := by decide +kernel
theorem dX2_drop_16 : decode cX2_drop 16 = .ok (.iconst 1, 1) := by decide +kernel
theorem dX2_drop_17 : decode cX2_drop 17 = .ok (.isub, 1) := by decide +kernel
theorem dX2_drop_18 : decode cX2_drop 18 = .ok (.putfield 15, 3) := by decide +kernel
theorem dX2_drop_21 : decode cX2_drop 21 = .ok (.aload_n 0, 1) := by decide +kernel
theorem dX2_drop_22 : decode cX2_drop 22 = .ok (.getfield 9, 3) := by decide +kernel
theorem dX2_drop_25 : decode cX2_drop 25 = .ok (.iload_n 2, 1) := by decide +kernel
theorem dX2_drop_26 : decode cX2_drop 26 = .ok (.iconst 1, 1) := by decide +kernel
theorem dX2_drop_27 : decode cX2_drop 27 = .ok (.iadd, 1) := by decide +kernel
theorem dX2_drop_28 : decode cX2_drop 28 = .ok (.aload_n 0, 1) := by decide +kernel
theorem dX2_drop_29 : decode cX2_drop 29 = .ok (.getfield 9, 3) := by decide +kernel
theorem dX2_drop_32 : decode cX2_drop 32 = .ok (.iload_n 2, 1) := by decide +kernel
theorem dX2_drop_33 : decode cX2_drop 33 = .ok (.aload_n 0, 1) := by decide +kernel
theorem dX2_drop_34 : decode cX2_drop 34 = .ok (.getfield 15, 3) := by decide +kernel
theorem dX2_drop_37 : decode cX2_drop 37 = .ok (.iload_n 2, 1) := by decide +kernel
theorem dX2_drop_38 : decode cX2_drop 38 = .ok (.isub, 1) := by decide +kernel
theorem dX2_drop_39 : decode cX2_drop 39 = .ok (.invokestatic 19, 3) := by decide +kernel
theorem dX2_drop_42 : decode cX2_drop 42 = .ok (.return_, 1) := by decide +kernel
theorem tl_X2_19 : Cond.methodLink RX2 19 arraycopyName ∈ TMW := tm_in 515 (by decide +kernel) (by decide +kernel)
theorem tnat : Cond.native arraycopyName ∈ TMW := tm_in 510 (by decide +kernel) (by decide +kernel)
theorem tsta : Cond.static arraycopyName ∈ TMW := tm_in 509 (by decide +kernel) (by decide +kernel)
theorem tsys : Cond.initialized "java/lang/System" ∈ TMW := tm_in 130 (by decide +kernel) (by decide +kernel)
def f_X2_drop (x1 : Int32) (v : tmM) : Option (Unit × tmM) := tm_cl (f_X2_placeOf x1 v) fun r2 v1 => (if r2 = (-1) then some ((), v1) else tm_lt (tm_up v1 8 1 ((v1 8 1) - 1)) fun v3 => tm_g (tm_cok (r2 + 1) r2 ((v3 8 1) - r2) 60 60) (tm_lt (tm_set v3 9 (va_cpy (v3 9) (v3 9) (r2 + 1).toNatClampNeg r2.toNatClampNeg ((v3 8 1) - r2).toNatClampNeg)) fun v4 => some ((), v4)))
set_option maxRecDepth 100000 in
set_option maxHeartbeats 4000000 in
theorem w_X2_drop {p : Program} {l : Launch} {e : Env} {s : State} {m : MethodId} {args : Array Value} {below : List Frame} {meth : Method} {c : Code} {D : va_G} {cy : Nat → ClassId} {ad : Nat → Nat} {A : Nat → Prop} {z : (Unit × tmM)} (C0 : tmC p s m args meth c cX2_drop 3 none RX2 TMW tm_NWC D cy tm_shC ad 256 [] A) (x1 : Int32) (v : tmM) : tmG p l e ({ frames := 1, cells := 0, slots := 0, locals := 40 } : Room) s m args below meth c 0 0 (MQ below (va_Qv (fun u => z = ((), u)) (tmAt tm_shC 256 D cy ad A) A) args s 0 0 A) 3 D cy tm_shC ad 256 [] A z 0 [(0, .ref (ad 8)), (1, .int x1)] [] v (f_X2_drop x1 v) := by
  unfold f_X2_drop
  refine tg_aload_n 0 C0 dX2_drop_0 rfl rfl ?_
  refine tg_iload_n 1 C0 dX2_drop_1 rfl rfl ?_
  refine tg_callVi (As := [.int x1]) 8 1 C0 dX2_drop_2 (c_X2_placeOf l x1 v) rfl rfl (by decide) rfl rfl (tm_gV tl_X2_25 ti_X2_placeOf ts_X2_placeOf tn_X2 tc_X2_placeOf)  rfl rfl rfl rfl (by decide +kernel) ⟨by decide, by decide⟩ (Nat.le_of_ble_eq_true rfl) ⟨by decide, by decide⟩ (fun r2 v1 _ => ?_)
  refine tg_istore_n [(2, .int r2), (0, .ref (ad 8)), (1, .int x1)] C0 dX2_drop_5 rfl (by decide) rfl ?_
  refine tg_iload_n 0 C0 dX2_drop_6 rfl rfl ?_
  refine tg_iconst (x := (-1)) C0 dX2_drop_7 (by decide) ?_
  refine tg_icmp_eq 42 C0 dX2_drop_8 (by decide) (fun _ => ?_) (fun _ => ?_)
  · exact tg_vret C0 dX2_drop_42
  · refine tg_aload_n 1 C0 dX2_drop_11 rfl rfl ?_
    refine tg_dup C0 dX2_drop_12 rfl ?_
    refine tg_get 8 1 C0 dX2_drop_13 (by decide) rfl rfl tu_X2 (by decide) tf_X2_15 rfl rfl rfl ?_
    refine tg_iconst (x := 1) C0 dX2_drop_16 (by decide) ?_
    refine tg_isub C0 dX2_drop_17 ?_
    refine tg_put 8 1 C0 dX2_drop_18 (by decide) rfl rfl tu_X2 tyX2_ok nmX2 (by decide) tf_X2_15 rfl rfl rfl rfl rfl rfl ?_
    refine tg_letm (fun v3 _ => ?_)
    refine tg_aload_n 1 C0 dX2_drop_21 rfl rfl ?_
    refine tg_get 8 0 C0 dX2_drop_22 (by decide) rfl rfl tu_X2 (by decide) tf_X2_9 rfl rfl rfl ?_
    refine tg_iload_n 0 C0 dX2_drop_25 rfl rfl ?_
    refine tg_iconst (x := 1) C0 dX2_drop_26 (by decide) ?_
    refine tg_iadd C0 dX2_drop_27 ?_
    refine tg_aload_n 1 C0 dX2_drop_28 rfl rfl ?_
    refine tg_get 8 0 C0 dX2_drop_29 (by decide) rfl rfl tu_X2 (by decide) tf_X2_9 rfl rfl rfl ?_
    refine tg_iload_n 0 C0 dX2_drop_32 rfl rfl ?_
    refine tg_aload_n 1 C0 dX2_drop_33 rfl rfl ?_
    refine tg_get 8 1 C0 dX2_drop_34 (by decide) rfl rfl tu_X2 (by decide) tf_X2_15 rfl rfl rfl ?_
    refine tg_iload_n 0 C0 dX2_drop_37 rfl rfl ?_
    refine tg_isub C0 dX2_drop_38 ?_
    refine tg_copy 9 9 C0 dX2_drop_39 (by decide) (by decide) rfl rfl tl_X2_19 tnat tsta tsys (by decide) (Nat.le_of_ble_eq_true rfl) ?_
    refine tg_letm (fun v4 _ => ?_)
    exact tg_vret C0 dX2_drop_42
theorem c_X2_drop (l : Launch) (x1 : Int32) (v : tmM) : tmMv tm_NWC tm_shC 256 l yX2_drop (Cond.code yX2_drop cX2_drop 3 none :: TMW) ({ frames := 1, cells := 0, slots := 0, locals := 40 } : Room) (fun ad => [.ref (ad 8), .int x1]) v (f_X2_drop x1 v) :=
  tmMv.of (cc := cX2_drop) (nL := 3) (by decide +kernel) rfl tm_NWC_ok (fun _ => Nat.le_of_ble_eq_true rfl) (fun p e s m args below meth c A D cy ad z C0 => w_X2_drop C0 x1 v)
-- ----- X2_heldOf
theorem dX2_heldOf_0 : decode cX2_heldOf 0 = .ok (.iconst 0, 1) := by decide +kernel
theorem dX2_heldOf_1 : decode cX2_heldOf 1 = .ok (.istore_n 2, 1) := by decide +kernel
theorem dX2_heldOf_2 : decode cX2_heldOf 2 = .ok (.iconst 0, 1) := by decide +kernel
theorem dX2_heldOf_3 : decode cX2_heldOf 3 = .ok (.istore_n 3, 1) := by decide +kernel
theorem dX2_heldOf_4 : decode cX2_heldOf 4 = .ok (.iload_n 3, 1) := by decide +kernel
theorem dX2_heldOf_5 : decode cX2_heldOf 5 = .ok (.aload_n 0, 1) := by decide +kernel
theorem dX2_heldOf_6 : decode cX2_heldOf 6 = .ok (.getfield 15, 3) := by decide +kernel
theorem dX2_heldOf_9 : decode cX2_heldOf 9 = .ok (.if_icmp .ge 29, 3) := by decide +kernel
theorem dX2_heldOf_12 : decode cX2_heldOf 12 = .ok (.iload_n 2, 1) := by decide +kernel
theorem dX2_heldOf_13 : decode cX2_heldOf 13 = .ok (.aload_n 0, 1) := by decide +kernel
theorem dX2_heldOf_14 : decode cX2_heldOf 14 = .ok (.getfield 9, 3) := by decide +kernel
theorem dX2_heldOf_17 : decode cX2_heldOf 17 = .ok (.iload_n 3, 1) := by decide +kernel
theorem dX2_heldOf_18 : decode cX2_heldOf 18 = .ok (.iaload, 1) := by decide +kernel
theorem dX2_heldOf_19 : decode cX2_heldOf 19 = .ok (.iconst 4, 1) := by decide +kernel
theorem dX2_heldOf_20 : decode cX2_heldOf 20 = .ok (.idiv, 1) := by decide +kernel
theorem dX2_heldOf_21 : decode cX2_heldOf 21 = .ok (.iload_n 1, 1) := by decide +kernel
theorem dX2_heldOf_22 : decode cX2_heldOf 22 = .ok (.if_icmp .ne 7, 3) := by decide +kernel
theorem dX2_heldOf_25 : decode cX2_heldOf 25 = .ok (.iconst 1, 1) := by decide +kernel
theorem dX2_heldOf_26 : decode cX2_heldOf 26 = .ok (.goto 4, 3) := by decide +kernel
theorem dX2_heldOf_29 : decode cX2_heldOf 29 = .ok (.iconst 0, 1) := by decide +kernel
theorem dX2_heldOf_30 : decode cX2_heldOf 30 = .ok (.iadd, 1) := by decide +kernel
theorem dX2_heldOf_31 : decode cX2_heldOf 31 = .ok (.istore_n 2, 1) := by decide +kernel
theorem dX2_heldOf_32 : decode cX2_heldOf 32 = .ok (.iinc 3 1, 3) := by decide +kernel
theorem dX2_heldOf_35 : decode cX2_heldOf 35 = .ok (.goto (-31), 3) := by decide +kernel
theorem dX2_heldOf_38 : decode cX2_heldOf 38 = .ok (.iload_n 2, 1) := by decide +kernel
theorem dX2_heldOf_39 : decode cX2_heldOf 39 = .ok (.ireturn, 1) := by decide +kernel
def f_X2_heldOf_30 (K0 : Int32 → tmM → Option (Int32 × tmM)) (L : Int32 → Int32 → Int32 → tmM → Option (Int32 × tmM)) (x1 x3 s0 s1 : Int32) (v : tmM) : Option (Int32 × tmM) := tm_lt (s1 + s0) fun y1 => L x1 y1 (x3 + 1) v
set_option maxRecDepth 100000 in
set_option maxHeartbeats 4000000 in
theorem w_X2_heldOf_30 {p : Program} {l : Launch} {e : Env} {s : State} {m : MethodId} {args : Array Value} {below : List Frame} {meth : Method} {c : Code} {D : va_G} {cy : Nat → ClassId} {ad : Nat → Nat} {A : Nat → Prop} {z : (Int32 × tmM)} {K0 : Int32 → tmM → Option (Int32 × tmM)} {L : Int32 → Int32 → Int32 → tmM → Option (Int32 × tmM)} (C0 : tmC p s m args meth c cX2_heldOf 4 (some .int) RX2 TMW tm_NWC D cy tm_shC ad 256 [] A) (hK0 : ∀ (a2 : Int32) (w : tmM), tmG p l e ({ frames := 0, cells := 0, slots := 0, locals := 0 } : Room) s m args below meth c 0 0 (MQ below (va_Qi (fun r u => z = (r, u)) (tmAt tm_shC 256 D cy ad A) A) args s 0 0 A) 4 D cy tm_shC ad 256 [] A z 38 [(2, .int a2)] [] w (K0 a2 w)) (hL : ∀ (a1 a2 a3 : Int32) (w : tmM), tmG p l e ({ frames := 0, cells := 0, slots := 0, locals := 0 } : Room) s m args below meth c 0 0 (MQ below (va_Qi (fun r u => z = (r, u)) (tmAt tm_shC 256 D cy ad A) A) args s 0 0 A) 4 D cy tm_shC ad 256 [] A z 4 [(0, .ref (ad 8)), (1, .int a1), (2, .int a2), (3, .int a3)] [] w (L a1 a2 a3 w)) (x1 x3 s0 s1 : Int32) (v : tmM) : tmG p l e ({ frames := 0, cells := 0, slots := 0, locals := 0 } : Room) s m args below meth c 0 0 (MQ below (va_Qi (fun r u => z = (r, u)) (tmAt tm_shC 256 D cy ad A) A) args s 0 0 A) 4 D cy tm_shC ad 256 [] A z 30 [(0, .ref (ad 8)), (1, .int x1), (3, .int x3)] [.int s0, .int s1] v (f_X2_heldOf_30 K0 L x1 x3 s0 s1 v) := by
  unfold f_X2_heldOf_30
  refine tg_iadd C0 dX2_heldOf_30 ?_
  refine tg_leti (fun y1 _ => ?_)
  refine tg_istore_n [(2, .int y1), (0, .ref (ad 8)), (1, .int x1), (3, .int x3)] C0 dX2_heldOf_31 rfl (by decide) rfl ?_
  refine tg_iinc [(3, .int (x3 + 1)), (2, .int y1), (0, .ref (ad 8)), (1, .int x1)] 3 C0 dX2_heldOf_32 rfl rfl (by decide) rfl ?_
  refine tg_goto 4 C0 dX2_heldOf_35 (by decide) ?_
  refine tg_sub [2, 3, 1, 0] rfl ?_
  exact hL x1 y1 (x3 + 1) v
def f_X2_heldOf_4b (K0 : Int32 → tmM → Option (Int32 × tmM)) (L : Int32 → Int32 → Int32 → tmM → Option (Int32 × tmM)) (x1 x2 x3 : Int32) (v : tmM) : Option (Int32 × tmM) := (if (v 8 1) ≤ x3 then K0 x2 v else tm_g (tm_ix x3 60) (tm_g (decide (¬ 4 = 0)) ((if ((v 9 x3.toNatClampNeg) / 4) = x1 then f_X2_heldOf_30 K0 L x1 x3 1 x2 v else f_X2_heldOf_30 K0 L x1 x3 0 x2 v))))
set_option maxRecDepth 100000 in
set_option maxHeartbeats 4000000 in
theorem w_X2_heldOf_4b {p : Program} {l : Launch} {e : Env} {s : State} {m : MethodId} {args : Array Value} {below : List Frame} {meth : Method} {c : Code} {D : va_G} {cy : Nat → ClassId} {ad : Nat → Nat} {A : Nat → Prop} {z : (Int32 × tmM)} {K0 : Int32 → tmM → Option (Int32 × tmM)} {L : Int32 → Int32 → Int32 → tmM → Option (Int32 × tmM)} (C0 : tmC p s m args meth c cX2_heldOf 4 (some .int) RX2 TMW tm_NWC D cy tm_shC ad 256 [] A) (hK0 : ∀ (a2 : Int32) (w : tmM), tmG p l e ({ frames := 0, cells := 0, slots := 0, locals := 0 } : Room) s m args below meth c 0 0 (MQ below (va_Qi (fun r u => z = (r, u)) (tmAt tm_shC 256 D cy ad A) A) args s 0 0 A) 4 D cy tm_shC ad 256 [] A z 38 [(2, .int a2)] [] w (K0 a2 w)) (hL : ∀ (a1 a2 a3 : Int32) (w : tmM), tmG p l e ({ frames := 0, cells := 0, slots := 0, locals := 0 } : Room) s m args below meth c 0 0 (MQ below (va_Qi (fun r u => z = (r, u)) (tmAt tm_shC 256 D cy ad A) A) args s 0 0 A) 4 D cy tm_shC ad 256 [] A z 4 [(0, .ref (ad 8)), (1, .int a1), (2, .int a2), (3, .int a3)] [] w (L a1 a2 a3 w)) (x1 x2 x3 : Int32) (v : tmM) : tmG p l e ({ frames := 0, cells := 0, slots := 0, locals := 0 } : Room) s m args below meth c 0 0 (MQ below (va_Qi (fun r u => z = (r, u)) (tmAt tm_shC 256 D cy ad A) A) args s 0 0 A) 4 D cy tm_shC ad 256 [] A z 4 [(0, .ref (ad 8)), (1, .int x1), (2, .int x2), (3, .int x3)] [] v (f_X2_heldOf_4b K0 L x1 x2 x3 v) := by
  unfold f_X2_heldOf_4b
  refine tg_iload_n 3 C0 dX2_heldOf_4 rfl rfl ?_
  refine tg_aload_n 0 C0 dX2_heldOf_5 rfl rfl ?_
  refine tg_get 8 1 C0 dX2_heldOf_6 (by decide) rfl rfl tu_X2 (by decide) tf_X2_15 rfl rfl rfl ?_
  refine tg_icmp_ge 38 C0 dX2_heldOf_9 (by decide) (fun _ => ?_) (fun _ => ?_)
  · refine tg_sub [2] rfl ?_
    exact hK0 x2 v
  · refine tg_iload_n 2 C0 dX2_heldOf_12 rfl rfl ?_
    refine tg_aload_n 0 C0 dX2_heldOf_13 rfl rfl ?_
    refine tg_get 8 0 C0 dX2_heldOf_14 (by decide) rfl rfl tu_X2 (by decide) tf_X2_9 rfl rfl rfl ?_
    refine tg_iload_n 3 C0 dX2_heldOf_17 rfl rfl ?_
    refine tg_iald 9 C0 dX2_heldOf_18 (by decide) rfl (fun _ => ?_)
    refine tg_iconst (x := 4) C0 dX2_heldOf_19 (by decide) ?_
    refine tg_idiv C0 dX2_heldOf_20 (fun _ => ?_)
    refine tg_iload_n 1 C0 dX2_heldOf_21 rfl rfl ?_
    refine tg_icmp_ne 29 C0 dX2_heldOf_22 (by decide) (fun _ => ?_) (fun _ => ?_)
    · refine tg_iconst (x := 0) C0 dX2_heldOf_29 (by decide) ?_
      refine tg_sub [0, 1, 3] rfl ?_
      exact w_X2_heldOf_30 C0 hK0 hL x1 x3 0 x2 v
    · refine tg_iconst (x := 1) C0 dX2_heldOf_25 (by decide) ?_
      refine tg_goto 30 C0 dX2_heldOf_26 (by decide) ?_
      refine tg_sub [0, 1, 3] rfl ?_
      exact w_X2_heldOf_30 C0 hK0 hL x1 x3 1 x2 v
def f_X2_heldOf_4 (K0 : Int32 → tmM → Option (Int32 × tmM)) : Nat → Int32 → Int32 → Int32 → tmM → Option (Int32 × tmM)
  | 0 => fun _ _ _ _ => none
  | n + 1 => f_X2_heldOf_4b K0 (f_X2_heldOf_4 K0 n)
theorem w_X2_heldOf_4 {p : Program} {l : Launch} {e : Env} {s : State} {m : MethodId} {args : Array Value} {below : List Frame} {meth : Method} {c : Code} {D : va_G} {cy : Nat → ClassId} {ad : Nat → Nat} {A : Nat → Prop} {z : (Int32 × tmM)} {K0 : Int32 → tmM → Option (Int32 × tmM)} (C0 : tmC p s m args meth c cX2_heldOf 4 (some .int) RX2 TMW tm_NWC D cy tm_shC ad 256 [] A) (hK0 : ∀ (a2 : Int32) (w : tmM), tmG p l e ({ frames := 0, cells := 0, slots := 0, locals := 0 } : Room) s m args below meth c 0 0 (MQ below (va_Qi (fun r u => z = (r, u)) (tmAt tm_shC 256 D cy ad A) A) args s 0 0 A) 4 D cy tm_shC ad 256 [] A z 38 [(2, .int a2)] [] w (K0 a2 w)) (nn : Nat) : ∀ (x1 x2 x3 : Int32) (v : tmM), tmG p l e ({ frames := 0, cells := 0, slots := 0, locals := 0 } : Room) s m args below meth c 0 0 (MQ below (va_Qi (fun r u => z = (r, u)) (tmAt tm_shC 256 D cy ad A) A) args s 0 0 A) 4 D cy tm_shC ad 256 [] A z 4 [(0, .ref (ad 8)), (1, .int x1), (2, .int x2), (3, .int x3)] [] v (f_X2_heldOf_4 K0 nn x1 x2 x3 v) := by
  induction nn with
  | zero => intro _ _ _ _; exact tg_none
  | succ n ih => intro x1 x2 x3 v; exact w_X2_heldOf_4b C0 hK0 ih x1 x2 x3 v
def f_X2_heldOf (x1 : Int32) (v : tmM) : Option (Int32 × tmM) := f_X2_heldOf_4 (fun x2 v3 => some (x2, v3)) 10000 x1 0 0 v
set_option maxRecDepth 100000 in
set_option maxHeartbeats 4000000 in
theorem w_X2_heldOf {p : Program} {l : Launch} {e : Env} {s : State} {m : MethodId} {args : Array Value} {below : List Frame} {meth : Method} {c : Code} {D : va_G} {cy : Nat → ClassId} {ad : Nat → Nat} {A : Nat → Prop} {z : (Int32 × tmM)} (C0 : tmC p s m args meth c cX2_heldOf 4 (some .int) RX2 TMW tm_NWC D cy tm_shC ad 256 [] A) (x1 : Int32) (v : tmM) : tmG p l e ({ frames := 0, cells := 0, slots := 0, locals := 0 } : Room) s m args below meth c 0 0 (MQ below (va_Qi (fun r u => z = (r, u)) (tmAt tm_shC 256 D cy ad A) A) args s 0 0 A) 4 D cy tm_shC ad 256 [] A z 0 [(0, .ref (ad 8)), (1, .int x1)] [] v (f_X2_heldOf x1 v) := by
  unfold f_X2_heldOf
  refine tg_iconst (x := 0) C0 dX2_heldOf_0 (by decide) ?_
  refine tg_istore_n [(2, .int 0), (0, .ref (ad 8)), (1, .int x1)] C0 dX2_heldOf_1 rfl (by decide) rfl ?_
  refine tg_iconst (x := 0) C0 dX2_heldOf_2 (by decide) ?_
  refine tg_istore_n [(3, .int 0), (2, .int 0), (0, .ref (ad 8)), (1, .int x1)] C0 dX2_heldOf_3 rfl (by decide) rfl ?_
  refine tg_sub [2, 3, 1, 0] rfl ?_
  refine w_X2_heldOf_4 C0 (fun x2 v3 => ?_) 10000 x1 0 0 v
  refine tg_iload_n 0 C0 dX2_heldOf_38 rfl rfl ?_
  exact tg_iret C0 dX2_heldOf_39
theorem c_X2_heldOf (l : Launch) (x1 : Int32) (v : tmM) : tmMi tm_NWC tm_shC 256 l yX2_heldOf (Cond.code yX2_heldOf cX2_heldOf 4 (some .int) :: TMW) ({ frames := 0, cells := 0, slots := 0, locals := 0 } : Room) (fun ad => [.ref (ad 8), .int x1]) v (f_X2_heldOf x1 v) :=
  tmMi.of (cc := cX2_heldOf) (nL := 4) (by decide +kernel) rfl tm_NWC_ok (fun _ => Nat.le_of_ble_eq_true rfl) (fun p e s m args below meth c A D cy ad z C0 => w_X2_heldOf C0 x1 v)
-- ----- X2_add
theorem dX2_add_0 : decode cX2_add 0 = .ok (.aload_n 0, 1) := by decide +kernel
theorem dX2_add_1 : decode cX2_add 1 = .ok (.getfield 15, 3) := by decide +kernel
theorem dX2_add_4 : decode cX2_add 4 = .ok (.bipush 60, 2) := by decide +kernel
theorem dX2_add_6 : decode cX2_add 6 = .ok (.if_icmp .ge 23, 3) := by decide +kernel
theorem dX2_add_9 : decode cX2_add 9 = .ok (.aload_n 0, 1) := by decide +kernel
theorem dX2_add_10 : decode cX2_add 10 = .ok (.getfield 9, 3) := by decide +kernel
theorem dX2_add_13 : decode cX2_add 13 = .ok (.aload_n 0, 1) := by decide +kernel
theorem dX2_add_14 : decode cX2_add 14 = .ok (.getfield 15, 3) := by decide +kernel
theorem dX2_add_17 : decode cX2_add 17 = .ok (.iload_n 1, 1) := by decide +kernel
theorem dX2_add_18 : decode cX2_add 18 = .ok (.iastore, 1) := by decide +kernel
theorem dX2_add_19 : decode cX2_add 19 = .ok (.aload_n 0, 1) := by decide +kernel
theorem dX2_add_20 : decode cX2_add 20 = .ok (.dup, 1) := by decide +kernel
theorem dX2_add_21 : decode cX2_add 21 = .ok (.getfield 15, 3) := by decide +kernel
theorem dX2_add_24 : decode cX2_add 24 = .ok (.iconst 1, 1) := by decide +kernel
theorem dX2_add_25 : decode cX2_add 25 = .ok (.iadd, 1) := by decide +kernel
theorem dX2_add_26 : decode cX2_add 26 = .ok (.putfield 15, 3) := by decide +kernel
theorem dX2_add_29 : decode cX2_add 29 = .ok (.return_, 1) := by decide +kernel
def f_X2_add (x1 : Int32) (v : tmM) : Option (Unit × tmM) := (if 60 ≤ (v 8 1) then some ((), v) else tm_g (tm_ix (v 8 1) 60) (tm_lt (tm_up v 9 (v 8 1).toNatClampNeg x1) fun v1 => tm_lt (tm_up v1 8 1 ((v1 8 1) + 1)) fun v2 => some ((), v2)))
set_option maxRecDepth 100000 in
set_option maxHeartbeats 4000000 in
theorem w_X2_add {p : Program} {l : Launch} {e : Env} {s : State} {m : MethodId} {args : Array Value} {below : List Frame} {meth : Method} {c : Code} {D : va_G} {cy : Nat → ClassId} {ad : Nat → Nat} {A : Nat → Prop} {z : (Unit × tmM)} (C0 : tmC p s m args meth c cX2_add 2 none RX2 TMW tm_NWC D cy tm_shC ad 256 [] A) (x1 : Int32) (v : tmM) : tmG p l e ({ frames := 0, cells := 0, slots := 0, locals := 0 } : Room) s m args below meth c 0 0 (MQ below (va_Qv (fun u => z = ((), u)) (tmAt tm_shC 256 D cy ad A) A) args s 0 0 A) 2 D cy tm_shC ad 256 [] A z 0 [(0, .ref (ad 8)), (1, .int x1)] [] v (f_X2_add x1 v) := by
  unfold f_X2_add
  refine tg_aload_n 0 C0 dX2_add_0 rfl rfl ?_
  refine tg_get 8 1 C0 dX2_add_1 (by decide) rfl rfl tu_X2 (by decide) tf_X2_15 rfl rfl rfl ?_
  refine tg_bipush (x := 60) C0 dX2_add_4 (by decide) ?_
  refine tg_icmp_ge 29 C0 dX2_add_6 (by decide) (fun _ => ?_) (fun _ => ?_)
  · exact tg_vret C0 dX2_add_29
  · refine tg_aload_n 0 C0 dX2_add_9 rfl rfl ?_
    refine tg_get 8 0 C0 dX2_add_10 (by decide) rfl rfl tu_X2 (by decide) tf_X2_9 rfl rfl rfl ?_
    refine tg_aload_n 0 C0 dX2_add_13 rfl rfl ?_
    refine tg_get 8 1 C0 dX2_add_14 (by decide) rfl rfl tu_X2 (by decide) tf_X2_15 rfl rfl rfl ?_
    refine tg_iload_n 1 C0 dX2_add_17 rfl rfl ?_
    refine tg_iast 9 C0 dX2_add_18 (by decide) rfl (fun _ => ?_)
    refine tg_letm (fun v1 _ => ?_)
    refine tg_aload_n 0 C0 dX2_add_19 rfl rfl ?_
    refine tg_dup C0 dX2_add_20 rfl ?_
    refine tg_get 8 1 C0 dX2_add_21 (by decide) rfl rfl tu_X2 (by decide) tf_X2_15 rfl rfl rfl ?_
    refine tg_iconst (x := 1) C0 dX2_add_24 (by decide) ?_
    refine tg_iadd C0 dX2_add_25 ?_
    refine tg_put 8 1 C0 dX2_add_26 (by decide) rfl rfl tu_X2 tyX2_ok nmX2 (by decide) tf_X2_15 rfl rfl rfl rfl rfl rfl ?_
    refine tg_letm (fun v2 _ => ?_)
    exact tg_vret C0 dX2_add_29
theorem c_X2_add (l : Launch) (x1 : Int32) (v : tmM) : tmMv tm_NWC tm_shC 256 l yX2_add (Cond.code yX2_add cX2_add 2 none :: TMW) ({ frames := 0, cells := 0, slots := 0, locals := 0 } : Room) (fun ad => [.ref (ad 8), .int x1]) v (f_X2_add x1 v) :=
  tmMv.of (cc := cX2_add) (nL := 2) (by decide +kernel) rfl tm_NWC_ok (fun _ => Nat.le_of_ble_eq_true rfl) (fun p e s m args below meth c A D cy ad z C0 => w_X2_add C0 x1 v)
-- ----- X2_clear
theorem dX2_clear_0 : decode cX2_clear 0 = .ok (.aload_n 0, 1) := by decide +kernel
theorem dX2_clear_1 : decode cX2_clear 1 = .ok (.iconst 0, 1) := by decide +kernel
theorem dX2_clear_2 : decode cX2_clear 2 = .ok (.putfield 15, 3) := by decide +kernel
theorem dX2_clear_5 : decode cX2_clear 5 = .ok (.return_, 1) := by decide +kernel
def f_X2_clear (v : tmM) : Option (Unit × tmM) := tm_lt (tm_up v 8 1 0) fun v1 => some ((), v1)
set_option maxRecDepth 100000 in
set_option maxHeartbeats 4000000 in
theorem w_X2_clear {p : Program} {l : Launch} {e : Env} {s : State} {m : MethodId} {args : Array Value} {below : List Frame} {meth : Method} {c : Code} {D : va_G} {cy : Nat → ClassId} {ad : Nat → Nat} {A : Nat → Prop} {z : (Unit × tmM)} (C0 : tmC p s m args meth c cX2_clear 1 none RX2 TMW tm_NWC D cy tm_shC ad 256 [] A) (v : tmM) : tmG p l e ({ frames := 0, cells := 0, slots := 0, locals := 0 } : Room) s m args below meth c 0 0 (MQ below (va_Qv (fun u => z = ((), u)) (tmAt tm_shC 256 D cy ad A) A) args s 0 0 A) 1 D cy tm_shC ad 256 [] A z 0 [(0, .ref (ad 8))] [] v (f_X2_clear v) := by
  unfold f_X2_clear
  refine tg_aload_n 0 C0 dX2_clear_0 rfl rfl ?_
  refine tg_iconst (x := 0) C0 dX2_clear_1 (by decide) ?_
  refine tg_put 8 1 C0 dX2_clear_2 (by decide) rfl rfl tu_X2 tyX2_ok nmX2 (by decide) tf_X2_15 rfl rfl rfl rfl rfl rfl ?_
  refine tg_letm (fun v1 _ => ?_)
  exact tg_vret C0 dX2_clear_5
theorem c_X2_clear (l : Launch) (v : tmM) : tmMv tm_NWC tm_shC 256 l yX2_clear (Cond.code yX2_clear cX2_clear 1 none :: TMW) ({ frames := 0, cells := 0, slots := 0, locals := 0 } : Room) (fun ad => [.ref (ad 8)]) v (f_X2_clear v) :=
  tmMv.of (cc := cX2_clear) (nL := 1) (by decide +kernel) rfl tm_NWC_ok (fun _ => Nat.le_of_ble_eq_true rfl) (fun p e s m args below meth c A D cy ad z C0 => w_X2_clear C0 v)
-- ----- X2_become
theorem dX2_become_0 : decode cX2_become 0 = .ok (.aload_n 0, 1) := by decide +kernel
theorem dX2_become_1 : decode cX2_become 1 = .ok (.aload_n 1, 1) := by decide +kernel
theorem dX2_become_2 : decode cX2_become 2 = .ok (.getfield 15, 3) := by decide +kernel
theorem dX2_become_5 : decode cX2_become 5 = .ok (.putfield 15, 3) := by decide +kernel
theorem dX2_become_8 : decode cX2_become 8 = .ok (.aload_n 1, 1) := by decide +kernel
theorem dX2_become_9 : decode cX2_become 9 = .ok (.getfield 9, 3) := by decide +kernel
theorem dX2_become_12 : decode cX2_become 12 = .ok (.iconst 0, 1) := by decide +kernel
theorem dX2_become_13 : decode cX2_become 13 = .ok (.aload_n 0, 1) := by decide +kernel
theorem dX2_become_14 : decode cX2_become 14 = .ok (.getfield 9, 3) := by decide +kernel
theorem dX2_become_17 : decode cX2_become 17 = .ok (.iconst 0, 1) := by decide +kernel
theorem dX2_become_18 : decode cX2_become 18 = .ok (.bipush 60, 2) := by decide +kernel
theorem dX2_become_20 : decode cX2_become 20 = .ok (.invokestatic 19, 3) := by decide +kernel
theorem dX2_become_23 : decode cX2_become 23 = .ok (.return_, 1) := by decide +kernel
def f_X2_become (k1 : Nat) (k2 : Nat) (v : tmM) : Option (Unit × tmM) := tm_lt (tm_up v (k1 + 8) 1 (v (k2 + 8) 1)) fun v1 => tm_g (tm_cok 0 0 60 60 60) (tm_lt (tm_set v1 (k1 + 9) (va_cpy (v1 (k2 + 9)) (v1 (k1 + 9)) (0 : Int32).toNatClampNeg (0 : Int32).toNatClampNeg (60 : Int32).toNatClampNeg)) fun v2 => some ((), v2))
set_option maxRecDepth 100000 in
set_option maxHeartbeats 4000000 in
theorem w_X2_become {p : Program} {l : Launch} {e : Env} {s : State} {m : MethodId} {args : Array Value} {below : List Frame} {meth : Method} {c : Code} {D : va_G} {cy : Nat → ClassId} {ad : Nat → Nat} {A : Nat → Prop} {z : (Unit × tmM)} {k1 : Nat} {k2 : Nat} (C0 : tmC p s m args meth c cX2_become 2 none RX2 TMW tm_NWC D cy tm_shC ad 256 [] A) (hk1 : tm_isS k1) (hk2 : tm_isS k2) (v : tmM) : tmG p l e ({ frames := 1, cells := 0, slots := 0, locals := 40 } : Room) s m args below meth c 0 0 (MQ below (va_Qv (fun u => z = ((), u)) (tmAt tm_shC 256 D cy ad A) A) args s 0 0 A) 2 D cy tm_shC ad 256 [] A z 0 [(0, .ref (ad (k1 + 8))), (1, .ref (ad (k2 + 8)))] [] v (f_X2_become k1 k2 v) := by
  unfold f_X2_become
  refine tg_aload_n 0 C0 dX2_become_0 rfl rfl ?_
  refine tg_aload_n 1 C0 dX2_become_1 rfl rfl ?_
  refine tg_get (k2 + 8) 1 C0 dX2_become_2 (tm_Sl 8 (by decide) hk2) (tm_S 8 (by decide) hk2) rfl tu_X2 (by decide) tf_X2_15 rfl rfl rfl ?_
  refine tg_put (k1 + 8) 1 C0 dX2_become_5 (tm_Sl 8 (by decide) hk1) (tm_S 8 (by decide) hk1) rfl tu_X2 tyX2_ok nmX2 (by decide) tf_X2_15 rfl rfl rfl rfl rfl rfl ?_
  refine tg_letm (fun v1 _ => ?_)
  refine tg_aload_n 1 C0 dX2_become_8 rfl rfl ?_
  refine tg_get (k2 + 8) 0 C0 dX2_become_9 (tm_Sl 8 (by decide) hk2) (tm_S 8 (by decide) hk2) rfl tu_X2 (by decide) tf_X2_9 rfl rfl rfl ?_
  refine tg_iconst (x := 0) C0 dX2_become_12 (by decide) ?_
  refine tg_aload_n 0 C0 dX2_become_13 rfl rfl ?_
  refine tg_get (k1 + 8) 0 C0 dX2_become_14 (tm_Sl 8 (by decide) hk1) (tm_S 8 (by decide) hk1) rfl tu_X2 (by decide) tf_X2_9 rfl rfl rfl ?_
  refine tg_iconst (x := 0) C0 dX2_become_17 (by decide) ?_
  refine tg_bipush (x := 60) C0 dX2_become_18 (by decide) ?_
  refine tg_copy (k2 + 9) (k1 + 9) C0 dX2_become_20 (tm_Sl 9 (by decide) hk2) (tm_Sl 9 (by decide) hk1) (tm_S 9 (by decide) hk2) (tm_S 9 (by decide) hk1) tl_X2_19 tnat tsta tsys (by decide) (Nat.le_of_ble_eq_true rfl) ?_
  refine tg_letm (fun v2 _ => ?_)
  exact tg_vret C0 dX2_become_23
theorem c_X2_become (l : Launch) (k1 : Nat) (k2 : Nat) (hk1 : tm_isS k1) (hk2 : tm_isS k2) (v : tmM) : tmMv tm_NWC tm_shC 256 l yX2_become (Cond.code yX2_become cX2_become 2 none :: TMW) ({ frames := 1, cells := 0, slots := 0, locals := 40 } : Room) (fun ad => [.ref (ad (k1 + 8)), .ref (ad (k2 + 8))]) v (f_X2_become k1 k2 v) :=
  tmMv.of (cc := cX2_become) (nL := 2) (by decide +kernel) rfl tm_NWC_ok (fun _ => Nat.le_of_ble_eq_true rfl) (fun p e s m args below meth c A D cy ad z C0 => w_X2_become C0 hk1 hk2 v)
-- ----- X1_become
theorem dX1_become_0 : decode cX1_become 0 = .ok (.aload_n 0, 1) := by decide +kernel
theorem dX1_become_1 : decode cX1_become 1 = .ok (.aload_n 1, 1) := by decide +kernel
theorem dX1_become_2 : decode cX1_become 2 = .ok (.getfield 18, 3) := by decide +kernel
theorem dX1_become_5 : decode cX1_become 5 = .ok (.putfield 18, 3) := by decide +kernel
theorem dX1_become_8 : decode cX1_become 8 = .ok (.aload_n 1, 1) := by decide +kernel
theorem dX1_become_9 : decode cX1_become 9 = .ok (.getfield 9, 3) := by decide +kernel
theorem dX1_become_12 : decode cX1_become 12 = .ok (.iconst 0, 1) := by decide +kernel
theorem dX1_become_13 : decode cX1_become 13 = .ok (.aload_n 0, 1) := by decide +kernel
theorem dX1_become_14 : decode cX1_become 14 = .ok (.getfield 9, 3) := by decide +kernel
theorem dX1_become_17 : decode cX1_become 17 = .ok (.iconst 0, 1) := by decide +kernel
theorem dX1_become_18 : decode cX1_become 18 = .ok (.bipush 30, 2) := by decide +kernel
theorem dX1_become_20 : decode cX1_become 20 = .ok (.invokestatic 22, 3) := by decide +kernel
theorem dX1_become_23 : decode cX1_become 23 = .ok (.aload_n 1, 1) := by decide +kernel
theorem dX1_become_24 : decode cX1_become 24 = .ok (.getfield 15, 3) := by decide +kernel
theorem dX1_become_27 : decode cX1_become 27 = .ok (.iconst 0, 1) := by decide +kernel
theorem dX1_become_28 : decode cX1_become 28 = .ok (.aload_n 0, 1) := by decide +kernel
theorem dX1_become_29 : decode cX1_become 29 = .ok (.getfield 15, 3) := by decide +kernel
theorem dX1_become_32 : decode cX1_become 32 = .ok (.iconst 0, 1) := by decide +kernel
theorem dX1_become_33 : decode cX1_become 33 = .ok (.bipush 30, 2) := by decide +kernel
theorem dX1_become_35 : decode cX1_become 35 = .ok (.invokestatic 22, 3) := by decide +kernel
theorem dX1_become_38 : decode cX1_become 38 = .ok (.return_, 1) := by decide +kernel
theorem tf_X1_18 : Cond.fieldLink RX1 18 "TableMove$EventLog" (TX1 2).2.1 (TX1 2).2.2.1 ∈ TMW := tm_in 204 (by decide +kernel) (by decide +kernel)
theorem tu_X1 : ∀ w ∈ u_ws RX1 TX1 3, w ∈ TMW := tm_us [206, 208, 210] (by decide +kernel) (by decide +kernel)
theorem tf_X1_9 : Cond.fieldLink RX1 9 "TableMove$EventLog" (TX1 0).2.1 (TX1 0).2.2.1 ∈ TMW := tm_in 200 (by decide +kernel) (by decide +kernel)
theorem tl_X1_22 : Cond.methodLink RX1 22 arraycopyName ∈ TMW := tm_in 520 (by decide +kernel) (by decide +kernel)
theorem tf_X1_15 : Cond.fieldLink RX1 15 "TableMove$EventLog" (TX1 1).2.1 (TX1 1).2.2.1 ∈ TMW := tm_in 202 (by decide +kernel) (by decide +kernel)
def f_X1_become (k1 : Nat) (k2 : Nat) (v : tmM) : Option (Unit × tmM) := tm_lt (tm_up v (k1 + 10) 2 (v (k2 + 10) 2)) fun v1 => tm_g (tm_cok 0 0 30 30 30) (tm_lt (tm_set v1 (k1 + 11) (va_cpy (v1 (k2 + 11)) (v1 (k1 + 11)) (0 : Int32).toNatClampNeg (0 : Int32).toNatClampNeg (30 : Int32).toNatClampNeg)) fun v2 => tm_g (tm_cok 0 0 30 30 30) (tm_lt (tm_set v2 (k1 + 12) (va_cpy (v2 (k2 + 12)) (v2 (k1 + 12)) (0 : Int32).toNatClampNeg (0 : Int32).toNatClampNeg (30 : Int32).toNatClampNeg)) fun v3 => some ((), v3)))
set_option maxRecDepth 100000 in
set_option maxHeartbeats 4000000 in
theorem w_X1_become {p : Program} {l : Launch} {e : Env} {s : State} {m : MethodId} {args : Array Value} {below : List Frame} {meth : Method} {c : Code} {D : va_G} {cy : Nat → ClassId} {ad : Nat → Nat} {A : Nat → Prop} {z : (Unit × tmM)} {k1 : Nat} {k2 : Nat} (C0 : tmC p s m args meth c cX1_become 2 none RX1 TMW tm_NWC D cy tm_shC ad 256 [] A) (hk1 : tm_isS k1) (hk2 : tm_isS k2) (v : tmM) : tmG p l e ({ frames := 1, cells := 0, slots := 0, locals := 40 } : Room) s m args below meth c 0 0 (MQ below (va_Qv (fun u => z = ((), u)) (tmAt tm_shC 256 D cy ad A) A) args s 0 0 A) 2 D cy tm_shC ad 256 [] A z 0 [(0, .ref (ad (k1 + 10))), (1, .ref (ad (k2 + 10)))] [] v (f_X1_become k1 k2 v) := by
  unfold f_X1_become
  refine tg_aload_n 0 C0 dX1_become_0 rfl rfl ?_
  refine tg_aload_n 1 C0 dX1_become_1 rfl rfl ?_
  refine tg_get (k2 + 10) 2 C0 dX1_become_2 (tm_Sl 10 (by decide) hk2) (tm_S 10 (by decide) hk2) rfl tu_X1 (by decide) tf_X1_18 rfl rfl rfl ?_
  refine tg_put (k1 + 10) 2 C0 dX1_become_5 (tm_Sl 10 (by decide) hk1) (tm_S 10 (by decide) hk1) rfl tu_X1 tyX1_ok nmX1 (by decide) tf_X1_18 rfl rfl rfl rfl rfl rfl ?_
  refine tg_letm (fun v1 _ => ?_)
  refine tg_aload_n 1 C0 dX1_become_8 rfl rfl ?_
  refine tg_get (k2 + 10) 0 C0 dX1_become_9 (tm_Sl 10 (by decide) hk2) (tm_S 10 (by decide) hk2) rfl tu_X1 (by decide) tf_X1_9 rfl rfl rfl ?_
  refine tg_iconst (x := 0) C0 dX1_become_12 (by decide) ?_
  refine tg_aload_n 0 C0 dX1_become_13 rfl rfl ?_
  refine tg_get (k1 + 10) 0 C0 dX1_become_14 (tm_Sl 10 (by decide) hk1) (tm_S 10 (by decide) hk1) rfl tu_X1 (by decide) tf_X1_9 rfl rfl rfl ?_
  refine tg_iconst (x := 0) C0 dX1_become_17 (by decide) ?_
  refine tg_bipush (x := 30) C0 dX1_become_18 (by decide) ?_
  refine tg_copy (k2 + 11) (k1 + 11) C0 dX1_become_20 (tm_Sl 11 (by decide) hk2) (tm_Sl 11 (by decide) hk1) (tm_S 11 (by decide) hk2) (tm_S 11 (by decide) hk1) tl_X1_22 tnat tsta tsys (by decide) (Nat.le_of_ble_eq_true rfl) ?_
  refine tg_letm (fun v2 _ => ?_)
  refine tg_aload_n 1 C0 dX1_become_23 rfl rfl ?_
  refine tg_get (k2 + 10) 1 C0 dX1_become_24 (tm_Sl 10 (by decide) hk2) (tm_S 10 (by decide) hk2) rfl tu_X1 (by decide) tf_X1_15 rfl rfl rfl ?_
  refine tg_iconst (x := 0) C0 dX1_become_27 (by decide) ?_
  refine tg_aload_n 0 C0 dX1_become_28 rfl rfl ?_
  refine tg_get (k1 + 10) 1 C0 dX1_become_29 (tm_Sl 10 (by decide) hk1) (tm_S 10 (by decide) hk1) rfl tu_X1 (by decide) tf_X1_15 rfl rfl rfl ?_
  refine tg_iconst (x := 0) C0 dX1_become_32 (by decide) ?_
  refine tg_bipush (x := 30) C0 dX1_become_33 (by decide) ?_
  refine tg_copy (k2 + 12) (k1 + 12) C0 dX1_become_35 (tm_Sl 12 (by decide) hk2) (tm_Sl 12 (by decide) hk1) (tm_S 12 (by decide) hk2) (tm_S 12 (by decide) hk1) tl_X1_22 tnat tsta tsys (by decide) (Nat.le_of_ble_eq_true rfl) ?_
  refine tg_letm (fun v3 _ => ?_)
  exact tg_vret C0 dX1_become_38
theorem c_X1_become (l : Launch) (k1 : Nat) (k2 : Nat) (hk1 : tm_isS k1) (hk2 : tm_isS k2) (v : tmM) : tmMv tm_NWC tm_shC 256 l yX1_become (Cond.code yX1_become cX1_become 2 none :: TMW) ({ frames := 1, cells := 0, slots := 0, locals := 40 } : Room) (fun ad => [.ref (ad (k1 + 10)), .ref (ad (k2 + 10))]) v (f_X1_become k1 k2 v) :=
  tmMv.of (cc := cX1_become) (nL := 2) (by decide +kernel) rfl tm_NWC_ok (fun _ => Nat.le_of_ble_eq_true rfl) (fun p e s m args below meth c A D cy ad z C0 => w_X1_become C0 hk1 hk2 v)
-- ----- X1_add
theorem dX1_add_0 : decode cX1_add 0 = .ok (.aload_n 0, 1) := by decide +kernel
theorem dX1_add_1 : decode cX1_add 1 = .ok (.getfield 18, 3) := by decide +kernel
theorem dX1_add_4 : decode cX1_add 4 = .ok (.bipush 30, 2) := by decide +kernel
theorem dX1_add_6 : decode cX1_add 6 = .ok (.if_icmp .ne 47, 3) := by decide +kernel
theorem dX1_add_9 : decode cX1_add 9 = .ok (.aload_n 0, 1) := by decide +kernel
theorem dX1_add_10 : decode cX1_add 10 = .ok (.dup, 1) := by decide +kernel
theorem dX1_add_11 : decode cX1_add 11 = .ok (.getfield 18, 3) := by decide +kernel
theorem dX1_add_14 : decode cX1_add 14 = .ok (.iconst 1, 1) := by decide +kernel
theorem dX1_add_15 : decode cX1_add 15 = .ok (.isub, 1) := by decide +kernel
theorem dX1_add_16 : decode cX1_add 16 = .ok (.putfield 18, 3) := by decide +kernel
theorem dX1_add_19 : decode cX1_add 19 = .ok (.aload_n 0, 1) := by decide +kernel
theorem dX1_add_20 : decode cX1_add 20 = .ok (.getfield 9, 3) := by decide +kernel
theorem dX1_add_23 : decode cX1_add 23 = .ok (.iconst 1, 1) := by decide +kernel
theorem dX1_add_24 : decode cX1_add 24 = .ok (.aload_n 0, 1) := by decide +kernel
theorem dX1_add_25 : decode cX1_add 25 = .ok (.getfield 9, 3) := by decide +kernel
theorem dX1_add_28 : decode cX1_add 28 = .ok (.iconst 0, 1) := by decide +kernel
theorem dX1_add_29 : decode cX1_add 29 = .ok (.aload_n 0, 1) := by decide +kernel
theorem dX1_add_30 : decode cX1_add 30 = .ok (.getfield 18, 3) := by decide +kernel
theorem dX1_add_33 : decode cX1_add 33 = .ok (.invokestatic 22, 3) := by decide +kernel
theorem dX1_add_36 : decode cX1_add 36 = .ok (.aload_n 0, 1) := by decide +kernel
theorem dX1_add_37 : decode cX1_add 37 = .ok (.getfield 15, 3) := by decide +kernel
theorem dX1_add_40 : decode cX1_add 40 = .ok (.iconst 1, 1) := by decide +kernel
theorem dX1_add_41 : decode cX1_add 41 = .ok (.aload_n 0, 1) := by decide +kernel
theorem dX1_add_42 : decode cX1_add 42 = .ok (.getfield 15, 3) := by decide +kernel
theorem dX1_add_45 : decode cX1_add 45 = .ok (.iconst 0, 1) := by decide +kernel
theorem dX1_add_46 : decode cX1_add 46 = .ok (.aload_n 0, 1) := by decide +kernel
theorem dX1_add_47 : decode cX1_add 47 = .ok (.getfield 18, 3) := by decide +kernel
theorem dX1_add_50 : decode cX1_add 50 = .ok (.invokestatic 22, 3) := by decide +kernel
theorem dX1_add_53 : decode cX1_add 53 = .ok (.aload_n 0, 1) := by decide +kernel
theorem dX1_add_54 : decode cX1_add 54 = .ok (.getfield 9, 3) := by decide +kernel
theorem dX1_add_57 : decode cX1_add 57 = .ok (.aload_n 0, 1) := by decide +kernel
theorem dX1_add_58 : decode cX1_add 58 = .ok (.getfield 18, 3) := by decide +kernel
theorem dX1_add_61 : decode cX1_add 61 = .ok (.iload_n 1, 1) := by decide +kernel
theorem dX1_add_62 : decode cX1_add 62 = .ok (.iastore, 1) := by decide +kernel
theorem dX1_add_63 : decode cX1_add 63 = .ok (.aload_n 0, 1) := by decide +kernel
theorem dX1_add_64 : decode cX1_add 64 = .ok (.getfield 15, 3) := by decide +kernel
theorem dX1_add_67 : decode cX1_add 67 = .ok (.aload_n 0, 1) := by decide +kernel
theorem dX1_add_68 : decode cX1_add 68 = .ok (.getfield 18, 3) := by decide +kernel
theorem dX1_add_71 : decode cX1_add 71 = .ok (.iload_n 2, 1) := by decide +kernel
theorem dX1_add_72 : decode cX1_add 72 = .ok (.iastore, 1) := by decide +kernel
theorem dX1_add_73 : decode cX1_add 73 = .ok (.aload_n 0, 1) := by decide +kernel
theorem dX1_add_74 : decode cX1_add 74 = .ok (.dup, 1) := by decide +kernel
theorem dX1_add_75 : decode cX1_add 75 = .ok (.getfield 18, 3) := by decide +kernel
theorem dX1_add_78 : decode cX1_add 78 = .ok (.iconst 1, 1) := by decide +kernel
theorem dX1_add_79 : decode cX1_add 79 = .ok (.iadd, 1) := by decide +kernel
theorem dX1_add_80 : decode cX1_add 80 = .ok (.putfield 18, 3) := by decide +kernel
theorem dX1_add_83 : decode cX1_add 83 = .ok (.return_, 1) := by decide +kernel
def f_X1_add_53 (x1 x2 : Int32) (v : tmM) : Option (Unit × tmM) := tm_g (tm_ix (v 10 2) 30) (tm_lt (tm_up v 11 (v 10 2).toNatClampNeg x1) fun v1 => tm_g (tm_ix (v1 10 2) 30) (tm_lt (tm_up v1 12 (v1 10 2).toNatClampNeg x2) fun v2 => tm_lt (tm_up v2 10 2 ((v2 10 2) + 1)) fun v3 => some ((), v3)))
set_option maxRecDepth 100000 in
set_option maxHeartbeats 4000000 in
theorem w_X1_add_53 {p : Program} {l : Launch} {e : Env} {s : State} {m : MethodId} {args : Array Value} {below : List Frame} {meth : Method} {c : Code} {D : va_G} {cy : Nat → ClassId} {ad : Nat → Nat} {A : Nat → Prop} {z : (Unit × tmM)} (C0 : tmC p s m args meth c cX1_add 3 none RX1 TMW tm_NWC D cy tm_shC ad 256 [] A) (x1 x2 : Int32) (v : tmM) : tmG p l e ({ frames := 1, cells := 0, slots := 0, locals := 40 } : Room) s m args below meth c 0 0 (MQ below (va_Qv (fun u => z = ((), u)) (tmAt tm_shC 256 D cy ad A) A) args s 0 0 A) 3 D cy tm_shC ad 256 [] A z 53 [(0, .ref (ad 10)), (1, .int x1), (2, .int x2)] [] v (f_X1_add_53 x1 x2 v) := by
  unfold f_X1_add_53
  refine tg_aload_n 0 C0 dX1_add_53 rfl rfl ?_
  refine tg_get 10 0 C0 dX1_add_54 (by decide) rfl rfl tu_X1 (by decide) tf_X1_9 rfl rfl rfl ?_
  refine tg_aload_n 0 C0 dX1_add_57 rfl rfl ?_
  refine tg_get 10 2 C0 dX1_add_58 (by decide) rfl rfl tu_X1 (by decide) tf_X1_18 rfl rfl rfl ?_
  refine tg_iload_n 1 C0 dX1_add_61 rfl rfl ?_
  refine tg_iast 11 C0 dX1_add_62 (by decide) rfl (fun _ => ?_)
  refine tg_letm (fun v1 _ => ?_)
  refine tg_aload_n 0 C0 dX1_add_63 rfl rfl ?_
  refine tg_get 10 1 C0 dX1_add_64 (by decide) rfl rfl tu_X1 (by decide) tf_X1_15 rfl rfl rfl ?_
  refine tg_aload_n 0 C0 dX1_add_67 rfl rfl ?_
  refine tg_get 10 2 C0 dX1_add_68 (by decide) rfl rfl tu_X1 (by decide) tf_X1_18 rfl rfl rfl ?_
  refine tg_iload_n 2 C0 dX1_add_71 rfl rfl ?_
  refine tg_iast 12 C0 dX1_add_72 (by decide) rfl (fun _ => ?_)
  refine tg_letm (fun v2 _ => ?_)
  refine tg_aload_n 0 C0 dX1_add_73 rfl rfl ?_
  refine tg_dup C0 dX1_add_74 rfl ?_
  refine tg_get 10 2 C0 dX1_add_75 (by decide) rfl rfl tu_X1 (by decide) tf_X1_18 rfl rfl rfl ?_
  refine tg_iconst (x := 1) C0 dX1_add_78 (by decide) ?_
  refine tg_iadd C0 dX1_add_79 ?_
  refine tg_put 10 2 C0 dX1_add_80 (by decide) rfl rfl tu_X1 tyX1_ok nmX1 (by decide) tf_X1_18 rfl rfl rfl rfl rfl rfl ?_
  refine tg_letm (fun v3 _ => ?_)
  exact tg_vret C0 dX1_add_83
def f_X1_add (x1 x2 : Int32) (v : tmM) : Option (Unit × tmM) := (if (v 10 2) = 30 then tm_lt (tm_up v 10 2 ((v 10 2) - 1)) fun v4 => tm_g (tm_cok 1 0 (v4 10 2) 30 30) (tm_lt (tm_set v4 11 (va_cpy (v4 11) (v4 11) (1 : Int32).toNatClampNeg (0 : Int32).toNatClampNeg (v4 10 2).toNatClampNeg)) fun v5 => tm_g (tm_cok 1 0 (v5 10 2) 30 30) (tm_lt (tm_set v5 12 (va_cpy (v5 12) (v5 12) (1 : Int32).toNatClampNeg (0 : Int32).toNatClampNeg (v5 10 2).toNatClampNeg)) fun v6 => f_X1_add_53 x1 x2 v6)) else f_X1_add_53 x1 x2 v)
set_option maxRecDepth 100000 in
set_option maxHeartbeats 4000000 in
theorem w_X1_add {p : Program} {l : Launch} {e : Env} {s : State} {m : MethodId} {args : Array Value} {below : List Frame} {meth : Method} {c : Code} {D : va_G} {cy : Nat → ClassId} {ad : Nat → Nat} {A : Nat → Prop} {z : (Unit × tmM)} (C0 : tmC p s m args meth c cX1_add 3 none RX1 TMW tm_NWC D cy tm_shC ad 256 [] A) (x1 x2 : Int32) (v : tmM) : tmG p l e ({ frames := 1, cells := 0, slots := 0, locals := 40 } : Room) s m args below meth c 0 0 (MQ below (va_Qv (fun u => z = ((), u)) (tmAt tm_shC 256 D cy ad A) A) args s 0 0 A) 3 D cy tm_shC ad 256 [] A z 0 [(0, .ref (ad 10)), (1, .int x1), (2, .int x2)] [] v (f_X1_add x1 x2 v) := by
  unfold f_X1_add
  refine tg_aload_n 0 C0 dX1_add_0 rfl rfl ?_
  refine tg_get 10 2 C0 dX1_add_1 (by decide) rfl rfl tu_X1 (by decide) tf_X1_18 rfl rfl rfl ?_
  refine tg_bipush (x := 30) C0 dX1_add_4 (by decide) ?_
  refine tg_icmp_ne 53 C0 dX1_add_6 (by decide) (fun _ => ?_) (fun _ => ?_)
  · exact w_X1_add_53 C0 x1 x2 v
  · refine tg_aload_n 0 C0 dX1_add_9 rfl rfl ?_
    refine tg_dup C0 dX1_add_10 rfl ?_
    refine tg_get 10 2 C0 dX1_add_11 (by decide) rfl rfl tu_X1 (by decide) tf_X1_18 rfl rfl rfl ?_
    refine tg_iconst (x := 1) C0 dX1_add_14 (by decide) ?_
    refine tg_isub C0 dX1_add_15 ?_
    refine tg_put 10 2 C0 dX1_add_16 (by decide) rfl rfl tu_X1 tyX1_ok nmX1 (by decide) tf_X1_18 rfl rfl rfl rfl rfl rfl ?_
    refine tg_letm (fun v4 _ => ?_)
    refine tg_aload_n 0 C0 dX1_add_19 rfl rfl ?_
    refine tg_get 10 0 C0 dX1_add_20 (by decide) rfl rfl tu_X1 (by decide) tf_X1_9 rfl rfl rfl ?_
    refine tg_iconst (x := 1) C0 dX1_add_23 (by decide) ?_
    refine tg_aload_n 0 C0 dX1_add_24 rfl rfl ?_
    refine tg_get 10 0 C0 dX1_add_25 (by decide) rfl rfl tu_X1 (by decide) tf_X1_9 rfl rfl rfl ?_
    refine tg_iconst (x := 0) C0 dX1_add_28 (by decide) ?_
    refine tg_aload_n 0 C0 dX1_add_29 rfl rfl ?_
    refine tg_get 10 2 C0 dX1_add_30 (by decide) rfl rfl tu_X1 (by decide) tf_X1_18 rfl rfl rfl ?_
    refine tg_copy 11 11 C0 dX1_add_33 (by decide) (by decide) rfl rfl tl_X1_22 tnat tsta tsys (by decide) (Nat.le_of_ble_eq_true rfl) ?_
    refine tg_letm (fun v5 _ => ?_)
    refine tg_aload_n 0 C0 dX1_add_36 rfl rfl ?_
    refine tg_get 10 1 C0 dX1_add_37 (by decide) rfl rfl tu_X1 (by decide) tf_X1_15 rfl rfl rfl ?_
    refine tg_iconst (x := 1) C0 dX1_add_40 (by decide) ?_
    refine tg_aload_n 0 C0 dX1_add_41 rfl rfl ?_
    refine tg_get 10 1 C0 dX1_add_42 (by decide) rfl rfl tu_X1 (by decide) tf_X1_15 rfl rfl rfl ?_
    refine tg_iconst (x := 0) C0 dX1_add_45 (by decide) ?_
    refine tg_aload_n 0 C0 dX1_add_46 rfl rfl ?_
    refine tg_get 10 2 C0 dX1_add_47 (by decide) rfl rfl tu_X1 (by decide) tf_X1_18 rfl rfl rfl ?_
    refine tg_copy 12 12 C0 dX1_add_50 (by decide) (by decide) rfl rfl tl_X1_22 tnat tsta tsys (by decide) (Nat.le_of_ble_eq_true rfl) ?_
    refine tg_letm (fun v6 _ => ?_)
    exact w_X1_add_53 C0 x1 x2 v6
theorem c_X1_add (l : Launch) (x1 x2 : Int32) (v : tmM) : tmMv tm_NWC tm_shC 256 l yX1_add (Cond.code yX1_add cX1_add 3 none :: TMW) ({ frames := 1, cells := 0, slots := 0, locals := 40 } : Room) (fun ad => [.ref (ad 10), .int x1, .int x2]) v (f_X1_add x1 x2 v) :=
  tmMv.of (cc := cX1_add) (nL := 3) (by decide +kernel) rfl tm_NWC_ok (fun _ => Nat.le_of_ble_eq_true rfl) (fun p e s m args below meth c A D cy ad z C0 => w_X1_add C0 x1 x2 v)
-- ----- X1_keptOf
theorem dX1_keptOf_0 : decode cX1_keptOf 0 = .ok (.iconst 0, 1) := by decide +kernel
theorem dX1_keptOf_1 : decode cX1_keptOf 1 = .ok (.istore_n 2, 1) := by decide +kernel
theorem dX1_keptOf_2 : decode cX1_keptOf 2 = .ok (.iconst 0, 1) := by decide +kernel
theorem dX1_keptOf_3 : decode cX1_keptOf 3 = .ok (.istore_n 3, 1) := by decide +kernel
theorem dX1_keptOf_4 : decode cX1_keptOf 4 = .ok (.iload_n 3, 1) := by decide +kernel
theorem dX1_keptOf_5 : decode cX1_keptOf 5 = .ok (.aload_n 0, 1) := by decide +kernel
theorem dX1_keptOf_6 : decode cX1_keptOf 6 = .ok (.getfield 18, 3) := by decide +kernel
theorem dX1_keptOf_9 : decode cX1_keptOf 9 = .ok (.if_icmp .ge 27, 3) := by decide +kernel
theorem dX1_keptOf_12 : decode cX1_keptOf 12 = .ok (.iload_n 2, 1) := by decide +kernel
theorem dX1_keptOf_13 : decode cX1_keptOf 13 = .ok (.aload_n 0, 1) := by decide +kernel
theorem dX1_keptOf_14 : decode cX1_keptOf 14 = .ok (.getfield 9, 3) := by decide +kernel
theorem dX1_keptOf_17 : decode cX1_keptOf 17 = .ok (.iload_n 3, 1) := by decide +kernel
theorem dX1_keptOf_18 : decode cX1_keptOf 18 = .ok (.iaload, 1) := by decide +kernel
theorem dX1_keptOf_19 : decode cX1_keptOf 19 = .ok (.iload_n 1, 1) := by decide +kernel
theorem dX1_keptOf_20 : decode cX1_keptOf 20 = .ok (.if_icmp .ne 7, 3) := by decide +kernel
theorem dX1_keptOf_23 : decode cX1_keptOf 23 = .ok (.iconst 1, 1) := by decide +kernel
theorem dX1_keptOf_24 : decode cX1_keptOf 24 = .ok (.goto 4, 3) := by decide +kernel
theorem dX1_keptOf_27 : decode cX1_keptOf 27 = .ok (.iconst 0, 1) := by decide +kernel
theorem dX1_keptOf_28 : decode cX1_keptOf 28 = .ok (.iadd, 1) := by decide +kernel
theorem dX1_keptOf_29 : decode cX1_keptOf 29 = .ok (.istore_n 2, 1) := by decide +kernel
theorem dX1_keptOf_30 : decode cX1_keptOf 30 = .ok (.iinc 3 1, 3) := by decide +kernel
theorem dX1_keptOf_33 : decode cX1_keptOf 33 = .ok (.goto (-29), 3) := by decide +kernel
theorem dX1_keptOf_36 : decode cX1_keptOf 36 = .ok (.iload_n 2, 1) := by decide +kernel
theorem dX1_keptOf_37 : decode cX1_keptOf 37 = .ok (.ireturn, 1) := by decide +kernel
def f_X1_keptOf_28 (K0 : Int32 → tmM → Option (Int32 × tmM)) (L : Int32 → Int32 → Int32 → tmM → Option (Int32 × tmM)) (x1 x3 s0 s1 : Int32) (v : tmM) : Option (Int32 × tmM) := tm_lt (s1 + s0) fun y1 => L x1 y1 (x3 + 1) v
set_option maxRecDepth 100000 in
set_option maxHeartbeats 4000000 in
theorem w_X1_keptOf_28 {p : Program} {l : Launch} {e : Env} {s : State} {m : MethodId} {args : Array Value} {below : List Frame} {meth : Method} {c : Code} {D : va_G} {cy : Nat → ClassId} {ad : Nat → Nat} {A : Nat → Prop} {z : (Int32 × tmM)} {K0 : Int32 → tmM → Option (Int32 × tmM)} {L : Int32 → Int32 → Int32 → tmM → Option (Int32 × tmM)} (C0 : tmC p s m args meth c cX1_keptOf 4 (some .int) RX1 TMW tm_NWC D cy tm_shC ad 256 [] A) (hK0 : ∀ (a2 : Int32) (w : tmM), tmG p l e ({ frames := 0, cells := 0, slots := 0, locals := 0 } : Room) s m args below meth c 0 0 (MQ below (va_Qi (fun r u => z = (r, u)) (tmAt tm_shC 256 D cy ad A) A) args s 0 0 A) 4 D cy tm_shC ad 256 [] A z 36 [(2, .int a2)] [] w (K0 a2 w)) (hL : ∀ (a1 a2 a3 : Int32) (w : tmM), tmG p l e ({ frames := 0, cells := 0, slots := 0, locals := 0 } : Room) s m args below meth c 0 0 (MQ below (va_Qi (fun r u => z = (r, u)) (tmAt tm_shC 256 D cy ad A) A) args s 0 0 A) 4 D cy tm_shC ad 256 [] A z 4 [(0, .ref (ad 10)), (1, .int a1), (2, .int a2), (3, .int a3)] [] w (L a1 a2 a3 w)) (x1 x3 s0 s1 : Int32) (v : tmM) : tmG p l e ({ frames := 0, cells := 0, slots := 0, locals := 0 } : Room) s m args below meth c 0 0 (MQ below (va_Qi (fun r u => z = (r, u)) (tmAt tm_shC 256 D cy ad A) A) args s 0 0 A) 4 D cy tm_shC ad 256 [] A z 28 [(0, .ref (ad 10)), (1, .int x1), (3, .int x3)] [.int s0, .int s1] v (f_X1_keptOf_28 K0 L x1 x3 s0 s1 v) := by
  unfold f_X1_keptOf_28
  refine tg_iadd C0 dX1_keptOf_28 ?_
  refine tg_leti (fun y1 _ => ?_)
  refine tg_istore_n [(2, .int y1), (0, .ref (ad 10)), (1, .int x1), (3, .int x3)] C0 dX1_keptOf_29 rfl (by decide) rfl ?_
  refine tg_iinc [(3, .int (x3 + 1)), (2, .int y1), (0, .ref (ad 10)), (1, .int x1)] 3 C0 dX1_keptOf_30 rfl rfl (by decide) rfl ?_
  refine tg_goto 4 C0 dX1_keptOf_33 (by decide) ?_
  refine tg_sub [2, 3, 1, 0] rfl ?_
  exact hL x1 y1 (x3 + 1) v
def f_X1_keptOf_4b (K0 : Int32 → tmM → Option (Int32 × tmM)) (L : Int32 → Int32 → Int32 → tmM → Option (Int32 × tmM)) (x1 x2 x3 : Int32) (v : tmM) : Option (Int32 × tmM) := (if (v 10 2) ≤ x3 then K0 x2 v else tm_g (tm_ix x3 30) ((if (v 11 x3.toNatClampNeg) = x1 then f_X1_keptOf_28 K0 L x1 x3 1 x2 v else f_X1_keptOf_28 K0 L x1 x3 0 x2 v)))
set_option maxRecDepth 100000 in
set_option maxHeartbeats 4000000 in
theorem w_X1_keptOf_4b {p : Program} {l : Launch} {e : Env} {s : State} {m : MethodId} {args : Array Value} {below : List Frame} {meth : Method} {c : Code} {D : va_G} {cy : Nat → ClassId} {ad : Nat → Nat} {A : Nat → Prop} {z : (Int32 × tmM)} {K0 : Int32 → tmM → Option (Int32 × tmM)} {L : Int32 → Int32 → Int32 → tmM → Option (Int32 × tmM)} (C0 : tmC p s m args meth c cX1_keptOf 4 (some .int) RX1 TMW tm_NWC D cy tm_shC ad 256 [] A) (hK0 : ∀ (a2 : Int32) (w : tmM), tmG p l e ({ frames := 0, cells := 0, slots := 0, locals := 0 } : Room) s m args below meth c 0 0 (MQ below (va_Qi (fun r u => z = (r, u)) (tmAt tm_shC 256 D cy ad A) A) args s 0 0 A) 4 D cy tm_shC ad 256 [] A z 36 [(2, .int a2)] [] w (K0 a2 w)) (hL : ∀ (a1 a2 a3 : Int32) (w : tmM), tmG p l e ({ frames := 0, cells := 0, slots := 0, locals := 0 } : Room) s m args below meth c 0 0 (MQ below (va_Qi (fun r u => z = (r, u)) (tmAt tm_shC 256 D cy ad A) A) args s 0 0 A) 4 D cy tm_shC ad 256 [] A z 4 [(0, .ref (ad 10)), (1, .int a1), (2, .int a2), (3, .int a3)] [] w (L a1 a2 a3 w)) (x1 x2 x3 : Int32) (v : tmM) : tmG p l e ({ frames := 0, cells := 0, slots := 0, locals := 0 } : Room) s m args below meth c 0 0 (MQ below (va_Qi (fun r u => z = (r, u)) (tmAt tm_shC 256 D cy ad A) A) args s 0 0 A) 4 D cy tm_shC ad 256 [] A z 4 [(0, .ref (ad 10)), (1, .int x1), (2, .int x2), (3, .int x3)] [] v (f_X1_keptOf_4b K0 L x1 x2 x3 v) := by
  unfold f_X1_keptOf_4b
  refine tg_iload_n 3 C0 dX1_keptOf_4 rfl rfl ?_
  refine tg_aload_n 0 C0 dX1_keptOf_5 rfl rfl ?_
  refine tg_get 10 2 C0 dX1_keptOf_6 (by decide) rfl rfl tu_X1 (by decide) tf_X1_18 rfl rfl rfl ?_
  refine tg_icmp_ge 36 C0 dX1_keptOf_9 (by decide) (fun _ => ?_) (fun _ => ?_)
  · refine tg_sub [2] rfl ?_
    exact hK0 x2 v
  · refine tg_iload_n 2 C0 dX1_keptOf_12 rfl rfl ?_
    refine tg_aload_n 0 C0 dX1_keptOf_13 rfl rfl ?_
    refine tg_get 10 0 C0 dX1_keptOf_14 (by decide) rfl rfl tu_X1 (by decide) tf_X1_9 rfl rfl rfl ?_
    refine tg_iload_n 3 C0 dX1_keptOf_17 rfl rfl ?_
    refine tg_iald 11 C0 dX1_keptOf_18 (by decide) rfl (fun _ => ?_)
    refine tg_iload_n 1 C0 dX1_keptOf_19 rfl rfl ?_
    refine tg_icmp_ne 27 C0 dX1_keptOf_20 (by decide) (fun _ => ?_) (fun _ => ?_)
    · refine tg_iconst (x := 0) C0 dX1_keptOf_27 (by decide) ?_
      refine tg_sub [0, 1, 3] rfl ?_
      exact w_X1_keptOf_28 C0 hK0 hL x1 x3 0 x2 v
    · refine tg_iconst (x := 1) C0 dX1_keptOf_23 (by decide) ?_
      refine tg_goto 28 C0 dX1_keptOf_24 (by decide) ?_
      refine tg_sub [0, 1, 3] rfl ?_
      exact w_X1_keptOf_28 C0 hK0 hL x1 x3 1 x2 v
def f_X1_keptOf_4 (K0 : Int32 → tmM → Option (Int32 × tmM)) : Nat → Int32 → Int32 → Int32 → tmM → Option (Int32 × tmM)
  | 0 => fun _ _ _ _ => none
  | n + 1 => f_X1_keptOf_4b K0 (f_X1_keptOf_4 K0 n)
theorem w_X1_keptOf_4 {p : Program} {l : Launch} {e : Env} {s : State} {m : MethodId} {args : Array Value} {below : List Frame} {meth : Method} {c : Code} {D : va_G} {cy : Nat → ClassId} {ad : Nat → Nat} {A : Nat → Prop} {z : (Int32 × tmM)} {K0 : Int32 → tmM → Option (Int32 × tmM)} (C0 : tmC p s m args meth c cX1_keptOf 4 (some .int) RX1 TMW tm_NWC D cy tm_shC ad 256 [] A) (hK0 : ∀ (a2 : Int32) (w : tmM), tmG p l e ({ frames := 0, cells := 0, slots := 0, locals := 0 } : Room) s m args below meth c 0 0 (MQ below (va_Qi (fun r u => z = (r, u)) (tmAt tm_shC 256 D cy ad A) A) args s 0 0 A) 4 D cy tm_shC ad 256 [] A z 36 [(2, .int a2)] [] w (K0 a2 w)) (nn : Nat) : ∀ (x1 x2 x3 : Int32) (v : tmM), tmG p l e ({ frames := 0, cells := 0, slots := 0, locals := 0 } : Room) s m args below meth c 0 0 (MQ below (va_Qi (fun r u => z = (r, u)) (tmAt tm_shC 256 D cy ad A) A) args s 0 0 A) 4 D cy tm_shC ad 256 [] A z 4 [(0, .ref (ad 10)), (1, .int x1), (2, .int x2), (3, .int x3)] [] v (f_X1_keptOf_4 K0 nn x1 x2 x3 v) := by
  induction nn with
  | zero => intro _ _ _ _; exact tg_none
  | succ n ih => intro x1 x2 x3 v; exact w_X1_keptOf_4b C0 hK0 ih x1 x2 x3 v
def f_X1_keptOf (x1 : Int32) (v : tmM) : Option (Int32 × tmM) := f_X1_keptOf_4 (fun x2 v3 => some (x2, v3)) 10000 x1 0 0 v
set_option maxRecDepth 100000 in
set_option maxHeartbeats 4000000 in
theorem w_X1_keptOf {p : Program} {l : Launch} {e : Env} {s : State} {m : MethodId} {args : Array Value} {below : List Frame} {meth : Method} {c : Code} {D : va_G} {cy : Nat → ClassId} {ad : Nat → Nat} {A : Nat → Prop} {z : (Int32 × tmM)} (C0 : tmC p s m args meth c cX1_keptOf 4 (some .int) RX1 TMW tm_NWC D cy tm_shC ad 256 [] A) (x1 : Int32) (v : tmM) : tmG p l e ({ frames := 0, cells := 0, slots := 0, locals := 0 } : Room) s m args below meth c 0 0 (MQ below (va_Qi (fun r u => z = (r, u)) (tmAt tm_shC 256 D cy ad A) A) args s 0 0 A) 4 D cy tm_shC ad 256 [] A z 0 [(0, .ref (ad 10)), (1, .int x1)] [] v (f_X1_keptOf x1 v) := by
  unfold f_X1_keptOf
  refine tg_iconst (x := 0) C0 dX1_keptOf_0 (by decide) ?_
  refine tg_istore_n [(2, .int 0), (0, .ref (ad 10)), (1, .int x1)] C0 dX1_keptOf_1 rfl (by decide) rfl ?_
  refine tg_iconst (x := 0) C0 dX1_keptOf_2 (by decide) ?_
  refine tg_istore_n [(3, .int 0), (2, .int 0), (0, .ref (ad 10)), (1, .int x1)] C0 dX1_keptOf_3 rfl (by decide) rfl ?_
  refine tg_sub [2, 3, 1, 0] rfl ?_
  refine w_X1_keptOf_4 C0 (fun x2 v3 => ?_) 10000 x1 0 0 v
  refine tg_iload_n 0 C0 dX1_keptOf_36 rfl rfl ?_
  exact tg_iret C0 dX1_keptOf_37
theorem c_X1_keptOf (l : Launch) (x1 : Int32) (v : tmM) : tmMi tm_NWC tm_shC 256 l yX1_keptOf (Cond.code yX1_keptOf cX1_keptOf 4 (some .int) :: TMW) ({ frames := 0, cells := 0, slots := 0, locals := 0 } : Room) (fun ad => [.ref (ad 10), .int x1]) v (f_X1_keptOf x1 v) :=
  tmMi.of (cc := cX1_keptOf) (nL := 4) (by decide +kernel) rfl tm_NWC_ok (fun _ => Nat.le_of_ble_eq_true rfl) (fun p e s m args below meth c A D cy ad z C0 => w_X1_keptOf C0 x1 v)
-- ----- X1_latestOf
theorem dX1_latestOf_0 : decode cX1_latestOf 0 = .ok (.aload_n 0, 1) := by decide +kernel
theorem dX1_latestOf_1 : decode cX1_latestOf 1 = .ok (.getfield 18, 3) := by decide +kernel
theorem dX1_latestOf_4 : decode cX1_latestOf 4 = .ok (.iconst 1, 1) := by decide +kernel
theorem dX1_latestOf_5 : decode cX1_latestOf 5 = .ok (.isub, 1) := by decide +kernel
theorem dX1_latestOf_6 : decode cX1_latestOf 6 = .ok (.istore_n 2, 1) := by decide +kernel
theorem dX1_latestOf_7 : decode cX1_latestOf 7 = .ok (.iload_n 2, 1) := by decide +kernel
theorem dX1_latestOf_8 : decode cX1_latestOf 8 = .ok (.ifCond .lt 26, 3) := by decide +kernel
theorem dX1_latestOf_11 : decode cX1_latestOf 11 = .ok (.aload_n 0, 1) := by decide +kernel
theorem dX1_latestOf_12 : decode cX1_latestOf 12 = .ok (.getfield 9, 3) := by decide +kernel
theorem dX1_latestOf_15 : decode cX1_latestOf 15 = .ok (.iload_n 2, 1) := by decide +kernel
theorem dX1_latestOf_16 : decode cX1_latestOf 16 = .ok (.iaload, 1) := by decide +kernel
theorem dX1_latestOf_17 : decode cX1_latestOf 17 = .ok (.iload_n 1, 1) := by decide +kernel
theorem dX1_latestOf_18 : decode cX1_latestOf 18 = .ok (.if_icmp .ne 10, 3) := by decide +kernel
theorem dX1_latestOf_21 : decode cX1_latestOf 21 = .ok (.aload_n 0, 1) := by decide +kernel
theorem dX1_latestOf_22 : decode cX1_latestOf 22 = .ok (.getfield 15, 3) := by decide +kernel
theorem dX1_latestOf_25 : decode cX1_latestOf 25 = .ok (.iload_n 2, 1) := by decide +kernel
theorem dX1_latestOf_26 : decode cX1_latestOf 26 = .ok (.iaload, 1) := by decide +kernel
theorem dX1_latestOf_27 : decode cX1_latestOf 27 = .ok (.ireturn, 1) := by decide +kernel
theorem dX1_latestOf_28 : decode cX1_latestOf 28 = .ok (.iinc 2 (-1), 3) := by decide +kernel
theorem dX1_latestOf_31 : decode cX1_latestOf 31 = .ok (.goto (-24), 3) := by decide +kernel
theorem dX1_latestOf_34 : decode cX1_latestOf 34 = .ok (.iconst (-1), 1) := by decide +kernel
theorem dX1_latestOf_35 : decode cX1_latestOf 35 = .ok (.ireturn, 1) := by decide +kernel
def f_X1_latestOf_7b (K0 : tmM → Option (Int32 × tmM)) (L : Int32 → Int32 → tmM → Option (Int32 × tmM)) (x1 x2 : Int32) (v : tmM) : Option (Int32 × tmM) := (if x2 < 0 then K0 v else tm_g (tm_ix x2 30) ((if (v 11 x2.toNatClampNeg) = x1 then tm_g (tm_ix x2 30) (some (v 12 x2.toNatClampNeg, v)) else L x1 (x2 + (-1)) v)))
set_option maxRecDepth 100000 in
set_option maxHeartbeats 4000000 in
theorem w_X1_latestOf_7b {p : Program} {l : Launch} {e : Env} {s : State} {m : MethodId} {args : Array Value} {below : List Frame} {meth : Method} {c : Code} {D : va_G} {cy : Nat → ClassId} {ad : Nat → Nat} {A : Nat → Prop} {z : (Int32 × tmM)} {K0 : tmM → Option (Int32 × tmM)} {L : Int32 → Int32 → tmM → Option (Int32 × tmM)} (C0 : tmC p s m args meth c cX1_latestOf 3 (some .int) RX1 TMW tm_NWC D cy tm_shC ad 256 [] A) (hK0 : ∀ (w : tmM), tmG p l e ({ frames := 0, cells := 0, slots := 0, locals := 0 } : Room) s m args below meth c 0 0 (MQ below (va_Qi (fun r u => z = (r, u)) (tmAt tm_shC 256 D cy ad A) A) args s 0 0 A) 3 D cy tm_shC ad 256 [] A z 34 [] [] w (K0 w)) (hL : ∀ (a1 a2 : Int32) (w : tmM), tmG p l e ({ frames := 0, cells := 0, slots := 0, locals := 0 } : Room) s m args below meth c 0 0 (MQ below (va_Qi (fun r u => z = (r, u)) (tmAt tm_shC 256 D cy ad A) A) args s 0 0 A) 3 D cy tm_shC ad 256 [] A z 7 [(0, .ref (ad 10)), (1, .int a1), (2, .int a2)] [] w (L a1 a2 w)) (x1 x2 : Int32) (v : tmM) : tmG p l e ({ frames := 0, cells := 0, slots := 0, locals := 0 } : Room) s m args below meth c 0 0 (MQ below (va_Qi (fun r u => z = (r, u)) (tmAt tm_shC 256 D cy ad A) A) args s 0 0 A) 3 D cy tm_shC ad 256 [] A z 7 [(0, .ref (ad 10)), (1, .int x1), (2, .int x2)] [] v (f_X1_latestOf_7b K0 L x1 x2 v) := by
  unfold f_X1_latestOf_7b
  refine tg_iload_n 2 C0 dX1_latestOf_7 rfl rfl ?_
  refine tg_if_lt 34 C0 dX1_latestOf_8 (by decide) (fun _ => ?_) (fun _ => ?_)
  · refine tg_sub [] rfl ?_
    exact hK0 v
  · refine tg_aload_n 0 C0 dX1_latestOf_11 rfl rfl ?_
    refine tg_get 10 0 C0 dX1_latestOf_12 (by decide) rfl rfl tu_X1 (by decide) tf_X1_9 rfl rfl rfl ?_
    refine tg_iload_n 2 C0 dX1_latestOf_15 rfl rfl ?_
    refine tg_iald 11 C0 dX1_latestOf_16 (by decide) rfl (fun _ => ?_)
    refine tg_iload_n 1 C0 dX1_latestOf_17 rfl rfl ?_
    refine tg_icmp_ne 28 C0 dX1_latestOf_18 (by decide) (fun _ => ?_) (fun _ => ?_)
    · refine tg_iinc [(2, .int (x2 + (-1))), (0, .ref (ad 10)), (1, .int x1)] 2 C0 dX1_latestOf_28 rfl rfl (by decide) rfl ?_
      refine tg_goto 7 C0 dX1_latestOf_31 (by decide) ?_
      refine tg_sub [1, 2, 0] rfl ?_
      exact hL x1 (x2 + (-1)) v
    · refine tg_aload_n 0 C0 dX1_latestOf_21 rfl rfl ?_
      refine tg_get 10 1 C0 dX1_latestOf_22 (by decide) rfl rfl tu_X1 (by decide) tf_X1_15 rfl rfl rfl ?_
      refine tg_iload_n 2 C0 dX1_latestOf_25 rfl rfl ?_
      refine tg_iald 12 C0 dX1_latestOf_26 (by decide) rfl (fun _ => ?_)
      exact tg_iret C0 dX1_latestOf_27
def f_X1_latestOf_7 (K0 : tmM → Option (Int32 × tmM)) : Nat → Int32 → Int32 → tmM → Option (Int32 × tmM)
  | 0 => fun _ _ _ => none
  | n + 1 => f_X1_latestOf_7b K0 (f_X1_latestOf_7 K0 n)
theorem w_X1_latestOf_7 {p : Program} {l : Launch} {e : Env} {s : State} {m : MethodId} {args : Array Value} {below : List Frame} {meth : Method} {c : Code} {D : va_G} {cy : Nat → ClassId} {ad : Nat → Nat} {A : Nat → Prop} {z : (Int32 × tmM)} {K0 : tmM → Option (Int32 × tmM)} (C0 : tmC p s m args meth c cX1_latestOf 3 (some .int) RX1 TMW tm_NWC D cy tm_shC ad 256 [] A) (hK0 : ∀ (w : tmM), tmG p l e ({ frames := 0, cells := 0, slots := 0, locals := 0 } : Room) s m args below meth c 0 0 (MQ below (va_Qi (fun r u => z = (r, u)) (tmAt tm_shC 256 D cy ad A) A) args s 0 0 A) 3 D cy tm_shC ad 256 [] A z 34 [] [] w (K0 w)) (nn : Nat) : ∀ (x1 x2 : Int32) (v : tmM), tmG p l e ({ frames := 0, cells := 0, slots := 0, locals := 0 } : Room) s m args below meth c 0 0 (MQ below (va_Qi (fun r u => z = (r, u)) (tmAt tm_shC 256 D cy ad A) A) args s 0 0 A) 3 D cy tm_shC ad 256 [] A z 7 [(0, .ref (ad 10)), (1, .int x1), (2, .int x2)] [] v (f_X1_latestOf_7 K0 nn x1 x2 v) := by
  induction nn with
  | zero => intro _ _ _; exact tg_none
  | succ n ih => intro x1 x2 v; exact w_X1_latestOf_7b C0 hK0 ih x1 x2 v
def f_X1_latestOf (x1 : Int32) (v : tmM) : Option (Int32 × tmM) := tm_lt ((v 10 2) - 1) fun y1 => f_X1_latestOf_7 (fun v2 => some ((-1), v2)) 10000 x1 y1 v
set_option maxRecDepth 100000 in
set_option maxHeartbeats 4000000 in
theorem w_X1_latestOf {p : Program} {l : Launch} {e : Env} {s : State} {m : MethodId} {args : Array Value} {below : List Frame} {meth : Method} {c : Code} {D : va_G} {cy : Nat → ClassId} {ad : Nat → Nat} {A : Nat → Prop} {z : (Int32 × tmM)} (C0 : tmC p s m args meth c cX1_latestOf 3 (some .int) RX1 TMW tm_NWC D cy tm_shC ad 256 [] A) (x1 : Int32) (v : tmM) : tmG p l e ({ frames := 0, cells := 0, slots := 0, locals := 0 } : Room) s m args below meth c 0 0 (MQ below (va_Qi (fun r u => z = (r, u)) (tmAt tm_shC 256 D cy ad A) A) args s 0 0 A) 3 D cy tm_shC ad 256 [] A z 0 [(0, .ref (ad 10)), (1, .int x1)] [] v (f_X1_latestOf x1 v) := by
  unfold f_X1_latestOf
  refine tg_aload_n 0 C0 dX1_latestOf_0 rfl rfl ?_
  refine tg_get 10 2 C0 dX1_latestOf_1 (by decide) rfl rfl tu_X1 (by decide) tf_X1_18 rfl rfl rfl ?_
  refine tg_iconst (x := 1) C0 dX1_latestOf_4 (by decide) ?_
  refine tg_isub C0 dX1_latestOf_5 ?_
  refine tg_leti (fun y1 _ => ?_)
  refine tg_istore_n [(2, .int y1), (0, .ref (ad 10)), (1, .int x1)] C0 dX1_latestOf_6 rfl (by decide) rfl ?_
  refine tg_sub [1, 2, 0] rfl ?_
  refine w_X1_latestOf_7 C0 (fun v2 => ?_) 10000 x1 y1 v
  refine tg_iconst (x := (-1)) C0 dX1_latestOf_34 (by decide) ?_
  exact tg_iret C0 dX1_latestOf_35
theorem c_X1_latestOf (l : Launch) (x1 : Int32) (v : tmM) : tmMi tm_NWC tm_shC 256 l yX1_latestOf (Cond.code yX1_latestOf cX1_latestOf 3 (some .int) :: TMW) ({ frames := 0, cells := 0, slots := 0, locals := 0 } : Room) (fun ad => [.ref (ad 10), .int x1]) v (f_X1_latestOf x1 v) :=
  tmMi.of (cc := cX1_latestOf) (nL := 3) (by decide +kernel) rfl tm_NWC_ok (fun _ => Nat.le_of_ble_eq_true rfl) (fun p e s m args below meth c A D cy ad z C0 => w_X1_latestOf C0 x1 v)
-- ----- X6_become
theorem dX6_become_0 : decode cX6_become 0 = .ok (.aload_n 0, 1) := by decide +kernel
theorem dX6_become_1 : decode cX6_become 1 = .ok (.aload_n 1, 1) := by decide +kernel
theorem dX6_become_2 : decode cX6_become 2 = .ok (.getfield 16, 3) := by decide +kernel
theorem dX6_become_5 : decode cX6_become 5 = .ok (.putfield 16, 3) := by decide +kernel
theorem dX6_become_8 : decode cX6_become 8 = .ok (.iconst 0, 1) := by decide +kernel
theorem dX6_become_9 : decode cX6_become 9 = .ok (.istore_n 2, 1) := by decide +kernel
theorem dX6_become_10 : decode cX6_become 10 = .ok (.iload_n 2, 1) := by decide +kernel
theorem dX6_become_11 : decode cX6_become 11 = .ok (.iconst 3, 1) := by decide +kernel
theorem dX6_become_12 : decode cX6_become 12 = .ok (.if_icmp .ge 28, 3) := by decide +kernel
theorem dX6_become_15 : decode cX6_become 15 = .ok (.aload_n 1, 1) := by decide +kernel
theorem dX6_become_16 : decode cX6_become 16 = .ok (.getfield 11, 3) := by decide +kernel
theorem dX6_become_19 : decode cX6_become 19 = .ok (.iload_n 2, 1) := by decide +kernel
theorem dX6_become_20 : decode cX6_become 20 = .ok (.aaload, 1) := by decide +kernel
theorem dX6_become_21 : decode cX6_become 21 = .ok (.iconst 0, 1) := by decide +kernel
theorem dX6_become_22 : decode cX6_become 22 = .ok (.aload_n 0, 1) := by decide +kernel
theorem dX6_become_23 : decode cX6_become 23 = .ok (.getfield 11, 3) := by decide +kernel
theorem dX6_become_26 : decode cX6_become 26 = .ok (.iload_n 2, 1) := by decide +kernel
theorem dX6_become_27 : decode cX6_become 27 = .ok (.aaload, 1) := by decide +kernel
theorem dX6_become_28 : decode cX6_become 28 = .ok (.iconst 0, 1) := by decide +kernel
theorem dX6_become_29 : decode cX6_become 29 = .ok (.bipush 20, 2) := by decide +kernel
theorem dX6_become_31 : decode cX6_become 31 = .ok (.invokestatic 20, 3) := by decide +kernel
theorem dX6_become_34 : decode cX6_become 34 = .ok (.iinc 2 1, 3) := by decide +kernel
theorem dX6_become_37 : decode cX6_become 37 = .ok (.goto (-27), 3) := by decide +kernel
theorem dX6_become_40 : decode cX6_become 40 = .ok (.return_, 1) := by decide +kernel
theorem tf_X6_16 : Cond.fieldLink RX6 16 "TableMove$WriteLog" (TX6 1).2.1 (TX6 1).2.2.1 ∈ TMW := tm_in 222 (by decide +kernel) (by decide +kernel)
theorem tu_X6 : ∀ w ∈ u_ws RX6 TX6 2, w ∈ TMW := tm_us [224, 226] (by decide +kernel) (by decide +kernel)
theorem tf_X6_11 : Cond.fieldLink RX6 11 "TableMove$WriteLog" (TX6 0).2.1 (TX6 0).2.2.1 ∈ TMW := tm_in 220 (by decide +kernel) (by decide +kernel)
theorem tl_X6_20 : Cond.methodLink RX6 20 arraycopyName ∈ TMW := tm_in 525 (by decide +kernel) (by decide +kernel)
def f_X6_become_10b (k1 : Nat) (k2 : Nat) (K0 : tmM → Option (Unit × tmM)) (L : Int32 → tmM → Option (Unit × tmM)) (x2 : Int32) (v : tmM) : Option (Unit × tmM) := (if 3 ≤ x2 then K0 v else tm_g (tm_ix x2 3) (tm_lt (([(k2 + 15), (k2 + 16), (k2 + 17)] : List Nat).getD x2.toNatClampNeg 0) fun q3 => tm_g (tm_ix x2 3) (tm_lt (([(k1 + 15), (k1 + 16), (k1 + 17)] : List Nat).getD x2.toNatClampNeg 0) fun q6 => tm_g (tm_cok 0 0 20 20 20) (tm_lt (tm_set v q6 (va_cpy (v q3) (v q6) (0 : Int32).toNatClampNeg (0 : Int32).toNatClampNeg (20 : Int32).toNatClampNeg)) fun v8 => L (x2 + 1) v8))))
set_option maxRecDepth 100000 in
set_option maxHeartbeats 4000000 in
theorem w_X6_become_10b {p : Program} {l : Launch} {e : Env} {s : State} {m : MethodId} {args : Array Value} {below : List Frame} {meth : Method} {c : Code} {D : va_G} {cy : Nat → ClassId} {ad : Nat → Nat} {A : Nat → Prop} {z : (Unit × tmM)} {k1 : Nat} {k2 : Nat} {K0 : tmM → Option (Unit × tmM)} {L : Int32 → tmM → Option (Unit × tmM)} (C0 : tmC p s m args meth c cX6_become 3 none RX6 TMW tm_NWC D cy tm_shC ad 256 [] A) (hk1 : tm_isS k1) (hk2 : tm_isS k2) (hK0 : ∀ (w : tmM), tmG p l e ({ frames := 1, cells := 0, slots := 0, locals := 40 } : Room) s m args below meth c 0 0 (MQ below (va_Qv (fun u => z = ((), u)) (tmAt tm_shC 256 D cy ad A) A) args s 0 0 A) 3 D cy tm_shC ad 256 [] A z 40 [] [] w (K0 w)) (hL : ∀ (a2 : Int32) (w : tmM), tmG p l e ({ frames := 1, cells := 0, slots := 0, locals := 40 } : Room) s m args below meth c 0 0 (MQ below (va_Qv (fun u => z = ((), u)) (tmAt tm_shC 256 D cy ad A) A) args s 0 0 A) 3 D cy tm_shC ad 256 [] A z 10 [(0, .ref (ad (k1 + 13))), (1, .ref (ad (k2 + 13))), (2, .int a2)] [] w (L a2 w)) (x2 : Int32) (v : tmM) : tmG p l e ({ frames := 1, cells := 0, slots := 0, locals := 40 } : Room) s m args below meth c 0 0 (MQ below (va_Qv (fun u => z = ((), u)) (tmAt tm_shC 256 D cy ad A) A) args s 0 0 A) 3 D cy tm_shC ad 256 [] A z 10 [(0, .ref (ad (k1 + 13))), (1, .ref (ad (k2 + 13))), (2, .int x2)] [] v (f_X6_become_10b k1 k2 K0 L x2 v) := by
  unfold f_X6_become_10b
  refine tg_iload_n 2 C0 dX6_become_10 rfl rfl ?_
  refine tg_iconst (x := 3) C0 dX6_become_11 (by decide) ?_
  refine tg_icmp_ge 40 C0 dX6_become_12 (by decide) (fun _ => ?_) (fun _ => ?_)
  · refine tg_sub [] rfl ?_
    exact hK0 v
  · refine tg_aload_n 1 C0 dX6_become_15 rfl rfl ?_
    refine tg_get (k2 + 13) 0 C0 dX6_become_16 (tm_Sl 13 (by decide) hk2) (tm_S 13 (by decide) hk2) rfl tu_X6 (by decide) tf_X6_11 rfl rfl rfl ?_
    refine tg_iload_n 2 C0 dX6_become_19 rfl rfl ?_
    refine tg_aald (k2 + 14) C0 dX6_become_20 (tm_Sl 14 (by decide) hk2) (tm_S 14 (by decide) hk2) (by decide) rfl (fun q3 h2 e4 => ?_)
    have q3f := tm_all (P := fun r => tm_shC r = .inl (0, 20) ∧ r < 256) h2 e4 (tm_Sall14 hk2)
    refine tg_iconst (x := 0) C0 dX6_become_21 (by decide) ?_
    refine tg_aload_n 0 C0 dX6_become_22 rfl rfl ?_
    refine tg_get (k1 + 13) 0 C0 dX6_become_23 (tm_Sl 13 (by decide) hk1) (tm_S 13 (by decide) hk1) rfl tu_X6 (by decide) tf_X6_11 rfl rfl rfl ?_
    refine tg_iload_n 2 C0 dX6_become_26 rfl rfl ?_
    refine tg_aald (k1 + 14) C0 dX6_become_27 (tm_Sl 14 (by decide) hk1) (tm_S 14 (by decide) hk1) (by decide) rfl (fun q6 h5 e7 => ?_)
    have q6f := tm_all (P := fun r => tm_shC r = .inl (0, 20) ∧ r < 256) h5 e7 (tm_Sall14 hk1)
    refine tg_iconst (x := 0) C0 dX6_become_28 (by decide) ?_
    refine tg_bipush (x := 20) C0 dX6_become_29 (by decide) ?_
    refine tg_copy q3 q6 C0 dX6_become_31 q3f.2 q6f.2 q3f.1 q6f.1 tl_X6_20 tnat tsta tsys (by decide) (Nat.le_of_ble_eq_true rfl) ?_
    refine tg_letm (fun v8 _ => ?_)
    refine tg_iinc [(2, .int (x2 + 1)), (0, .ref (ad (k1 + 13))), (1, .ref (ad (k2 + 13)))] 2 C0 dX6_become_34 rfl rfl (by decide) rfl ?_
    refine tg_goto 10 C0 dX6_become_37 (by decide) ?_
    refine tg_sub [1, 2, 0] rfl ?_
    exact hL (x2 + 1) v8
def f_X6_become_10 (k1 : Nat) (k2 : Nat) (K0 : tmM → Option (Unit × tmM)) : Nat → Int32 → tmM → Option (Unit × tmM)
  | 0 => fun _ _ => none
  | n + 1 => f_X6_become_10b k1 k2 K0 (f_X6_become_10 k1 k2 K0 n)
theorem w_X6_become_10 {p : Program} {l : Launch} {e : Env} {s : State} {m : MethodId} {args : Array Value} {below : List Frame} {meth : Method} {c : Code} {D : va_G} {cy : Nat → ClassId} {ad : Nat → Nat} {A : Nat → Prop} {z : (Unit × tmM)} {k1 : Nat} {k2 : Nat} {K0 : tmM → Option (Unit × tmM)} (C0 : tmC p s m args meth c cX6_become 3 none RX6 TMW tm_NWC D cy tm_shC ad 256 [] A) (hk1 : tm_isS k1) (hk2 : tm_isS k2) (hK0 : ∀ (w : tmM), tmG p l e ({ frames := 1, cells := 0, slots := 0, locals := 40 } : Room) s m args below meth c 0 0 (MQ below (va_Qv (fun u => z = ((), u)) (tmAt tm_shC 256 D cy ad A) A) args s 0 0 A) 3 D cy tm_shC ad 256 [] A z 40 [] [] w (K0 w)) (nn : Nat) : ∀ (x2 : Int32) (v : tmM), tmG p l e ({ frames := 1, cells := 0, slots := 0, locals := 40 } : Room) s m args below meth c 0 0 (MQ below (va_Qv (fun u => z = ((), u)) (tmAt tm_shC 256 D cy ad A) A) args s 0 0 A) 3 D cy tm_shC ad 256 [] A z 10 [(0, .ref (ad (k1 + 13))), (1, .ref (ad (k2 + 13))), (2, .int x2)] [] v (f_X6_become_10 k1 k2 K0 nn x2 v) := by
  induction nn with
  | zero => intro _ _; exact tg_none
  | succ n ih => intro x2 v; exact w_X6_become_10b C0 hk1 hk2 hK0 ih x2 v
def f_X6_become (k1 : Nat) (k2 : Nat) (v : tmM) : Option (Unit × tmM) := tm_lt (tm_up v (k1 + 13) 1 (v (k2 + 13) 1)) fun v1 => f_X6_become_10 k1 k2 (fun v9 => some ((), v9)) 10000 0 v1
set_option maxRecDepth 100000 in
set_option maxHeartbeats 4000000 in
theorem w_X6_become {p : Program} {l : Launch} {e : Env} {s : State} {m : MethodId} {args : Array Value} {below : List Frame} {meth : Method} {c : Code} {D : va_G} {cy : Nat → ClassId} {ad : Nat → Nat} {A : Nat → Prop} {z : (Unit × tmM)} {k1 : Nat} {k2 : Nat} (C0 : tmC p s m args meth c cX6_become 3 none RX6 TMW tm_NWC D cy tm_shC ad 256 [] A) (hk1 : tm_isS k1) (hk2 : tm_isS k2) (v : tmM) : tmG p l e ({ frames := 1, cells := 0, slots := 0, locals := 40 } : Room) s m args below meth c 0 0 (MQ below (va_Qv (fun u => z = ((), u)) (tmAt tm_shC 256 D cy ad A) A) args s 0 0 A) 3 D cy tm_shC ad 256 [] A z 0 [(0, .ref (ad (k1 + 13))), (1, .ref (ad (k2 + 13)))] [] v (f_X6_become k1 k2 v) := by
  unfold f_X6_become
  refine tg_aload_n 0 C0 dX6_become_0 rfl rfl ?_
  refine tg_aload_n 1 C0 dX6_become_1 rfl rfl ?_
  refine tg_get (k2 + 13) 1 C0 dX6_become_2 (tm_Sl 13 (by decide) hk2) (tm_S 13 (by decide) hk2) rfl tu_X6 (by decide) tf_X6_16 rfl rfl rfl ?_
  refine tg_put (k1 + 13) 1 C0 dX6_become_5 (tm_Sl 13 (by decide) hk1) (tm_S 13 (by decide) hk1) rfl tu_X6 tyX6_ok nmX6 (by decide) tf_X6_16 rfl rfl rfl rfl rfl rfl ?_
  refine tg_letm (fun v1 _ => ?_)
  refine tg_iconst (x := 0) C0 dX6_become_8 (by decide) ?_
  refine tg_istore_n [(2, .int 0), (0, .ref (ad (k1 + 13))), (1, .ref (ad (k2 + 13)))] C0 dX6_become_9 rfl (by decide) rfl ?_
  refine tg_sub [1, 2, 0] rfl ?_
  refine w_X6_become_10 C0 hk1 hk2 (fun v9 => ?_) 10000 0 v1
  exact tg_vret C0 dX6_become_40
theorem c_X6_become (l : Launch) (k1 : Nat) (k2 : Nat) (hk1 : tm_isS k1) (hk2 : tm_isS k2) (v : tmM) : tmMv tm_NWC tm_shC 256 l yX6_become (Cond.code yX6_become cX6_become 3 none :: TMW) ({ frames := 1, cells := 0, slots := 0, locals := 40 } : Room) (fun ad => [.ref (ad (k1 + 13)), .ref (ad (k2 + 13))]) v (f_X6_become k1 k2 v) :=
  tmMv.of (cc := cX6_become) (nL := 3) (by decide +kernel) rfl tm_NWC_ok (fun _ => Nat.le_of_ble_eq_true rfl) (fun p e s m args below meth c A D cy ad z C0 => w_X6_become C0 hk1 hk2 v)
-- ----- X6_clear
theorem dX6_clear_0 : decode cX6_clear 0 = .ok (.aload_n 0, 1) := by decide +kernel
theorem dX6_clear_1 : decode cX6_clear 1 = .ok (.iconst 0, 1) := by decide +kernel
theorem dX6_clear_2 : decode cX6_clear 2 = .ok (.putfield 16, 3) := by decide +kernel
theorem dX6_clear_5 : decode cX6_clear 5 = .ok (.return_, 1) := by decide +kernel
def f_X6_clear (v : tmM) : Option (Unit × tmM) := tm_lt (tm_up v 13 1 0) fun v1 => some ((), v1)
set_option maxRecDepth 100000 in
set_option maxHeartbeats 4000000 in
theorem w_X6_clear {p : Program} {l : Launch} {e : Env} {s : State} {m : MethodId} {args : Array Value} {below : List Frame} {meth : Method} {c : Code} {D : va_G} {cy : Nat → ClassId} {ad : Nat → Nat} {A : Nat → Prop} {z : (Unit × tmM)} (C0 : tmC p s m args meth c cX6_clear 1 none RX6 TMW tm_NWC D cy tm_shC ad 256 [] A) (v : tmM) : tmG p l e ({ frames := 0, cells := 0, slots := 0, locals := 0 } : Room) s m args below meth c 0 0 (MQ below (va_Qv (fun u => z = ((), u)) (tmAt tm_shC 256 D cy ad A) A) args s 0 0 A) 1 D cy tm_shC ad 256 [] A z 0 [(0, .ref (ad 13))] [] v (f_X6_clear v) := by
  unfold f_X6_clear
  refine tg_aload_n 0 C0 dX6_clear_0 rfl rfl ?_
  refine tg_iconst (x := 0) C0 dX6_clear_1 (by decide) ?_
  refine tg_put 13 1 C0 dX6_clear_2 (by decide) rfl rfl tu_X6 tyX6_ok nmX6 (by decide) tf_X6_16 rfl rfl rfl rfl rfl rfl ?_
  refine tg_letm (fun v1 _ => ?_)
  exact tg_vret C0 dX6_clear_5
theorem c_X6_clear (l : Launch) (v : tmM) : tmMv tm_NWC tm_shC 256 l yX6_clear (Cond.code yX6_clear cX6_clear 1 none :: TMW) ({ frames := 0, cells := 0, slots := 0, locals := 0 } : Room) (fun ad => [.ref (ad 13)]) v (f_X6_clear v) :=
  tmMv.of (cc := cX6_clear) (nL := 1) (by decide +kernel) rfl tm_NWC_ok (fun _ => Nat.le_of_ble_eq_true rfl) (fun p e s m args below meth c A D cy ad z C0 => w_X6_clear C0 v)
-- ----- X6_kept
theorem dX6_kept_0 : decode cX6_kept 0 = .ok (.aload_n 0, 1) := by decide +kernel
theorem dX6_kept_1 : decode cX6_kept 1 = .ok (.getfield 16, 3) := by decide +kernel
theorem dX6_kept_4 : decode cX6_kept 4 = .ok (.bipush 20, 2) := by decide +kernel
theorem dX6_kept_6 : decode cX6_kept 6 = .ok (.invokestatic 26, 3) := by decide +kernel
theorem dX6_kept_9 : decode cX6_kept 9 = .ok (.ireturn, 1) := by decide +kernel
theorem tl_X6_26 : Cond.methodLink RX6 26 Lib.Math.min.name ∈ TMW := tm_in 1053 (by decide +kernel) (by decide +kernel)
theorem tmminst : Cond.static Lib.Math.min.name ∈ TMW := tm_in 471 (by decide +kernel) (by decide +kernel)
theorem tmath : Cond.initialized "java/lang/Math" ∈ TMW := tm_in 129 (by decide +kernel) (by decide +kernel)
theorem tmminco : Cond.code Lib.Math.min.name Lib.Math.min.code 2 (some .int) ∈ TMW := tm_in 472 (by decide +kernel) (by decide +kernel)
def f_X6_kept (v : tmM) : Option (Int32 × tmM) := some (if 20 < (v 13 1) then 20 else v 13 1, v)
set_option maxRecDepth 100000 in
set_option maxHeartbeats 4000000 in
theorem w_X6_kept {p : Program} {l : Launch} {e : Env} {s : State} {m : MethodId} {args : Array Value} {below : List Frame} {meth : Method} {c : Code} {D : va_G} {cy : Nat → ClassId} {ad : Nat → Nat} {A : Nat → Prop} {z : (Int32 × tmM)} (C0 : tmC p s m args meth c cX6_kept 1 (some .int) RX6 TMW tm_NWC D cy tm_shC ad 256 [] A) (v : tmM) : tmG p l e ({ frames := 1, cells := 0, slots := 0, locals := 40 } : Room) s m args below meth c 0 0 (MQ below (va_Qi (fun r u => z = (r, u)) (tmAt tm_shC 256 D cy ad A) A) args s 0 0 A) 1 D cy tm_shC ad 256 [] A z 0 [(0, .ref (ad 13))] [] v (f_X6_kept v) := by
  unfold f_X6_kept
  refine tg_aload_n 0 C0 dX6_kept_0 rfl rfl ?_
  refine tg_get 13 1 C0 dX6_kept_1 (by decide) rfl rfl tu_X6 (by decide) tf_X6_16 rfl rfl rfl ?_
  refine tg_bipush (x := 20) C0 dX6_kept_4 (by decide) ?_
  refine tg_mmin C0 dX6_kept_6 tl_X6_26 tmminst tmath tmminco (by decide) (Nat.le_of_ble_eq_true rfl) ⟨by decide, by decide⟩ ?_
  exact tg_iret C0 dX6_kept_9
theorem c_X6_kept (l : Launch) (v : tmM) : tmMi tm_NWC tm_shC 256 l yX6_kept (Cond.code yX6_kept cX6_kept 1 (some .int) :: TMW) ({ frames := 1, cells := 0, slots := 0, locals := 40 } : Room) (fun ad => [.ref (ad 13)]) v (f_X6_kept v) :=
  tmMi.of (cc := cX6_kept) (nL := 1) (by decide +kernel) rfl tm_NWC_ok (fun _ => Nat.le_of_ble_eq_true rfl) (fun p e s m args below meth c A D cy ad z C0 => w_X6_kept C0 v)
-- ----- X6_add
theorem dX6_add_0 : decode cX6_add 0 = .ok (.iconst 0, 1) := by decide +kernel
theorem dX6_add_1 : decode cX6_add 1 = .ok (.istore 4, 2) := by decide +kernel
theorem dX6_add_3 : decode cX6_add 3 = .ok (.iload 4, 2) := by decide +kernel
theorem dX6_add_5 : decode cX6_add 5 = .ok (.iconst 3, 1) := by decide +kernel
theorem dX6_add_6 : decode cX6_add 6 = .ok (.if_icmp .ge 30, 3) := by decide +kernel
theorem dX6_add_9 : decode cX6_add 9 = .ok (.aload_n 0, 1) := by decide +kernel
theorem dX6_add_10 : decode cX6_add 10 = .ok (.getfield 11, 3) := by decide +kernel
theorem dX6_add_13 : decode cX6_add 13 = .ok (.iload 4, 2) := by decide +kernel
theorem dX6_add_15 : decode cX6_add 15 = .ok (.aaload, 1) := by decide +kernel
theorem dX6_add_16 : decode cX6_add 16 = .ok (.iconst 0, 1) := by decide +kernel
theorem dX6_add_17 : decode cX6_add 17 = .ok (.aload_n 0, 1) := by decide +kernel
theorem dX6_add_18 : decode cX6_add 18 = .ok (.getfield 11, 3) := by decide +kernel
theorem dX6_add_21 : decode cX6_add 21 = .ok (.iload 4, 2) := by decide +kernel
theorem dX6_add_23 : decode cX6_add 23 = .ok (.aaload, 1) := by decide +kernel
theorem dX6_add_24 : decode cX6_add 24 = .ok (.iconst 1, 1) := by decide +kernel
theorem dX6_add_25 : decode cX6_add 25 = .ok (.bipush 19, 2) := by decide +kernel
theorem dX6_add_27 : decode cX6_add 27 = .ok (.invokestatic 20, 3) := by decide +kernel
theorem dX6_add_30 : decode cX6_add 30 = .ok (.iinc 4 1, 3) := by decide +kernel
theorem dX6_add_33 : decode cX6_add 33 = .ok (.goto (-30), 3) := by decide +kernel
theorem dX6_add_36 : decode cX6_add 36 = .ok (.aload_n 0, 1) := by decide +kernel
theorem dX6_add_37 : decode cX6_add 37 = .ok (.getfield 11, 3) := by decide +kernel
theorem dX6_add_40 : decode cX6_add 40 = .ok (.iconst 0, 1) := by decide +kernel
theorem dX6_add_41 : decode cX6_add 41 = .ok (.aaload, 1) := by decide +kernel
theorem dX6_add_42 : decode cX6_add 42 = .ok (.iconst 0, 1) := by decide +kernel
theorem dX6_add_43 : decode cX6_add 43 = .ok (.iload_n 1, 1) := by decide +kernel
theorem dX6_add_44 : decode cX6_add 44 = .ok (.iastore, 1) := by decide +kernel
theorem dX6_add_45 : decode cX6_add 45 = .ok (.aload_n 0, 1) := by decide +kernel
theorem dX6_add_46 : decode cX6_add 46 = .ok (.getfield 11, 3) := by decide +kernel
theorem dX6_add_49 : decode cX6_add 49 = .ok (.iconst 1, 1) := by decide +kernel
theorem dX6_add_50 : decode cX6_add 50 = .ok (.aaload, 1) := by decide +kernel
theorem dX6_add_51 : decode cX6_add 51 = .ok (.iconst 0, 1) := by decide +kernel
theorem dX6_add_52 : decode cX6_add 52 = .ok (.iload_n 2, 1) := by decide +kernel
theorem dX6_add_53 : decode cX6_add 53 = .ok (.iastore, 1) := by decide +kernel
theorem dX6_add_54 : decode cX6_add 54 = .ok (.aload_n 0, 1) := by decide +kernel
theorem dX6_add_55 : decode cX6_add 55 = .ok (.getfield 11, 3) := by decide +kernel
theorem dX6_add_58 : decode cX6_add 58 = .ok (.iconst 2, 1) := by decide +kernel
theorem dX6_add_59 : decode cX6_add 59 = .ok (.aaload, 1) := by decide +kernel
theorem dX6_add_60 : decode cX6_add 60 = .ok (.iconst 0, 1) := by decide +kernel
theorem dX6_add_61 : decode cX6_add 61 = .ok (.iload_n 3, 1) := by decide +kernel
theorem dX6_add_62 : decode cX6_add 62 = .ok (.iastore, 1) := by decide +kernel
theorem dX6_add_63 : decode cX6_add 63 = .ok (.aload_n 0, 1) := by decide +kernel
theorem dX6_add_64 : decode cX6_add 64 = .ok (.dup, 1) := by decide +kernel
theorem dX6_add_65 : decode cX6_add 65 = .ok (.getfield 16, 3) := by decide +kernel
theorem dX6_add_68 : decode cX6_add 68 = .ok (.iconst 1, 1) := by decide +kernel
theorem dX6_add_69 : decode cX6_add 69 = .ok (.iadd, 1) := by decide +kernel
theorem dX6_add_70 : decode cX6_add 70 = .ok (.putfield 16, 3) := by decide +kernel
theorem dX6_add_73 : decode cX6_add 73 = .ok (.return_, 1) := by decide +kernel
def f_X6_add_3b (K0 : Int32 → Int32 → Int32 → tmM → Option (Unit × tmM)) (L : Int32 → Int32 → Int32 → Int32 → tmM → Option (Unit × tmM)) (x1 x2 x3 x4 : Int32) (v : tmM) : Option (Unit × tmM) := (if 3 ≤ x4 then K0 x1 x2 x3 v else tm_g (tm_ix x4 3) (tm_lt (([15, 16, 17] : List Nat).getD x4.toNatClampNeg 0) fun q2 => tm_g (tm_ix x4 3) (tm_lt (([15, 16, 17] : List Nat).getD x4.toNatClampNeg 0) fun q5 => tm_g (tm_cok 0 1 19 20 20) (tm_lt (tm_set v q5 (va_cpy (v q2) (v q5) (0 : Int32).toNatClampNeg (1 : Int32).toNatClampNeg (19 : Int32).toNatClampNeg)) fun v7 => L x1 x2 x3 (x4 + 1) v7))))
set_option maxRecDepth 100000 in
set_option maxHeartbeats 4000000 in
theorem w_X6_add_3b {p : Program} {l : Launch} {e : Env} {s : State} {m : MethodId} {args : Array Value} {below : List Frame} {meth : Method} {c : Code} {D : va_G} {cy : Nat → ClassId} {ad : Nat → Nat} {A : Nat → Prop} {z : (Unit × tmM)} {K0 : Int32 → Int32 → Int32 → tmM → Option (Unit × tmM)} {L : Int32 → Int32 → Int32 → Int32 → tmM → Option (Unit × tmM)} (C0 : tmC p s m args meth c cX6_add 5 none RX6 TMW tm_NWC D cy tm_shC ad 256 [] A) (hK0 : ∀ (a1 a2 a3 : Int32) (w : tmM), tmG p l e ({ frames := 1, cells := 0, slots := 0, locals := 40 } : Room) s m args below meth c 0 0 (MQ below (va_Qv (fun u => z = ((), u)) (tmAt tm_shC 256 D cy ad A) A) args s 0 0 A) 5 D cy tm_shC ad 256 [] A z 36 [(0, .ref (ad 13)), (1, .int a1), (2, .int a2), (3, .int a3)] [] w (K0 a1 a2 a3 w)) (hL : ∀ (a1 a2 a3 a4 : Int32) (w : tmM), tmG p l e ({ frames := 1, cells := 0, slots := 0, locals := 40 } : Room) s m args below meth c 0 0 (MQ below (va_Qv (fun u => z = ((), u)) (tmAt tm_shC 256 D cy ad A) A) args s 0 0 A) 5 D cy tm_shC ad 256 [] A z 3 [(0, .ref (ad 13)), (1, .int a1), (2, .int a2), (3, .int a3), (4, .int a4)] [] w (L a1 a2 a3 a4 w)) (x1 x2 x3 x4 : Int32) (v : tmM) : tmG p l e ({ frames := 1, cells := 0, slots := 0, locals := 40 } : Room) s m args below meth c 0 0 (MQ below (va_Qv (fun u => z = ((), u)) (tmAt tm_shC 256 D cy ad A) A) args s 0 0 A) 5 D cy tm_shC ad 256 [] A z 3 [(0, .ref (ad 13)), (1, .int x1), (2, .int x2), (3, .int x3), (4, .int x4)] [] v (f_X6_add_3b K0 L x1 x2 x3 x4 v) := by
  unfold f_X6_add_3b
  refine tg_iload 4 C0 dX6_add_3 rfl ?_
  refine tg_iconst (x := 3) C0 dX6_add_5 (by decide) ?_
  refine tg_icmp_ge 36 C0 dX6_add_6 (by decide) (fun _ => ?_) (fun _ => ?_)
  · refine tg_sub [0, 1, 2, 3] rfl ?_
    exact hK0 x1 x2 x3 v
  · refine tg_aload_n 0 C0 dX6_add_9 rfl rfl ?_
    refine tg_get 13 0 C0 dX6_add_10 (by decide) rfl rfl tu_X6 (by decide) tf_X6_11 rfl rfl rfl ?_
    refine tg_iload 4 C0 dX6_add_13 rfl ?_
    refine tg_aald 14 C0 dX6_add_15 (by decide) rfl (by decide) rfl (fun q2 h1 e3 => ?_)
    have q2f := tm_all (P := fun r => tm_shC r = .inl (0, 20) ∧ r < 256) h1 e3 (by decide +kernel)
    refine tg_iconst (x := 0) C0 dX6_add_16 (by decide) ?_
    refine tg_aload_n 0 C0 dX6_add_17 rfl rfl ?_
    refine tg_get 13 0 C0 dX6_add_18 (by decide) rfl rfl tu_X6 (by decide) tf_X6_11 rfl rfl rfl ?_
    refine tg_iload 4 C0 dX6_add_21 rfl ?_
    refine tg_aald 14 C0 dX6_add_23 (by decide) rfl (by decide) rfl (fun q5 h4 e6 => ?_)
    have q5f := tm_all (P := fun r => tm_shC r = .inl (0, 20) ∧ r < 256) h4 e6 (by decide +kernel)
    refine tg_iconst (x := 1) C0 dX6_add_24 (by decide) ?_
    refine tg_bipush (x := 19) C0 dX6_add_25 (by decide) ?_
    refine tg_copy q2 q5 C0 dX6_add_27 q2f.2 q5f.2 q2f.1 q5f.1 tl_X6_20 tnat tsta tsys (by decide) (Nat.le_of_ble_eq_true rfl) ?_
    refine tg_letm (fun v7 _ => ?_)
    refine tg_iinc [(4, .int (x4 + 1)), (0, .ref (ad 13)), (1, .int x1), (2, .int x2), (3, .int x3)] 4 C0 dX6_add_30 rfl rfl (by decide) rfl ?_
    refine tg_goto 3 C0 dX6_add_33 (by decide) ?_
    refine tg_sub [1, 2, 3, 4, 0] rfl ?_
    exact hL x1 x2 x3 (x4 + 1) v7
def f_X6_add_3 (K0 : Int32 → Int32 → Int32 → tmM → Option (Unit × tmM)) : Nat → Int32 → Int32 → Int32 → Int32 → tmM → Option (Unit × tmM)
  | 0 => fun _ _ _ _ _ => none
  | n + 1 => f_X6_add_3b K0 (f_X6_add_3 K0 n)
theorem w_X6_add_3 {p : Program} {l : Launch} {e : Env} {s : State} {m : MethodId} {args : Array Value} {below : List Frame} {meth : Method} {c : Code} {D : va_G} {cy : Nat → ClassId} {ad : Nat → Nat} {A : Nat → Prop} {z : (Unit × tmM)} {K0 : Int32 → Int32 → Int32 → tmM → Option (Unit × tmM)} (C0 : tmC p s m args meth c cX6_add 5 none RX6 TMW tm_NWC D cy tm_shC ad 256 [] A) (hK0 : ∀ (a1 a2 a3 : Int32) (w : tmM), tmG p l e ({ frames := 1, cells := 0, slots := 0, locals := 40 } : Room) s m args below meth c 0 0 (MQ below (va_Qv (fun u => z = ((), u)) (tmAt tm_shC 256 D cy ad A) A) args s 0 0 A) 5 D cy tm_shC ad 256 [] A z 36 [(0, .ref (ad 13)), (1, .int a1), (2, .int a2), (3, .int a3)] [] w (K0 a1 a2 a3 w)) (nn : Nat) : ∀ (x1 x2 x3 x4 : Int32) (v : tmM), tmG p l e ({ frames := 1, cells := 0, slots := 0, locals := 40 } : Room) s m args below meth c 0 0 (MQ below (va_Qv (fun u => z = ((), u)) (tmAt tm_shC 256 D cy ad A) A) args s 0 0 A) 5 D cy tm_shC ad 256 [] A z 3 [(0, .ref (ad 13)), (1, .int x1), (2, .int x2), (3, .int x3), (4, .int x4)] [] v (f_X6_add_3 K0 nn x1 x2 x3 x4 v) := by
  induction nn with
  | zero => intro _ _ _ _ _; exact tg_none
  | succ n ih => intro x1 x2 x3 x4 v; exact w_X6_add_3b C0 hK0 ih x1 x2 x3 x4 v
def f_X6_add (x1 x2 x3 : Int32) (v : tmM) : Option (Unit × tmM) := f_X6_add_3 (fun x8 x9 x10 v11 => tm_g (tm_ix 0 3) (tm_lt (([15, 16, 17] : List Nat).getD (0 : Int32).toNatClampNeg 0) fun q13 => tm_g (tm_ix 0 20) (tm_lt (tm_up v11 q13 (0 : Int32).toNatClampNeg x8) fun v15 => tm_g (tm_ix 1 3) (tm_lt (([15, 16, 17] : List Nat).getD (1 : Int32).toNatClampNeg 0) fun q17 => tm_g (tm_ix 0 20) (tm_lt (tm_up v15 q17 (0 : Int32).toNatClampNeg x9) fun v19 => tm_g (tm_ix 2 3) (tm_lt (([15, 16, 17] : List Nat).getD (2 : Int32).toNatClampNeg 0) fun q21 => tm_g (tm_ix 0 20) (tm_lt (tm_up v19 q21 (0 : Int32).toNatClampNeg x10) fun v23 => tm_lt (tm_up v23 13 1 ((v23 13 1) + 1)) fun v24 => some ((), v24)))))))) 10000 x1 x2 x3 0 v
set_option maxRecDepth 100000 in
set_option maxHeartbeats 4000000 in
theorem w_X6_add {p : Program} {l : Launch} {e : Env} {s : State} {m : MethodId} {args : Array Value} {below : List Frame} {meth : Method} {c : Code} {D : va_G} {cy : Nat → ClassId} {ad : Nat → Nat} {A : Nat → Prop} {z : (Unit × tmM)} (C0 : tmC p s m args meth c cX6_add 5 none RX6 TMW tm_NWC D cy tm_shC ad 256 [] A) (x1 x2 x3 : Int32) (v : tmM) : tmG p l e ({ frames := 1, cells := 0, slots := 0, locals := 40 } : Room) s m args below meth c 0 0 (MQ below (va_Qv (fun u => z = ((), u)) (tmAt tm_shC 256 D cy ad A) A) args s 0 0 A) 5 D cy tm_shC ad 256 [] A z 0 [(0, .ref (ad 13)), (1, .int x1), (2, .int x2), (3, .int x3)] [] v (f_X6_add x1 x2 x3 v) := by
  unfold f_X6_add
  refine tg_iconst (x := 0) C0 dX6_add_0 (by decide) ?_
  refine tg_istore [(4, .int 0), (0, .ref (ad 13)), (1, .int x1), (2, .int x2), (3, .int x3)] C0 dX6_add_1 (by decide) rfl ?_
  refine tg_sub [1, 2, 3, 4, 0] rfl ?_
  refine w_X6_add_3 C0 (fun x8 x9 x10 v11 => ?_) 10000 x1 x2 x3 0 v
  refine tg_aload_n 0 C0 dX6_add_36 rfl rfl ?_
  refine tg_get 13 0 C0 dX6_add_37 (by decide) rfl rfl tu_X6 (by decide) tf_X6_11 rfl rfl rfl ?_
  refine tg_iconst (x := 0) C0 dX6_add_40 (by decide) ?_
  refine tg_aald 14 C0 dX6_add_41 (by decide) rfl (by decide) rfl (fun q13 h12 e14 => ?_)
  have q13f := tm_all (P := fun r => tm_shC r = .inl (0, 20) ∧ r < 256) h12 e14 (by decide +kernel)
  refine tg_iconst (x := 0) C0 dX6_add_42 (by decide) ?_
  refine tg_iload_n 1 C0 dX6_add_43 rfl rfl ?_
  refine tg_iast q13 C0 dX6_add_44 q13f.2 q13f.1 (fun _ => ?_)
  refine tg_letm (fun v15 _ => ?_)
  refine tg_aload_n 0 C0 dX6_add_45 rfl rfl ?_
  refine tg_get 13 0 C0 dX6_add_46 (by decide) rfl rfl tu_X6 (by decide) tf_X6_11 rfl rfl rfl ?_
  refine tg_iconst (x := 1) C0 dX6_add_49 (by decide) ?_
  refine tg_aald 14 C0 dX6_add_50 (by decide) rfl (by decide) rfl (fun q17 h16 e18 => ?_)
  have q17f := tm_all (P := fun r => tm_shC r = .inl (0, 20) ∧ r < 256) h16 e18 (by decide +kernel)
  refine tg_iconst (x := 0) C0 dX6_add_51 (by decide) ?_
  refine tg_iload_n 2 C0 dX6_add_52 rfl rfl ?_
  refine tg_iast q17 C0 dX6_add_53 q17f.2 q17f.1 (fun _ => ?_)
  refine tg_letm (fun v19 _ => ?_)
  refine tg_aload_n 0 C0 dX6_add_54 rfl rfl ?_
  refine tg_get 13 0 C0 dX6_add_55 (by decide) rfl rfl tu_X6 (by decide) tf_X6_11 rfl rfl rfl ?_
  refine tg_iconst (x := 2) C0 dX6_add_58 (by decide) ?_
  refine tg_aald 14 C0 dX6_add_59 (by decide) rfl (by decide) rfl (fun q21 h20 e22 => ?_)
  have q21f := tm_all (P := fun r => tm_shC r = .inl (0, 20) ∧ r < 256) h20 e22 (by decide +kernel)
  refine tg_iconst (x := 0) C0 dX6_add_60 (by decide) ?_
  refine tg_iload_n 3 C0 dX6_add_61 rfl rfl ?_
  refine tg_iast q21 C0 dX6_add_62 q21f.2 q21f.1 (fun _ => ?_)
  refine tg_letm (fun v23 _ => ?_)
  refine tg_aload_n 0 C0 dX6_add_63 rfl rfl ?_
  refine tg_dup C0 dX6_add_64 rfl ?_
  refine tg_get 13 1 C0 dX6_add_65 (by decide) rfl rfl tu_X6 (by decide) tf_X6_16 rfl rfl rfl ?_
  refine tg_iconst (x := 1) C0 dX6_add_68 (by decide) ?_
  refine tg_iadd C0 dX6_add_69 ?_
  refine tg_put 13 1 C0 dX6_add_70 (by decide) rfl rfl tu_X6 tyX6_ok nmX6 (by decide) tf_X6_16 rfl rfl rfl rfl rfl rfl ?_
  refine tg_letm (fun v24 _ => ?_)
  exact tg_vret C0 dX6_add_73
theorem c_X6_add (l : Launch) (x1 x2 x3 : Int32) (v : tmM) : tmMv tm_NWC tm_shC 256 l yX6_add (Cond.code yX6_add cX6_add 5 none :: TMW) ({ frames := 1, cells := 0, slots := 0, locals := 40 } : Room) (fun ad => [.ref (ad 13), .int x1, .int x2, .int x3]) v (f_X6_add x1 x2 x3 v) :=
  tmMv.of (cc := cX6_add) (nL := 5) (by decide +kernel) rfl tm_NWC_ok (fun _ => Nat.le_of_ble_eq_true rfl) (fun p e s m args below meth c A D cy ad z C0 => w_X6_add C0 x1 x2 x3 v)
