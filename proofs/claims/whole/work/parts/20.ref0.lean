-- ----- X8_in
theorem dX8_in_0 : decode cX8_in 0 = .ok (.iload_n 0, 1) := by decide +kernel
theorem dX8_in_1 : decode cX8_in 1 = .ok (.iload_n 1, 1) := by decide +kernel
theorem dX8_in_2 : decode cX8_in 2 = .ok (.if_icmp .lt 12, 3) := by decide +kernel
theorem dX8_in_5 : decode cX8_in 5 = .ok (.iload_n 0, 1) := by decide +kernel
theorem dX8_in_6 : decode cX8_in 6 = .ok (.iload_n 2, 1) := by decide +kernel
theorem dX8_in_7 : decode cX8_in 7 = .ok (.if_icmp .gt 7, 3) := by decide +kernel
theorem dX8_in_10 : decode cX8_in 10 = .ok (.iconst 1, 1) := by decide +kernel
theorem dX8_in_11 : decode cX8_in 11 = .ok (.goto 4, 3) := by decide +kernel
theorem dX8_in_14 : decode cX8_in 14 = .ok (.iconst 0, 1) := by decide +kernel
theorem dX8_in_15 : decode cX8_in 15 = .ok (.ireturn, 1) := by decide +kernel
def f_X8_in (x0 x1 x2 : Int32) (v : tmM) : Option (Int32 × tmM) := (if x0 < x1 then some (0, v) else (if x2 < x0 then some (0, v) else some (1, v)))
set_option maxRecDepth 100000 in
set_option maxHeartbeats 4000000 in
theorem w_X8_in {p : Program} {l : Launch} {e : Env} {s : State} {m : MethodId} {args : Array Value} {below : List Frame} {meth : Method} {c : Code} {D : va_G} {cy : Nat → ClassId} {ad : Nat → Nat} {A : Nat → Prop} {z : (Int32 × tmM)} (C0 : tmC p s m args meth c cX8_in 3 (some .boolean) RX8 TMW tm_NWR D cy tm_shR ad 13 [] A) (x0 x1 x2 : Int32) (v : tmM) : tmG p l e ({ frames := 0, cells := 0, slots := 0, locals := 0 } : Room) s m args below meth c 0 0 (MQ below (va_Qi (fun r u => z = (r, u)) (tmAt tm_shR 13 D cy ad A) A) args s 0 0 A) 3 D cy tm_shR ad 13 [] A z 0 [(0, .int x0), (1, .int x1), (2, .int x2)] [] v (f_X8_in x0 x1 x2 v) := by
  unfold f_X8_in
  refine tg_iload_n 0 C0 dX8_in_0 rfl rfl ?_
  refine tg_iload_n 1 C0 dX8_in_1 rfl rfl ?_
  refine tg_icmp_lt 14 C0 dX8_in_2 (by decide) (fun _ => ?_) (fun _ => ?_)
  · refine tg_iconst (x := 0) C0 dX8_in_14 (by decide) ?_
    exact tg_zret C0 dX8_in_15 rfl
  · refine tg_iload_n 0 C0 dX8_in_5 rfl rfl ?_
    refine tg_iload_n 2 C0 dX8_in_6 rfl rfl ?_
    refine tg_icmp_gt 14 C0 dX8_in_7 (by decide) (fun _ => ?_) (fun _ => ?_)
    · refine tg_iconst (x := 0) C0 dX8_in_14 (by decide) ?_
      exact tg_zret C0 dX8_in_15 rfl
    · refine tg_iconst (x := 1) C0 dX8_in_10 (by decide) ?_
      refine tg_goto 15 C0 dX8_in_11 (by decide) ?_
      exact tg_zret C0 dX8_in_15 rfl
theorem c_X8_in (l : Launch) (x0 x1 x2 : Int32) (v : tmM) : tmMi tm_NWR tm_shR 13 l yX8_in (Cond.code yX8_in cX8_in 3 (some .boolean) :: TMW) ({ frames := 0, cells := 0, slots := 0, locals := 0 } : Room) (fun ad => [.int x0, .int x1, .int x2]) v (f_X8_in x0 x1 x2 v) :=
  tmMi.of (cc := cX8_in) (nL := 3) (by decide +kernel) rfl tm_NWR_ok (fun _ => Nat.le_of_ble_eq_true rfl) (fun p e s m args below meth c A D cy ad z C0 => w_X8_in C0 x0 x1 x2 v)
-- ----- X8_has
theorem dX8_has_0 : decode cX8_has 0 = .ok (.iload_n 0, 1) := by decide +kernel
theorem dX8_has_1 : decode cX8_has 1 = .ok (.iload_n 1, 1) := by decide +kernel
theorem dX8_has_2 : decode cX8_has 2 = .ok (.ishr, 1) := by decide +kernel
theorem dX8_has_3 : decode cX8_has 3 = .ok (.iconst 1, 1) := by decide +kernel
theorem dX8_has_4 : decode cX8_has 4 = .ok (.iand, 1) := by decide +kernel
theorem dX8_has_5 : decode cX8_has 5 = .ok (.iconst 1, 1) := by decide +kernel
theorem dX8_has_6 : decode cX8_has 6 = .ok (.if_icmp .ne 7, 3) := by decide +kernel
theorem dX8_has_9 : decode cX8_has 9 = .ok (.iconst 1, 1) := by decide +kernel
theorem dX8_has_10 : decode cX8_has 10 = .ok (.goto 4, 3) := by decide +kernel
theorem dX8_has_13 : decode cX8_has 13 = .ok (.iconst 0, 1) := by decide +kernel
theorem dX8_has_14 : decode cX8_has 14 = .ok (.ireturn, 1) := by decide +kernel
def f_X8_has (x0 x1 : Int32) (v : tmM) : Option (Int32 × tmM) := (if ((x0 >>> (x1 &&& 31)) &&& 1) = 1 then some (1, v) else some (0, v))
set_option maxRecDepth 100000 in
set_option maxHeartbeats 4000000 in
theorem w_X8_has {p : Program} {l : Launch} {e : Env} {s : State} {m : MethodId} {args : Array Value} {below : List Frame} {meth : Method} {c : Code} {D : va_G} {cy : Nat → ClassId} {ad : Nat → Nat} {A : Nat → Prop} {z : (Int32 × tmM)} (C0 : tmC p s m args meth c cX8_has 2 (some .boolean) RX8 TMW tm_NWR D cy tm_shR ad 13 [] A) (x0 x1 : Int32) (v : tmM) : tmG p l e ({ frames := 0, cells := 0, slots := 0, locals := 0 } : Room) s m args below meth c 0 0 (MQ below (va_Qi (fun r u => z = (r, u)) (tmAt tm_shR 13 D cy ad A) A) args s 0 0 A) 2 D cy tm_shR ad 13 [] A z 0 [(0, .int x0), (1, .int x1)] [] v (f_X8_has x0 x1 v) := by
  unfold f_X8_has
  refine tg_iload_n 0 C0 dX8_has_0 rfl rfl ?_
  refine tg_iload_n 1 C0 dX8_has_1 rfl rfl ?_
  refine tg_ishr C0 dX8_has_2 ?_
  refine tg_iconst (x := 1) C0 dX8_has_3 (by decide) ?_
  refine tg_iand C0 dX8_has_4 ?_
  refine tg_iconst (x := 1) C0 dX8_has_5 (by decide) ?_
  refine tg_icmp_ne 13 C0 dX8_has_6 (by decide) (fun _ => ?_) (fun _ => ?_)
  · refine tg_iconst (x := 0) C0 dX8_has_13 (by decide) ?_
    exact tg_zret C0 dX8_has_14 rfl
  · refine tg_iconst (x := 1) C0 dX8_has_9 (by decide) ?_
    refine tg_goto 14 C0 dX8_has_10 (by decide) ?_
    exact tg_zret C0 dX8_has_14 rfl
theorem c_X8_has (l : Launch) (x0 x1 : Int32) (v : tmM) : tmMi tm_NWR tm_shR 13 l yX8_has (Cond.code yX8_has cX8_has 2 (some .boolean) :: TMW) ({ frames := 0, cells := 0, slots := 0, locals := 0 } : Room) (fun ad => [.int x0, .int x1]) v (f_X8_has x0 x1 v) :=
  tmMi.of (cc := cX8_has) (nL := 2) (by decide +kernel) rfl tm_NWR_ok (fun _ => Nat.le_of_ble_eq_true rfl) (fun p e s m args below meth c A D cy ad z C0 => w_X8_has C0 x0 x1 v)
-- ----- X8_ones
theorem dX8_ones_0 : decode cX8_ones 0 = .ok (.iconst 0, 1) := by decide +kernel
theorem dX8_ones_1 : decode cX8_ones 1 = .ok (.istore_n 1, 1) := by decide +kernel
theorem dX8_ones_2 : decode cX8_ones 2 = .ok (.iload_n 0, 1) := by decide +kernel
theorem dX8_ones_3 : decode cX8_ones 3 = .ok (.istore_n 2, 1) := by decide +kernel
theorem dX8_ones_4 : decode cX8_ones 4 = .ok (.iload_n 2, 1) := by decide +kernel
theorem dX8_ones_5 : decode cX8_ones 5 = .ok (.ifCond .eq 15, 3) := by decide +kernel
theorem dX8_ones_8 : decode cX8_ones 8 = .ok (.iinc 1 1, 3) := by decide +kernel
theorem dX8_ones_11 : decode cX8_ones 11 = .ok (.iload_n 2, 1) := by decide +kernel
theorem dX8_ones_12 : decode cX8_ones 12 = .ok (.iload_n 2, 1) := by decide +kernel
theorem dX8_ones_13 : decode cX8_ones 13 = .ok (.iconst 1, 1) := by decide +kernel
theorem dX8_ones_14 : decode cX8_ones 14 = .ok (.isub, 1) := by decide +kernel
theorem dX8_ones_15 : decode cX8_ones 15 = .ok (.iand, 1) := by decide +kernel
theorem dX8_ones_16 : decode cX8_ones 16 = .ok (.istore_n 2, 1) := by decide +kernel
theorem dX8_ones_17 : decode cX8_ones 17 = .ok (.goto (-13), 3) := by decide +kernel
theorem dX8_ones_20 : decode cX8_ones 20 = .ok (.iload_n 1, 1) := by decide +kernel
theorem dX8_ones_21 : decode cX8_ones 21 = .ok (.ireturn, 1) := by decide +kernel
def f_X8_ones_4b (K0 : Int32 → tmM → Option (Int32 × tmM)) (L : Int32 → Int32 → tmM → Option (Int32 × tmM)) (x1 x2 : Int32) (v : tmM) : Option (Int32 × tmM) := (if x2 = 0 then K0 x1 v else tm_lt (x2 &&& (x2 - 1)) fun y1 => L (x1 + 1) y1 v)
set_option maxRecDepth 100000 in
set_option maxHeartbeats 4000000 in
theorem w_X8_ones_4b {p : Program} {l : Launch} {e : Env} {s : State} {m : MethodId} {args : Array Value} {below : List Frame} {meth : Method} {c : Code} {D : va_G} {cy : Nat → ClassId} {ad : Nat → Nat} {A : Nat → Prop} {z : (Int32 × tmM)} {K0 : Int32 → tmM → Option (Int32 × tmM)} {L : Int32 → Int32 → tmM → Option (Int32 × tmM)} (C0 : tmC p s m args meth c cX8_ones 3 (some .int) RX8 TMW tm_NWR D cy tm_shR ad 13 [] A) (hK0 : ∀ (a1 : Int32) (w : tmM), tmG p l e ({ frames := 0, cells := 0, slots := 0, locals := 0 } : Room) s m args below meth c 0 0 (MQ below (va_Qi (fun r u => z = (r, u)) (tmAt tm_shR 13 D cy ad A) A) args s 0 0 A) 3 D cy tm_shR ad 13 [] A z 20 [(1, .int a1)] [] w (K0 a1 w)) (hL : ∀ (a1 a2 : Int32) (w : tmM), tmG p l e ({ frames := 0, cells := 0, slots := 0, locals := 0 } : Room) s m args below meth c 0 0 (MQ below (va_Qi (fun r u => z = (r, u)) (tmAt tm_shR 13 D cy ad A) A) args s 0 0 A) 3 D cy tm_shR ad 13 [] A z 4 [(1, .int a1), (2, .int a2)] [] w (L a1 a2 w)) (x1 x2 : Int32) (v : tmM) : tmG p l e ({ frames := 0, cells := 0, slots := 0, locals := 0 } : Room) s m args below meth c 0 0 (MQ below (va_Qi (fun r u => z = (r, u)) (tmAt tm_shR 13 D cy ad A) A) args s 0 0 A) 3 D cy tm_shR ad 13 [] A z 4 [(1, .int x1), (2, .int x2)] [] v (f_X8_ones_4b K0 L x1 x2 v) := by
  unfold f_X8_ones_4b
  refine tg_iload_n 1 C0 dX8_ones_4 rfl rfl ?_
  refine tg_if_eq 20 C0 dX8_ones_5 (by decide) (fun _ => ?_) (fun _ => ?_)
  · refine tg_sub [0] rfl ?_
    exact hK0 x1 v
  · refine tg_iinc [(1, .int (x1 + 1)), (2, .int x2)] 0 C0 dX8_ones_8 rfl rfl (by decide) rfl ?_
    refine tg_iload_n 1 C0 dX8_ones_11 rfl rfl ?_
    refine tg_iload_n 1 C0 dX8_ones_12 rfl rfl ?_
    refine tg_iconst (x := 1) C0 dX8_ones_13 (by decide) ?_
    refine tg_isub C0 dX8_ones_14 ?_
    refine tg_iand C0 dX8_ones_15 ?_
    refine tg_leti (fun y1 _ => ?_)
    refine tg_istore_n [(2, .int y1), (1, .int (x1 + 1))] C0 dX8_ones_16 rfl (by decide) rfl ?_
    refine tg_goto 4 C0 dX8_ones_17 (by decide) ?_
    refine tg_sub [1, 0] rfl ?_
    exact hL (x1 + 1) y1 v
def f_X8_ones_4 (K0 : Int32 → tmM → Option (Int32 × tmM)) : Nat → Int32 → Int32 → tmM → Option (Int32 × tmM)
  | 0 => fun _ _ _ => none
  | n + 1 => f_X8_ones_4b K0 (f_X8_ones_4 K0 n)
theorem w_X8_ones_4 {p : Program} {l : Launch} {e : Env} {s : State} {m : MethodId} {args : Array Value} {below : List Frame} {meth : Method} {c : Code} {D : va_G} {cy : Nat → ClassId} {ad : Nat → Nat} {A : Nat → Prop} {z : (Int32 × tmM)} {K0 : Int32 → tmM → Option (Int32 × tmM)} (C0 : tmC p s m args meth c cX8_ones 3 (some .int) RX8 TMW tm_NWR D cy tm_shR ad 13 [] A) (hK0 : ∀ (a1 : Int32) (w : tmM), tmG p l e ({ frames := 0, cells := 0, slots := 0, locals := 0 } : Room) s m args below meth c 0 0 (MQ below (va_Qi (fun r u => z = (r, u)) (tmAt tm_shR 13 D cy ad A) A) args s 0 0 A) 3 D cy tm_shR ad 13 [] A z 20 [(1, .int a1)] [] w (K0 a1 w)) (nn : Nat) : ∀ (x1 x2 : Int32) (v : tmM), tmG p l e ({ frames := 0, cells := 0, slots := 0, locals := 0 } : Room) s m args below meth c 0 0 (MQ below (va_Qi (fun r u => z = (r, u)) (tmAt tm_shR 13 D cy ad A) A) args s 0 0 A) 3 D cy tm_shR ad 13 [] A z 4 [(1, .int x1), (2, .int x2)] [] v (f_X8_ones_4 K0 nn x1 x2 v) := by
  induction nn with
  | zero => intro _ _ _; exact tg_none
  | succ n ih => intro x1 x2 v; exact w_X8_ones_4b C0 hK0 ih x1 x2 v
def f_X8_ones (x0 : Int32) (v : tmM) : Option (Int32 × tmM) := f_X8_ones_4 (fun x2 v3 => some (x2, v3)) 10000 0 x0 v
set_option maxRecDepth 100000 in
set_option maxHeartbeats 4000000 in
theorem w_X8_ones {p : Program} {l : Launch} {e : Env} {s : State} {m : MethodId} {args : Array Value} {below : List Frame} {meth : Method} {c : Code} {D : va_G} {cy : Nat → ClassId} {ad : Nat → Nat} {A : Nat → Prop} {z : (Int32 × tmM)} (C0 : tmC p s m args meth c cX8_ones 3 (some .int) RX8 TMW tm_NWR D cy tm_shR ad 13 [] A) (x0 : Int32) (v : tmM) : tmG p l e ({ frames := 0, cells := 0, slots := 0, locals := 0 } : Room) s m args below meth c 0 0 (MQ below (va_Qi (fun r u => z = (r, u)) (tmAt tm_shR 13 D cy ad A) A) args s 0 0 A) 3 D cy tm_shR ad 13 [] A z 0 [(0, .int x0)] [] v (f_X8_ones x0 v) := by
  unfold f_X8_ones
  refine tg_iconst (x := 0) C0 dX8_ones_0 (by decide) ?_
  refine tg_istore_n [(1, .int 0), (0, .int x0)] C0 dX8_ones_1 rfl (by decide) rfl ?_
  refine tg_iload_n 1 C0 dX8_ones_2 rfl rfl ?_
  refine tg_istore_n [(2, .int x0), (1, .int 0), (0, .int x0)] C0 dX8_ones_3 rfl (by decide) rfl ?_
  refine tg_sub [1, 0] rfl ?_
  refine w_X8_ones_4 C0 (fun x2 v3 => ?_) 10000 0 x0 v
  refine tg_iload_n 0 C0 dX8_ones_20 rfl rfl ?_
  exact tg_iret C0 dX8_ones_21
theorem c_X8_ones (l : Launch) (x0 : Int32) (v : tmM) : tmMi tm_NWR tm_shR 13 l yX8_ones (Cond.code yX8_ones cX8_ones 3 (some .int) :: TMW) ({ frames := 0, cells := 0, slots := 0, locals := 0 } : Room) (fun ad => [.int x0]) v (f_X8_ones x0 v) :=
  tmMi.of (cc := cX8_ones) (nL := 3) (by decide +kernel) rfl tm_NWR_ok (fun _ => Nat.le_of_ble_eq_true rfl) (fun p e s m args below meth c A D cy ad z C0 => w_X8_ones C0 x0 v)
-- ----- X8_copies
theorem dX8_copies_0 : decode cX8_copies 0 = .ok (.iconst 0, 1) := by decide +kernel
theorem dX8_copies_1 : decode cX8_copies 1 = .ok (.istore 5, 2) := by decide +kernel
theorem dX8_copies_3 : decode cX8_copies 3 = .ok (.iload 5, 2) := by decide +kernel
theorem dX8_copies_5 : decode cX8_copies 5 = .ok (.iload 4, 2) := by decide +kernel
theorem dX8_copies_7 : decode cX8_copies 7 = .ok (.if_icmp .ge 21, 3) := by decide +kernel
theorem dX8_copies_10 : decode cX8_copies 10 = .ok (.aload_n 2, 1) := by decide +kernel
theorem dX8_copies_11 : decode cX8_copies 11 = .ok (.iload_n 3, 1) := by decide +kernel
theorem dX8_copies_12 : decode cX8_copies 12 = .ok (.iload 5, 2) := by decide +kernel
theorem dX8_copies_14 : decode cX8_copies 14 = .ok (.iadd, 1) := by decide +kernel
theorem dX8_copies_15 : decode cX8_copies 15 = .ok (.aload_n 0, 1) := by decide +kernel
theorem dX8_copies_16 : decode cX8_copies 16 = .ok (.iload_n 1, 1) := by decide +kernel
theorem dX8_copies_17 : decode cX8_copies 17 = .ok (.iload 5, 2) := by decide +kernel
theorem dX8_copies_19 : decode cX8_copies 19 = .ok (.iadd, 1) := by decide +kernel
theorem dX8_copies_20 : decode cX8_copies 20 = .ok (.iaload, 1) := by decide +kernel
theorem dX8_copies_21 : decode cX8_copies 21 = .ok (.iastore, 1) := by decide +kernel
theorem dX8_copies_22 : decode cX8_copies 22 = .ok (.iinc 5 1, 3) := by decide +kernel
theorem dX8_copies_25 : decode cX8_copies 25 = .ok (.goto (-22), 3) := by decide +kernel
theorem dX8_copies_28 : decode cX8_copies 28 = .ok (.return_, 1) := by decide +kernel
def f_X8_copies_3b (k1 : Nat) (l1 : Nat) (k2 : Nat) (l2 : Nat) (K0 : tmM → Option (Unit × tmM)) (L : Int32 → Int32 → Int32 → Int32 → tmM → Option (Unit × tmM)) (x1 x3 x4 x5 : Int32) (v : tmM) : Option (Unit × tmM) := (if x4 ≤ x5 then K0 v else tm_g (tm_ix (x1 + x5) l1) (tm_g (tm_ix (x3 + x5) l2) (tm_lt (tm_up v k2 (x3 + x5).toNatClampNeg (v k1 (x1 + x5).toNatClampNeg)) fun v1 => L x1 x3 x4 (x5 + 1) v1)))
set_option maxRecDepth 100000 in
set_option maxHeartbeats 4000000 in
theorem w_X8_copies_3b {p : Program} {l : Launch} {e : Env} {s : State} {m : MethodId} {args : Array Value} {below : List Frame} {meth : Method} {c : Code} {D : va_G} {cy : Nat → ClassId} {ad : Nat → Nat} {A : Nat → Prop} {z : (Unit × tmM)} {k1 : Nat} {l1 : Nat} {k2 : Nat} {l2 : Nat} {K0 : tmM → Option (Unit × tmM)} {L : Int32 → Int32 → Int32 → Int32 → tmM → Option (Unit × tmM)} (C0 : tmC p s m args meth c cX8_copies 6 none RX8 TMW tm_NWR D cy tm_shR ad 13 [] A) (hk1 : tm_isI k1 l1) (hk2 : tm_isI k2 l2) (hK0 : ∀ (w : tmM), tmG p l e ({ frames := 0, cells := 0, slots := 0, locals := 0 } : Room) s m args below meth c 0 0 (MQ below (va_Qv (fun u => z = ((), u)) (tmAt tm_shR 13 D cy ad A) A) args s 0 0 A) 6 D cy tm_shR ad 13 [] A z 28 [] [] w (K0 w)) (hL : ∀ (a1 a3 a4 a5 : Int32) (w : tmM), tmG p l e ({ frames := 0, cells := 0, slots := 0, locals := 0 } : Room) s m args below meth c 0 0 (MQ below (va_Qv (fun u => z = ((), u)) (tmAt tm_shR 13 D cy ad A) A) args s 0 0 A) 6 D cy tm_shR ad 13 [] A z 3 [(0, .ref (ad k1)), (1, .int a1), (2, .ref (ad k2)), (3, .int a3), (4, .int a4), (5, .int a5)] [] w (L a1 a3 a4 a5 w)) (x1 x3 x4 x5 : Int32) (v : tmM) : tmG p l e ({ frames := 0, cells := 0, slots := 0, locals := 0 } : Room) s m args below meth c 0 0 (MQ below (va_Qv (fun u => z = ((), u)) (tmAt tm_shR 13 D cy ad A) A) args s 0 0 A) 6 D cy tm_shR ad 13 [] A z 3 [(0, .ref (ad k1)), (1, .int x1), (2, .ref (ad k2)), (3, .int x3), (4, .int x4), (5, .int x5)] [] v (f_X8_copies_3b k1 l1 k2 l2 K0 L x1 x3 x4 x5 v) := by
  unfold f_X8_copies_3b
  refine tg_iload 5 C0 dX8_copies_3 rfl ?_
  refine tg_iload 4 C0 dX8_copies_5 rfl ?_
  refine tg_icmp_ge 28 C0 dX8_copies_7 (by decide) (fun _ => ?_) (fun _ => ?_)
  · refine tg_sub [] rfl ?_
    exact hK0 v
  · refine tg_aload_n 2 C0 dX8_copies_10 rfl rfl ?_
    refine tg_iload_n 3 C0 dX8_copies_11 rfl rfl ?_
    refine tg_iload 5 C0 dX8_copies_12 rfl ?_
    refine tg_iadd C0 dX8_copies_14 ?_
    refine tg_aload_n 0 C0 dX8_copies_15 rfl rfl ?_
    refine tg_iload_n 1 C0 dX8_copies_16 rfl rfl ?_
    refine tg_iload 5 C0 dX8_copies_17 rfl ?_
    refine tg_iadd C0 dX8_copies_19 ?_
    refine tg_iald k1 C0 dX8_copies_20 hk1.2 hk1.1 (fun _ => ?_)
    refine tg_iast k2 C0 dX8_copies_21 hk2.2 hk2.1 (fun _ => ?_)
    refine tg_letm (fun v1 _ => ?_)
    refine tg_iinc [(5, .int (x5 + 1)), (0, .ref (ad k1)), (1, .int x1), (2, .ref (ad k2)), (3, .int x3), (4, .int x4)] 5 C0 dX8_copies_22 rfl rfl (by decide) rfl ?_
    refine tg_goto 3 C0 dX8_copies_25 (by decide) ?_
    refine tg_sub [1, 2, 3, 4, 5, 0] rfl ?_
    exact hL x1 x3 x4 (x5 + 1) v1
def f_X8_copies_3 (k1 : Nat) (l1 : Nat) (k2 : Nat) (l2 : Nat) (K0 : tmM → Option (Unit × tmM)) : Nat → Int32 → Int32 → Int32 → Int32 → tmM → Option (Unit × tmM)
  | 0 => fun _ _ _ _ _ => none
  | n + 1 => f_X8_copies_3b k1 l1 k2 l2 K0 (f_X8_copies_3 k1 l1 k2 l2 K0 n)
theorem w_X8_copies_3 {p : Program} {l : Launch} {e : Env} {s : State} {m : MethodId} {args : Array Value} {below : List Frame} {meth : Method} {c : Code} {D : va_G} {cy : Nat → ClassId} {ad : Nat → Nat} {A : Nat → Prop} {z : (Unit × tmM)} {k1 : Nat} {l1 : Nat} {k2 : Nat} {l2 : Nat} {K0 : tmM → Option (Unit × tmM)} (C0 : tmC p s m args meth c cX8_copies 6 none RX8 TMW tm_NWR D cy tm_shR ad 13 [] A) (hk1 : tm_isI k1 l1) (hk2 : tm_isI k2 l2) (hK0 : ∀ (w : tmM), tmG p l e ({ frames := 0, cells := 0, slots := 0, locals := 0 } : Room) s m args below meth c 0 0 (MQ below (va_Qv (fun u => z = ((), u)) (tmAt tm_shR 13 D cy ad A) A) args s 0 0 A) 6 D cy tm_shR ad 13 [] A z 28 [] [] w (K0 w)) (nn : Nat) : ∀ (x1 x3 x4 x5 : Int32) (v : tmM), tmG p l e ({ frames := 0, cells := 0, slots := 0, locals := 0 } : Room) s m args below meth c 0 0 (MQ below (va_Qv (fun u => z = ((), u)) (tmAt tm_shR 13 D cy ad A) A) args s 0 0 A) 6 D cy tm_shR ad 13 [] A z 3 [(0, .ref (ad k1)), (1, .int x1), (2, .ref (ad k2)), (3, .int x3), (4, .int x4), (5, .int x5)] [] v (f_X8_copies_3 k1 l1 k2 l2 K0 nn x1 x3 x4 x5 v) := by
  induction nn with
  | zero => intro _ _ _ _ _; exact tg_none
  | succ n ih => intro x1 x3 x4 x5 v; exact w_X8_copies_3b C0 hk1 hk2 hK0 ih x1 x3 x4 x5 v
def f_X8_copies (k1 : Nat) (l1 : Nat) (k2 : Nat) (l2 : Nat) (x1 x3 x4 : Int32) (v : tmM) : Option (Unit × tmM) := f_X8_copies_3 k1 l1 k2 l2 (fun v2 => some ((), v2)) 10000 x1 x3 x4 0 v
set_option maxRecDepth 100000 in
set_option maxHeartbeats 4000000 in
theorem w_X8_copies {p : Program} {l : Launch} {e : Env} {s : State} {m : MethodId} {args : Array Value} {below : List Frame} {meth : Method} {c : Code} {D : va_G} {cy : Nat → ClassId} {ad : Nat → Nat} {A : Nat → Prop} {z : (Unit × tmM)} {k1 : Nat} {l1 : Nat} {k2 : Nat} {l2 : Nat} (C0 : tmC p s m args meth c cX8_copies 6 none RX8 TMW tm_NWR D cy tm_shR ad 13 [] A) (hk1 : tm_isI k1 l1) (hk2 : tm_isI k2 l2) (x1 x3 x4 : Int32) (v : tmM) : tmG p l e ({ frames := 0, cells := 0, slots := 0, locals := 0 } : Room) s m args below meth c 0 0 (MQ below (va_Qv (fun u => z = ((), u)) (tmAt tm_shR 13 D cy ad A) A) args s 0 0 A) 6 D cy tm_shR ad 13 [] A z 0 [(0, .ref (ad k1)), (1, .int x1), (2, .ref (ad k2)), (3, .int x3), (4, .int x4)] [] v (f_X8_copies k1 l1 k2 l2 x1 x3 x4 v) := by
  unfold f_X8_copies
  refine tg_iconst (x := 0) C0 dX8_copies_0 (by decide) ?_
  refine tg_istore [(5, .int 0), (0, .ref (ad k1)), (1, .int x1), (2, .ref (ad k2)), (3, .int x3), (4, .int x4)] C0 dX8_copies_1 (by decide) rfl ?_
  refine tg_sub [1, 2, 3, 4, 5, 0] rfl ?_
  refine w_X8_copies_3 C0 hk1 hk2 (fun v2 => ?_) 10000 x1 x3 x4 0 v
  exact tg_vret C0 dX8_copies_28
theorem c_X8_copies (l : Launch) (k1 : Nat) (l1 : Nat) (k2 : Nat) (l2 : Nat) (hk1 : tm_isI k1 l1) (hk2 : tm_isI k2 l2) (x1 x3 x4 : Int32) (v : tmM) : tmMv tm_NWR tm_shR 13 l yX8_copies (Cond.code yX8_copies cX8_copies 6 none :: TMW) ({ frames := 0, cells := 0, slots := 0, locals := 0 } : Room) (fun ad => [.ref (ad k1), .int x1, .ref (ad k2), .int x3, .int x4]) v (f_X8_copies k1 l1 k2 l2 x1 x3 x4 v) :=
  tmMv.of (cc := cX8_copies) (nL := 6) (by decide +kernel) rfl tm_NWR_ok (fun _ => Nat.le_of_ble_eq_true rfl) (fun p e s m args below meth c A D cy ad z C0 => w_X8_copies C0 hk1 hk2 x1 x3 x4 v)
-- ----- X8_empties
theorem dX8_empties_0 : decode cX8_empties 0 = .ok (.iconst 0, 1) := by decide +kernel
theorem dX8_empties_1 : decode cX8_empties 1 = .ok (.istore_n 2, 1) := by decide +kernel
theorem dX8_empties_2 : decode cX8_empties 2 = .ok (.iload_n 2, 1) := by decide +kernel
theorem dX8_empties_3 : decode cX8_empties 3 = .ok (.bipush 60, 2) := by decide +kernel
theorem dX8_empties_5 : decode cX8_empties 5 = .ok (.if_icmp .ge 18, 3) := by decide +kernel
theorem dX8_empties_8 : decode cX8_empties 8 = .ok (.aload_n 0, 1) := by decide +kernel
theorem dX8_empties_9 : decode cX8_empties 9 = .ok (.getfield 7, 3) := by decide +kernel
theorem dX8_empties_12 : decode cX8_empties 12 = .ok (.iload_n 1, 1) := by decide +kernel
theorem dX8_empties_13 : decode cX8_empties 13 = .ok (.iload_n 2, 1) := by decide +kernel
theorem dX8_empties_14 : decode cX8_empties 14 = .ok (.iadd, 1) := by decide +kernel
theorem dX8_empties_15 : decode cX8_empties 15 = .ok (.iconst (-1), 1) := by decide +kernel
theorem dX8_empties_16 : decode cX8_empties 16 = .ok (.iastore, 1) := by decide +kernel
theorem dX8_empties_17 : decode cX8_empties 17 = .ok (.iinc 2 1, 3) := by decide +kernel
theorem dX8_empties_20 : decode cX8_empties 20 = .ok (.goto (-18), 3) := by decide +kernel
theorem dX8_empties_23 : decode cX8_empties 23 = .ok (.return_, 1) := by decide +kernel
theorem tf_X8_7 : Cond.fieldLink RX8 7 "TableMoveModel" (TX8 1).2.1 (TX8 1).2.2.1 ∈ TMW := tm_in 1552 (by decide +kernel) (by decide +kernel)
theorem tu_X8 : ∀ w ∈ u_ws RX8 TX8 28, w ∈ TMW := tm_us [1579, 1581, 1583, 1585, 1587, 1589, 1591, 1593, 1595, 1597, 1599, 1601, 1603, 1605, 1607, 1609, 1611, 1613, 1615, 1617, 1619, 1621, 1623, 1625, 1627, 1629, 1631, 1633] (by decide +kernel) (by decide +kernel)
def f_X8_empties_2b (K0 : tmM → Option (Unit × tmM)) (L : Int32 → Int32 → tmM → Option (Unit × tmM)) (x1 x2 : Int32) (v : tmM) : Option (Unit × tmM) := (if 60 ≤ x2 then K0 v else tm_g (tm_ix (x1 + x2) 491) (tm_lt (tm_up v 1 (x1 + x2).toNatClampNeg (-1)) fun v1 => L x1 (x2 + 1) v1))
set_option maxRecDepth 100000 in
set_option maxHeartbeats 4000000 in
theorem w_X8_empties_2b {p : Program} {l : Launch} {e : Env} {s : State} {m : MethodId} {args : Array Value} {below : List Frame} {meth : Method} {c : Code} {D : va_G} {cy : Nat → ClassId} {ad : Nat → Nat} {A : Nat → Prop} {z : (Unit × tmM)} {K0 : tmM → Option (Unit × tmM)} {L : Int32 → Int32 → tmM → Option (Unit × tmM)} (C0 : tmC p s m args meth c cX8_empties 3 none RX8 TMW tm_NWR D cy tm_shR ad 13 [] A) (hK0 : ∀ (w : tmM), tmG p l e ({ frames := 0, cells := 0, slots := 0, locals := 0 } : Room) s m args below meth c 0 0 (MQ below (va_Qv (fun u => z = ((), u)) (tmAt tm_shR 13 D cy ad A) A) args s 0 0 A) 3 D cy tm_shR ad 13 [] A z 23 [] [] w (K0 w)) (hL : ∀ (a1 a2 : Int32) (w : tmM), tmG p l e ({ frames := 0, cells := 0, slots := 0, locals := 0 } : Room) s m args below meth c 0 0 (MQ below (va_Qv (fun u => z = ((), u)) (tmAt tm_shR 13 D cy ad A) A) args s 0 0 A) 3 D cy tm_shR ad 13 [] A z 2 [(0, .ref (ad 0)), (1, .int a1), (2, .int a2)] [] w (L a1 a2 w)) (x1 x2 : Int32) (v : tmM) : tmG p l e ({ frames := 0, cells := 0, slots := 0, locals := 0 } : Room) s m args below meth c 0 0 (MQ below (va_Qv (fun u => z = ((), u)) (tmAt tm_shR 13 D cy ad A) A) args s 0 0 A) 3 D cy tm_shR ad 13 [] A z 2 [(0, .ref (ad 0)), (1, .int x1), (2, .int x2)] [] v (f_X8_empties_2b K0 L x1 x2 v) := by
  unfold f_X8_empties_2b
  refine tg_iload_n 2 C0 dX8_empties_2 rfl rfl ?_
  refine tg_bipush (x := 60) C0 dX8_empties_3 (by decide) ?_
  refine tg_icmp_ge 23 C0 dX8_empties_5 (by decide) (fun _ => ?_) (fun _ => ?_)
  · refine tg_sub [] rfl ?_
    exact hK0 v
  · refine tg_aload_n 0 C0 dX8_empties_8 rfl rfl ?_
    refine tg_get 0 1 C0 dX8_empties_9 (by decide) rfl rfl tu_X8 (by decide) tf_X8_7 rfl rfl rfl ?_
    refine tg_iload_n 1 C0 dX8_empties_12 rfl rfl ?_
    refine tg_iload_n 2 C0 dX8_empties_13 rfl rfl ?_
    refine tg_iadd C0 dX8_empties_14 ?_
    refine tg_iconst (x := (-1)) C0 dX8_empties_15 (by decide) ?_
    refine tg_iast 1 C0 dX8_empties_16 (by decide) rfl (fun _ => ?_)
    refine tg_letm (fun v1 _ => ?_)
    refine tg_iinc [(2, .int (x2 + 1)), (0, .ref (ad 0)), (1, .int x1)] 2 C0 dX8_empties_17 rfl rfl (by decide) rfl ?_
    refine tg_goto 2 C0 dX8_empties_20 (by decide) ?_
    refine tg_sub [1, 2, 0] rfl ?_
    exact hL x1 (x2 + 1) v1
def f_X8_empties_2 (K0 : tmM → Option (Unit × tmM)) : Nat → Int32 → Int32 → tmM → Option (Unit × tmM)
  | 0 => fun _ _ _ => none
  | n + 1 => f_X8_empties_2b K0 (f_X8_empties_2 K0 n)
theorem w_X8_empties_2 {p : Program} {l : Launch} {e : Env} {s : State} {m : MethodId} {args : Array Value} {below : List Frame} {meth : Method} {c : Code} {D : va_G} {cy : Nat → ClassId} {ad : Nat → Nat} {A : Nat → Prop} {z : (Unit × tmM)} {K0 : tmM → Option (Unit × tmM)} (C0 : tmC p s m args meth c cX8_empties 3 none RX8 TMW tm_NWR D cy tm_shR ad 13 [] A) (hK0 : ∀ (w : tmM), tmG p l e ({ frames := 0, cells := 0, slots := 0, locals := 0 } : Room) s m args below meth c 0 0 (MQ below (va_Qv (fun u => z = ((), u)) (tmAt tm_shR 13 D cy ad A) A) args s 0 0 A) 3 D cy tm_shR ad 13 [] A z 23 [] [] w (K0 w)) (nn : Nat) : ∀ (x1 x2 : Int32) (v : tmM), tmG p l e ({ frames := 0, cells := 0, slots := 0, locals := 0 } : Room) s m args below meth c 0 0 (MQ below (va_Qv (fun u => z = ((), u)) (tmAt tm_shR 13 D cy ad A) A) args s 0 0 A) 3 D cy tm_shR ad 13 [] A z 2 [(0, .ref (ad 0)), (1, .int x1), (2, .int x2)] [] v (f_X8_empties_2 K0 nn x1 x2 v) := by
  induction nn with
  | zero => intro _ _ _; exact tg_none
  | succ n ih => intro x1 x2 v; exact w_X8_empties_2b C0 hK0 ih x1 x2 v
def f_X8_empties (x1 : Int32) (v : tmM) : Option (Unit × tmM) := f_X8_empties_2 (fun v2 => some ((), v2)) 10000 x1 0 v
set_option maxRecDepth 100000 in
set_option maxHeartbeats 4000000 in
theorem w_X8_empties {p : Program} {l : Launch} {e : Env} {s : State} {m : MethodId} {args : Array Value} {below : List Frame} {meth : Method} {c : Code} {D : va_G} {cy : Nat → ClassId} {ad : Nat → Nat} {A : Nat → Prop} {z : (Unit × tmM)} (C0 : tmC p s m args meth c cX8_empties 3 none RX8 TMW tm_NWR D cy tm_shR ad 13 [] A) (x1 : Int32) (v : tmM) : tmG p l e ({ frames := 0, cells := 0, slots := 0, locals := 0 } : Room) s m args below meth c 0 0 (MQ below (va_Qv (fun u => z = ((), u)) (tmAt tm_shR 13 D cy ad A) A) args s 0 0 A) 3 D cy tm_shR ad 13 [] A z 0 [(0, .ref (ad 0)), (1, .int x1)] [] v (f_X8_empties x1 v) := by
  unfold f_X8_empties
  refine tg_iconst (x := 0) C0 dX8_empties_0 (by decide) ?_
  refine tg_istore_n [(2, .int 0), (0, .ref (ad 0)), (1, .int x1)] C0 dX8_empties_1 rfl (by decide) rfl ?_
  refine tg_sub [1, 2, 0] rfl ?_
  refine w_X8_empties_2 C0 (fun v2 => ?_) 10000 x1 0 v
  exact tg_vret C0 dX8_empties_23
theorem c_X8_empties (l : Launch) (x1 : Int32) (v : tmM) : tmMv tm_NWR tm_shR 13 l yX8_empties (Cond.code yX8_empties cX8_empties 3 none :: TMW) ({ frames := 0, cells := 0, slots := 0, locals := 0 } : Room) (fun ad => [.ref (ad 0), .int x1]) v (f_X8_empties x1 v) :=
  tmMv.of (cc := cX8_empties) (nL := 3) (by decide +kernel) rfl tm_NWR_ok (fun _ => Nat.le_of_ble_eq_true rfl) (fun p e s m args below meth c A D cy ad z C0 => w_X8_empties C0 x1 v)
-- ----- X8_leads
theorem dX8_leads_0 : decode cX8_leads 0 = .ok (.aload_n 0, 1) := by decide +kernel
theorem dX8_leads_1 : decode cX8_leads 1 = .ok (.getfield 7, 3) := by decide +kernel
theorem dX8_leads_4 : decode cX8_leads 4 = .ok (.iconst 0, 1) := by decide +kernel
theorem dX8_leads_5 : decode cX8_leads 5 = .ok (.iaload, 1) := by decide +kernel
theorem dX8_leads_6 : decode cX8_leads 6 = .ok (.iconst 2, 1) := by decide +kernel
theorem dX8_leads_7 : decode cX8_leads 7 = .ok (.if_icmp .ge 7, 3) := by decide +kernel
theorem dX8_leads_10 : decode cX8_leads 10 = .ok (.iconst 0, 1) := by decide +kernel
theorem dX8_leads_11 : decode cX8_leads 11 = .ok (.goto 4, 3) := by decide +kernel
theorem dX8_leads_14 : decode cX8_leads 14 = .ok (.iconst 1, 1) := by decide +kernel
theorem dX8_leads_15 : decode cX8_leads 15 = .ok (.ireturn, 1) := by decide +kernel
def f_X8_leads (v : tmM) : Option (Int32 × tmM) := tm_g (tm_ix 0 491) ((if 2 ≤ (v 1 (0 : Int32).toNatClampNeg) then some (1, v) else some (0, v)))
set_option maxRecDepth 100000 in
set_option maxHeartbeats 4000000 in
theorem w_X8_leads {p : Program} {l : Launch} {e : Env} {s : State} {m : MethodId} {args : Array Value} {below : List Frame} {meth : Method} {c : Code} {D : va_G} {cy : Nat → ClassId} {ad : Nat → Nat} {A : Nat → Prop} {z : (Int32 × tmM)} (C0 : tmC p s m args meth c cX8_leads 1 (some .int) RX8 TMW tm_NWR D cy tm_shR ad 13 [] A) (v : tmM) : tmG p l e ({ frames := 0, cells := 0, slots := 0, locals := 0 } : Room) s m args below meth c 0 0 (MQ below (va_Qi (fun r u => z = (r, u)) (tmAt tm_shR 13 D cy ad A) A) args s 0 0 A) 1 D cy tm_shR ad 13 [] A z 0 [(0, .ref (ad 0))] [] v (f_X8_leads v) := by
  unfold f_X8_leads
  refine tg_aload_n 0 C0 dX8_leads_0 rfl rfl ?_
  refine tg_get 0 1 C0 dX8_leads_1 (by decide) rfl rfl tu_X8 (by decide) tf_X8_7 rfl rfl rfl ?_
  refine tg_iconst (x := 0) C0 dX8_leads_4 (by decide) ?_
  refine tg_iald 1 C0 dX8_leads_5 (by decide) rfl (fun _ => ?_)
  refine tg_iconst (x := 2) C0 dX8_leads_6 (by decide) ?_
  refine tg_icmp_ge 14 C0 dX8_leads_7 (by decide) (fun _ => ?_) (fun _ => ?_)
  · refine tg_iconst (x := 1) C0 dX8_leads_14 (by decide) ?_
    exact tg_iret C0 dX8_leads_15
  · refine tg_iconst (x := 0) C0 dX8_leads_10 (by decide) ?_
    refine tg_goto 15 C0 dX8_leads_11 (by decide) ?_
    exact tg_iret C0 dX8_leads_15
theorem c_X8_leads (l : Launch) (v : tmM) : tmMi tm_NWR tm_shR 13 l yX8_leads (Cond.code yX8_leads cX8_leads 1 (some .int) :: TMW) ({ frames := 0, cells := 0, slots := 0, locals := 0 } : Room) (fun ad => [.ref (ad 0)]) v (f_X8_leads v) :=
  tmMi.of (cc := cX8_leads) (nL := 1) (by decide +kernel) rfl tm_NWR_ok (fun _ => Nat.le_of_ble_eq_true rfl) (fun p e s m args below meth c A D cy ad z C0 => w_X8_leads C0 v)
-- ----- X8_isBoth
theorem dX8_isBoth_0 : decode cX8_isBoth 0 = .ok (.aload_n 0, 1) := by decide +kernel
theorem dX8_isBoth_1 : decode cX8_isBoth 1 = .ok (.getfield 7, 3) := by decide +kernel
theorem dX8_isBoth_4 : decode cX8_isBoth 4 = .ok (.iconst 0, 1) := by decide +kernel
theorem dX8_isBoth_5 : decode cX8_isBoth 5 = .ok (.iaload, 1) := by decide +kernel
theorem dX8_isBoth_6 : decode cX8_isBoth 6 = .ok (.iconst 1, 1) := by decide +kernel
theorem dX8_isBoth_7 : decode cX8_isBoth 7 = .ok (.if_icmp .eq 13, 3) := by decide +kernel
theorem dX8_isBoth_10 : decode cX8_isBoth 10 = .ok (.aload_n 0, 1) := by decide +kernel
theorem dX8_isBoth_11 : decode cX8_isBoth 11 = .ok (.getfield 7, 3) := by decide +kernel
theorem dX8_isBoth_14 : decode cX8_isBoth 14 = .ok (.iconst 0, 1) := by decide +kernel
theorem dX8_isBoth_15 : decode cX8_isBoth 15 = .ok (.iaload, 1) := by decide +kernel
theorem dX8_isBoth_16 : decode cX8_isBoth 16 = .ok (.iconst 2, 1) := by decide +kernel
theorem dX8_isBoth_17 : decode cX8_isBoth 17 = .ok (.if_icmp .ne 7, 3) := by decide +kernel
theorem dX8_isBoth_20 : decode cX8_isBoth 20 = .ok (.iconst 1, 1) := by decide +kernel
theorem dX8_isBoth_21 : decode cX8_isBoth 21 = .ok (.goto 4, 3) := by decide +kernel
theorem dX8_isBoth_24 : decode cX8_isBoth 24 = .ok (.iconst 0, 1) := by decide +kernel
theorem dX8_isBoth_25 : decode cX8_isBoth 25 = .ok (.ireturn, 1) := by decide +kernel
def f_X8_isBoth_20 (v : tmM) : Option (Int32 × tmM) := some (1, v)
set_option maxRecDepth 100000 in
set_option maxHeartbeats 4000000 in
theorem w_X8_isBoth_20 {p : Program} {l : Launch} {e : Env} {s : State} {m : MethodId} {args : Array Value} {below : List Frame} {meth : Method} {c : Code} {D : va_G} {cy : Nat → ClassId} {ad : Nat → Nat} {A : Nat → Prop} {z : (Int32 × tmM)} (C0 : tmC p s m args meth c cX8_isBoth 1 (some .boolean) RX8 TMW tm_NWR D cy tm_shR ad 13 [] A) (v : tmM) : tmG p l e ({ frames := 0, cells := 0, slots := 0, locals := 0 } : Room) s m args below meth c 0 0 (MQ below (va_Qi (fun r u => z = (r, u)) (tmAt tm_shR 13 D cy ad A) A) args s 0 0 A) 1 D cy tm_shR ad 13 [] A z 20 [] [] v (f_X8_isBoth_20 v) := by
  unfold f_X8_isBoth_20
  refine tg_iconst (x := 1) C0 dX8_isBoth_20 (by decide) ?_
  refine tg_goto 25 C0 dX8_isBoth_21 (by decide) ?_
  exact tg_zret C0 dX8_isBoth_25 rfl
def f_X8_isBoth (v : tmM) : Option (Int32 × tmM) := tm_g (tm_ix 0 491) ((if (v 1 (0 : Int32).toNatClampNeg) = 1 then f_X8_isBoth_20 v else tm_g (tm_ix 0 491) ((if (v 1 (0 : Int32).toNatClampNeg) = 2 then f_X8_isBoth_20 v else some (0, v)))))
set_option maxRecDepth 100000 in
set_option maxHeartbeats 4000000 in
theorem w_X8_isBoth {p : Program} {l : Launch} {e : Env} {s : State} {m : MethodId} {args : Array Value} {below : List Frame} {meth : Method} {c : Code} {D : va_G} {cy : Nat → ClassId} {ad : Nat → Nat} {A : Nat → Prop} {z : (Int32 × tmM)} (C0 : tmC p s m args meth c cX8_isBoth 1 (some .boolean) RX8 TMW tm_NWR D cy tm_shR ad 13 [] A) (v : tmM) : tmG p l e ({ frames := 0, cells := 0, slots := 0, locals := 0 } : Room) s m args below meth c 0 0 (MQ below (va_Qi (fun r u => z = (r, u)) (tmAt tm_shR 13 D cy ad A) A) args s 0 0 A) 1 D cy tm_shR ad 13 [] A z 0 [(0, .ref (ad 0))] [] v (f_X8_isBoth v) := by
  unfold f_X8_isBoth
  refine tg_aload_n 0 C0 dX8_isBoth_0 rfl rfl ?_
  refine tg_get 0 1 C0 dX8_isBoth_1 (by decide) rfl rfl tu_X8 (by decide) tf_X8_7 rfl rfl rfl ?_
  refine tg_iconst (x := 0) C0 dX8_isBoth_4 (by decide) ?_
  refine tg_iald 1 C0 dX8_isBoth_5 (by decide) rfl (fun _ => ?_)
  refine tg_iconst (x := 1) C0 dX8_isBoth_6 (by decide) ?_
  refine tg_icmp_eq 20 C0 dX8_isBoth_7 (by decide) (fun _ => ?_) (fun _ => ?_)
  · refine tg_sub [] rfl ?_
    exact w_X8_isBoth_20 C0 v
  · refine tg_aload_n 0 C0 dX8_isBoth_10 rfl rfl ?_
    refine tg_get 0 1 C0 dX8_isBoth_11 (by decide) rfl rfl tu_X8 (by decide) tf_X8_7 rfl rfl rfl ?_
    refine tg_iconst (x := 0) C0 dX8_isBoth_14 (by decide) ?_
    refine tg_iald 1 C0 dX8_isBoth_15 (by decide) rfl (fun _ => ?_)
    refine tg_iconst (x := 2) C0 dX8_isBoth_16 (by decide) ?_
    refine tg_icmp_ne 24 C0 dX8_isBoth_17 (by decide) (fun _ => ?_) (fun _ => ?_)
    · refine tg_iconst (x := 0) C0 dX8_isBoth_24 (by decide) ?_
      exact tg_zret C0 dX8_isBoth_25 rfl
    · refine tg_sub [] rfl ?_
      exact w_X8_isBoth_20 C0 v
theorem c_X8_isBoth (l : Launch) (v : tmM) : tmMi tm_NWR tm_shR 13 l yX8_isBoth (Cond.code yX8_isBoth cX8_isBoth 1 (some .boolean) :: TMW) ({ frames := 0, cells := 0, slots := 0, locals := 0 } : Room) (fun ad => [.ref (ad 0)]) v (f_X8_isBoth v) :=
  tmMi.of (cc := cX8_isBoth) (nL := 1) (by decide +kernel) rfl tm_NWR_ok (fun _ => Nat.le_of_ble_eq_true rfl) (fun p e s m args below meth c A D cy ad z C0 => w_X8_isBoth C0 v)
-- ----- X8_isUp
theorem dX8_isUp_0 : decode cX8_isUp 0 = .ok (.aload_n 0, 1) := by decide +kernel
theorem dX8_isUp_1 : decode cX8_isUp 1 = .ok (.getfield 7, 3) := by decide +kernel
theorem dX8_isUp_4 : decode cX8_isUp 4 = .ok (.bipush 6, 2) := by decide +kernel
theorem dX8_isUp_6 : decode cX8_isUp 6 = .ok (.iaload, 1) := by decide +kernel
theorem dX8_isUp_7 : decode cX8_isUp 7 = .ok (.iload_n 1, 1) := by decide +kernel
theorem dX8_isUp_8 : decode cX8_isUp 8 = .ok (.invokestatic 59, 3) := by decide +kernel
theorem dX8_isUp_11 : decode cX8_isUp 11 = .ok (.ireturn, 1) := by decide +kernel
theorem tc_X8_has : Cond.code yX8_has cX8_has 2 (some .boolean) ∈ TMW := tm_in 1668 (by decide +kernel) (by decide +kernel)
theorem tl_X8_59 : Cond.methodLink RX8 59 yX8_has ∈ TMW := tm_in 1666 (by decide +kernel) (by decide +kernel)
theorem tn_X8 : Cond.initialized RX8 ∈ TMW := tm_in 121 (by decide +kernel) (by decide +kernel)
theorem tst_X8_has : Cond.static yX8_has ∈ TMW := tm_in 1667 (by decide +kernel) (by decide +kernel)
def f_X8_isUp (x1 : Int32) (v : tmM) : Option (Int32 × tmM) := tm_g (tm_ix 6 491) (tm_cl (f_X8_has (v 1 (6 : Int32).toNatClampNeg) x1 v) fun r2 v1 => tm_g (tm_bi r2) (some (r2, v1)))
set_option maxRecDepth 100000 in
set_option maxHeartbeats 4000000 in
theorem w_X8_isUp {p : Program} {l : Launch} {e : Env} {s : State} {m : MethodId} {args : Array Value} {below : List Frame} {meth : Method} {c : Code} {D : va_G} {cy : Nat → ClassId} {ad : Nat → Nat} {A : Nat → Prop} {z : (Int32 × tmM)} (C0 : tmC p s m args meth c cX8_isUp 2 (some .boolean) RX8 TMW tm_NWR D cy tm_shR ad 13 [] A) (x1 : Int32) (v : tmM) : tmG p l e ({ frames := 1, cells := 0, slots := 0, locals := 21 } : Room) s m args below meth c 0 0 (MQ below (va_Qi (fun r u => z = (r, u)) (tmAt tm_shR 13 D cy ad A) A) args s 0 0 A) 2 D cy tm_shR ad 13 [] A z 0 [(0, .ref (ad 0)), (1, .int x1)] [] v (f_X8_isUp x1 v) := by
  unfold f_X8_isUp
  refine tg_aload_n 0 C0 dX8_isUp_0 rfl rfl ?_
  refine tg_get 0 1 C0 dX8_isUp_1 (by decide) rfl rfl tu_X8 (by decide) tf_X8_7 rfl rfl rfl ?_
  refine tg_bipush (x := 6) C0 dX8_isUp_4 (by decide) ?_
  refine tg_iald 1 C0 dX8_isUp_6 (by decide) rfl (fun _ => ?_)
  refine tg_iload_n 1 C0 dX8_isUp_7 rfl rfl ?_
  refine tg_callSi (As := [.int (v 1 (6 : Int32).toNatClampNeg), .int x1]) 2 C0 dX8_isUp_8 (c_X8_has l (v 1 (6 : Int32).toNatClampNeg) x1 v) rfl rfl (tm_gc tc_X8_has) tl_X8_59 tn_X8 tst_X8_has  rfl rfl rfl rfl (by decide +kernel) ⟨by decide, by decide⟩ (Nat.le_of_ble_eq_true rfl) ⟨by decide, by decide⟩ (fun r2 v1 _ => ?_)
  exact tg_bret C0 dX8_isUp_11
theorem c_X8_isUp (l : Launch) (x1 : Int32) (v : tmM) : tmMi tm_NWR tm_shR 13 l yX8_isUp (Cond.code yX8_isUp cX8_isUp 2 (some .boolean) :: TMW) ({ frames := 1, cells := 0, slots := 0, locals := 21 } : Room) (fun ad => [.ref (ad 0), .int x1]) v (f_X8_isUp x1 v) :=
  tmMi.of (cc := cX8_isUp) (nL := 2) (by decide +kernel) rfl tm_NWR_ok (fun _ => Nat.le_of_ble_eq_true rfl) (fun p e s m args below meth c A D cy ad z C0 => w_X8_isUp C0 x1 v)
-- ----- X8_areUp
theorem dX8_areUp_0 : decode cX8_areUp 0 = .ok (.aload_n 0, 1) := by decide +kernel
theorem dX8_areUp_1 : decode cX8_areUp 1 = .ok (.getfield 7, 3) := by decide +kernel
theorem dX8_areUp_4 : decode cX8_areUp 4 = .ok (.bipush 6, 2) := by decide +kernel
theorem dX8_areUp_6 : decode cX8_areUp 6 = .ok (.iaload, 1) := by decide +kernel
theorem dX8_areUp_7 : decode cX8_areUp 7 = .ok (.iconst 3, 1) := by decide +kernel
theorem dX8_areUp_8 : decode cX8_areUp 8 = .ok (.if_icmp .ne 7, 3) := by decide +kernel
theorem dX8_areUp_11 : decode cX8_areUp 11 = .ok (.iconst 1, 1) := by decide +kernel
theorem dX8_areUp_12 : decode cX8_areUp 12 = .ok (.goto 4, 3) := by decide +kernel
theorem dX8_areUp_15 : decode cX8_areUp 15 = .ok (.iconst 0, 1) := by decide +kernel
theorem dX8_areUp_16 : decode cX8_areUp 16 = .ok (.ireturn, 1) := by decide +kernel
def f_X8_areUp (v : tmM) : Option (Int32 × tmM) := tm_g (tm_ix 6 491) ((if (v 1 (6 : Int32).toNatClampNeg) = 3 then some (1, v) else some (0, v)))
set_option maxRecDepth 100000 in
set_option maxHeartbeats 4000000 in
theorem w_X8_areUp {p : Program} {l : Launch} {e : Env} {s : State} {m : MethodId} {args : Array Value} {below : List Frame} {meth : Method} {c : Code} {D : va_G} {cy : Nat → ClassId} {ad : Nat → Nat} {A : Nat → Prop} {z : (Int32 × tmM)} (C0 : tmC p s m args meth c cX8_areUp 1 (some .boolean) RX8 TMW tm_NWR D cy tm_shR ad 13 [] A) (v : tmM) : tmG p l e ({ frames := 0, cells := 0, slots := 0, locals := 0 } : Room) s m args below meth c 0 0 (MQ below (va_Qi (fun r u => z = (r, u)) (tmAt tm_shR 13 D cy ad A) A) args s 0 0 A) 1 D cy tm_shR ad 13 [] A z 0 [(0, .ref (ad 0))] [] v (f_X8_areUp v) := by
  unfold f_X8_areUp
  refine tg_aload_n 0 C0 dX8_areUp_0 rfl rfl ?_
  refine tg_get 0 1 C0 dX8_areUp_1 (by decide) rfl rfl tu_X8 (by decide) tf_X8_7 rfl rfl rfl ?_
  refine tg_bipush (x := 6) C0 dX8_areUp_4 (by decide) ?_
  refine tg_iald 1 C0 dX8_areUp_6 (by decide) rfl (fun _ => ?_)
  refine tg_iconst (x := 3) C0 dX8_areUp_7 (by decide) ?_
  refine tg_icmp_ne 15 C0 dX8_areUp_8 (by decide) (fun _ => ?_) (fun _ => ?_)
  · refine tg_iconst (x := 0) C0 dX8_areUp_15 (by decide) ?_
    exact tg_zret C0 dX8_areUp_16 rfl
  · refine tg_iconst (x := 1) C0 dX8_areUp_11 (by decide) ?_
    refine tg_goto 16 C0 dX8_areUp_12 (by decide) ?_
    exact tg_zret C0 dX8_areUp_16 rfl
theorem c_X8_areUp (l : Launch) (v : tmM) : tmMi tm_NWR tm_shR 13 l yX8_areUp (Cond.code yX8_areUp cX8_areUp 1 (some .boolean) :: TMW) ({ frames := 0, cells := 0, slots := 0, locals := 0 } : Room) (fun ad => [.ref (ad 0)]) v (f_X8_areUp v) :=
  tmMi.of (cc := cX8_areUp) (nL := 1) (by decide +kernel) rfl tm_NWR_ok (fun _ => Nat.le_of_ble_eq_true rfl) (fun p e s m args below meth c A D cy ad z C0 => w_X8_areUp C0 v)
-- ----- X8_cellOf
theorem dX8_cellOf_0 : decode cX8_cellOf 0 = .ok (.aload_n 0, 1) := by decide +kernel
theorem dX8_cellOf_1 : decode cX8_cellOf 1 = .ok (.getfield 7, 3) := by decide +kernel
theorem dX8_cellOf_4 : decode cX8_cellOf 4 = .ok (.iconst 2, 1) := by decide +kernel
theorem dX8_cellOf_5 : decode cX8_cellOf 5 = .ok (.iaload, 1) := by decide +kernel
theorem dX8_cellOf_6 : decode cX8_cellOf 6 = .ok (.istore_n 2, 1) := by decide +kernel
theorem dX8_cellOf_7 : decode cX8_cellOf 7 = .ok (.aload_n 0, 1) := by decide +kernel
theorem dX8_cellOf_8 : decode cX8_cellOf 8 = .ok (.getfield 7, 3) := by decide +kernel
theorem dX8_cellOf_11 : decode cX8_cellOf 11 = .ok (.iconst 1, 1) := by decide +kernel
theorem dX8_cellOf_12 : decode cX8_cellOf 12 = .ok (.iaload, 1) := by decide +kernel
theorem dX8_cellOf_13 : decode cX8_cellOf 13 = .ok (.tableswitch 37 0 2 #[27, 29, 33], 27) := by decide +kernel
theorem dX8_cellOf_40 : decode cX8_cellOf 40 = .ok (.iload_n 1, 1) := by decide +kernel
theorem dX8_cellOf_41 : decode cX8_cellOf 41 = .ok (.ireturn, 1) := by decide +kernel
theorem dX8_cellOf_42 : decode cX8_cellOf 42 = .ok (.iload_n 1, 1) := by decide +kernel
theorem dX8_cellOf_43 : decode cX8_cellOf 43 = .ok (.iload_n 2, 1) := by decide +kernel
theorem dX8_cellOf_44 : decode cX8_cellOf 44 = .ok (.iadd, 1) := by decide +kernel
theorem dX8_cellOf_45 : decode cX8_cellOf 45 = .ok (.ireturn, 1) := by decide +kernel
theorem dX8_cellOf_46 : decode cX8_cellOf 46 = .ok (.iload_n 1, 1) := by decide +kernel
theorem dX8_cellOf_47 : decode cX8_cellOf 47 = .ok (.iload_n 2, 1) := by decide +kernel
theorem dX8_cellOf_48 : decode cX8_cellOf 48 = .ok (.imul, 1) := by decide +kernel
theorem dX8_cellOf_49 : decode cX8_cellOf 49 = .ok (.ireturn, 1) := by decide +kernel
theorem dX8_cellOf_50 : decode cX8_cellOf 50 = .ok (.sipush 999, 3) := by decide +kernel
theorem dX8_cellOf_53 : decode cX8_cellOf 53 = .ok (.iload_n 1, 1) := by decide +kernel
theorem dX8_cellOf_54 : decode cX8_cellOf 54 = .ok (.isub, 1) := by decide +kernel
theorem dX8_cellOf_55 : decode cX8_cellOf 55 = .ok (.ireturn, 1) := by decide +kernel
def f_X8_cellOf (x1 : Int32) (v : tmM) : Option (Int32 × tmM) := tm_g (tm_ix 2 491) (tm_lt (v 1 (2 : Int32).toNatClampNeg) fun y1 => tm_g (tm_ix 1 491) (tm_lt (v 1 (1 : Int32).toNatClampNeg) fun y2 => (if y2 = 0 then some (x1, v) else if y2 = 1 then some (x1 + y1, v) else if y2 = 2 then some (x1 * y1, v) else some (999 - x1, v))))
set_option maxRecDepth 100000 in
set_option maxHeartbeats 4000000 in
theorem w_X8_cellOf {p : Program} {l : Launch} {e : Env} {s : State} {m : MethodId} {args : Array Value} {below : List Frame} {meth : Method} {c : Code} {D : va_G} {cy : Nat → ClassId} {ad : Nat → Nat} {A : Nat → Prop} {z : (Int32 × tmM)} (C0 : tmC p s m args meth c cX8_cellOf 3 (some .int) RX8 TMW tm_NWR D cy tm_shR ad 13 [] A) (x1 : Int32) (v : tmM) : tmG p l e ({ frames := 0, cells := 0, slots := 0, locals := 0 } : Room) s m args below meth c 0 0 (MQ below (va_Qi (fun r u => z = (r, u)) (tmAt tm_shR 13 D cy ad A) A) args s 0 0 A) 3 D cy tm_shR ad 13 [] A z 0 [(0, .ref (ad 0)), (1, .int x1)] [] v (f_X8_cellOf x1 v) := by
  unfold f_X8_cellOf
  refine tg_aload_n 0 C0 dX8_cellOf_0 rfl rfl ?_
  refine tg_get 0 1 C0 dX8_cellOf_1 (by decide) rfl rfl tu_X8 (by decide) tf_X8_7 rfl rfl rfl ?_
  refine tg_iconst (x := 2) C0 dX8_cellOf_4 (by decide) ?_
  refine tg_iald 1 C0 dX8_cellOf_5 (by decide) rfl (fun _ => ?_)
  refine tg_leti (fun y1 _ => ?_)
  refine tg_istore_n [(2, .int y1), (0, .ref (ad 0)), (1, .int x1)] C0 dX8_cellOf_6 rfl (by decide) rfl ?_
  refine tg_aload_n 1 C0 dX8_cellOf_7 rfl rfl ?_
  refine tg_get 0 1 C0 dX8_cellOf_8 (by decide) rfl rfl tu_X8 (by decide) tf_X8_7 rfl rfl rfl ?_
  refine tg_iconst (x := 1) C0 dX8_cellOf_11 (by decide) ?_
  refine tg_iald 1 C0 dX8_cellOf_12 (by decide) rfl (fun _ => ?_)
  refine tg_leti (fun y2 _ => ?_)
  refine tg_tab 0 (cst := 0) 40 tg_tab0 C0 dX8_cellOf_13 (by decide) rfl (by decide) (by decide) (fun _ => ?_) (fun h3 => ?_)
  · refine tg_iload_n 2 C0 dX8_cellOf_40 rfl rfl ?_
    exact tg_iret C0 dX8_cellOf_41
  refine tg_tab 1 (cst := 1) 42 h3 C0 dX8_cellOf_13 (by decide) rfl (by decide) (by decide) (fun _ => ?_) (fun h4 => ?_)
  · refine tg_iload_n 2 C0 dX8_cellOf_42 rfl rfl ?_
    refine tg_iload_n 0 C0 dX8_cellOf_43 rfl rfl ?_
    refine tg_iadd C0 dX8_cellOf_44 ?_
    exact tg_iret C0 dX8_cellOf_45
  refine tg_tab 2 (cst := 2) 46 h4 C0 dX8_cellOf_13 (by decide) rfl (by decide) (by decide) (fun _ => ?_) (fun h5 => ?_)
  · refine tg_iload_n 2 C0 dX8_cellOf_46 rfl rfl ?_
    refine tg_iload_n 0 C0 dX8_cellOf_47 rfl rfl ?_
    refine tg_imul C0 dX8_cellOf_48 ?_
    exact tg_iret C0 dX8_cellOf_49
  refine tg_tabO 3 50 h5 C0 dX8_cellOf_13 (by decide) (by decide) ?_
  refine tg_sipush (x := 999) C0 dX8_cellOf_50 (by decide) ?_
  refine tg_iload_n 2 C0 dX8_cellOf_53 rfl rfl ?_
  refine tg_isub C0 dX8_cellOf_54 ?_
  exact tg_iret C0 dX8_cellOf_55
theorem c_X8_cellOf (l : Launch) (x1 : Int32) (v : tmM) : tmMi tm_NWR tm_shR 13 l yX8_cellOf (Cond.code yX8_cellOf cX8_cellOf 3 (some .int) :: TMW) ({ frames := 0, cells := 0, slots := 0, locals := 0 } : Room) (fun ad => [.ref (ad 0), .int x1]) v (f_X8_cellOf x1 v) :=
  tmMi.of (cc := cX8_cellOf) (nL := 3) (by decide +kernel) rfl tm_NWR_ok (fun _ => Nat.le_of_ble_eq_true rfl) (fun p e s m args below meth c A D cy ad z C0 => w_X8_cellOf C0 x1 v)
-- ----- X8_valueOf
theorem dX8_valueOf_0 : decode cX8_valueOf 0 = .ok (.aload_n 0, 1) := by decide +kernel
theorem dX8_valueOf_1 : decode cX8_valueOf 1 = .ok (.getfield 7, 3) := by decide +kernel
theorem dX8_valueOf_4 : decode cX8_valueOf 4 = .ok (.iconst 2, 1) := by decide +kernel
theorem dX8_valueOf_5 : decode cX8_valueOf 5 = .ok (.iaload, 1) := by decide +kernel
theorem dX8_valueOf_6 : decode cX8_valueOf 6 = .ok (.istore_n 2, 1) := by decide +kernel
theorem dX8_valueOf_7 : decode cX8_valueOf 7 = .ok (.iload_n 1, 1) := by decide +kernel
theorem dX8_valueOf_8 : decode cX8_valueOf 8 = .ok (.iconst (-1), 1) := by decide +kernel
theorem dX8_valueOf_9 : decode cX8_valueOf 9 = .ok (.if_icmp .ne 5, 3) := by decide +kernel
theorem dX8_valueOf_12 : decode cX8_valueOf 12 = .ok (.iconst (-1), 1) := by decide +kernel
theorem dX8_valueOf_13 : decode cX8_valueOf 13 = .ok (.ireturn, 1) := by decide +kernel
theorem dX8_valueOf_14 : decode cX8_valueOf 14 = .ok (.aload_n 0, 1) := by decide +kernel
theorem dX8_valueOf_15 : decode cX8_valueOf 15 = .ok (.getfield 7, 3) := by decide +kernel
theorem dX8_valueOf_18 : decode cX8_valueOf 18 = .ok (.iconst 1, 1) := by decide +kernel
theorem dX8_valueOf_19 : decode cX8_valueOf 19 = .ok (.iaload, 1) := by decide +kernel
theorem dX8_valueOf_20 : decode cX8_valueOf 20 = .ok (.ifCond .ne 7, 3) := by decide +kernel
theorem dX8_valueOf_23 : decode cX8_valueOf 23 = .ok (.iload_n 1, 1) := by decide +kernel
theorem dX8_valueOf_24 : decode cX8_valueOf 24 = .ok (.goto 50, 3) := by decide +kernel
theorem dX8_valueOf_27 : decode cX8_valueOf 27 = .ok (.aload_n 0, 1) := by decide +kernel
theorem dX8_valueOf_28 : decode cX8_valueOf 28 = .ok (.getfield 7, 3) := by decide +kernel
theorem dX8_valueOf_31 : decode cX8_valueOf 31 = .ok (.iconst 1, 1) := by decide +kernel
theorem dX8_valueOf_32 : decode cX8_valueOf 32 = .ok (.iaload, 1) := by decide +kernel
theorem dX8_valueOf_33 : decode cX8_valueOf 33 = .ok (.iconst 1, 1) := by decide +kernel
theorem dX8_valueOf_34 : decode cX8_valueOf 34 = .ok (.if_icmp .ne 9, 3) := by decide +kernel
theorem dX8_valueOf_37 : decode cX8_valueOf 37 = .ok (.iload_n 1, 1) := by decide +kernel
theorem dX8_valueOf_38 : decode cX8_valueOf 38 = .ok (.iload_n 2, 1) := by decide +kernel
theorem dX8_valueOf_39 : decode cX8_valueOf 39 = .ok (.isub, 1) := by decide +kernel
theorem dX8_valueOf_40 : decode cX8_valueOf 40 = .ok (.goto 34, 3) := by decide +kernel
theorem dX8_valueOf_43 : decode cX8_valueOf 43 = .ok (.aload_n 0, 1) := by decide +kernel
theorem dX8_valueOf_44 : decode cX8_valueOf 44 = .ok (.getfield 7, 3) := by decide +kernel
theorem dX8_valueOf_47 : decode cX8_valueOf 47 = .ok (.iconst 1, 1) := by decide +kernel
theorem dX8_valueOf_48 : decode cX8_valueOf 48 = .ok (.iaload, 1) := by decide +kernel
theorem dX8_valueOf_49 : decode cX8_valueOf 49 = .ok (.iconst 2, 1) := by decide +kernel
theorem dX8_valueOf_50 : decode cX8_valueOf 50 = .ok (.if_icmp .ne 19, 3) := by decide +kernel
theorem dX8_valueOf_53 : decode cX8_valueOf 53 = .ok (.iload_n 1, 1) := by decide +kernel
theorem dX8_valueOf_54 : decode cX8_valueOf 54 = .ok (.iload_n 2, 1) := by decide +kernel
theorem dX8_valueOf_55 : decode cX8_valueOf 55 = .ok (.irem, 1) := by decide +kernel
theorem dX8_valueOf_56 : decode cX8_valueOf 56 = .ok (.ifCond .ne 9, 3) := by decide +kernel
theorem dX8_valueOf_59 : decode cX8_valueOf 59 = .ok (.iload_n 1, 1) := by decide +kernel
theorem dX8_valueOf_60 : decode cX8_valueOf 60 = .ok (.iload_n 2, 1) := by decide +kernel
theorem dX8_valueOf_61 : decode cX8_valueOf 61 = .ok (.idiv, 1) := by decide +kernel
theorem dX8_valueOf_62 : decode cX8_valueOf 62 = .ok (.goto 12, 3) := by decide +kernel
theorem dX8_valueOf_65 : decode cX8_valueOf 65 = .ok (.iconst (-1), 1) := by decide +kernel
theorem dX8_valueOf_66 : decode cX8_valueOf 66 = .ok (.goto 8, 3) := by decide +kernel
theorem dX8_valueOf_69 : decode cX8_valueOf 69 = .ok (.sipush 999, 3) := by decide +kernel
theorem dX8_valueOf_72 : decode cX8_valueOf 72 = .ok (.iload_n 1, 1) := by decide +kernel
theorem dX8_valueOf_73 : decode cX8_valueOf 73 = .ok (.isub, 1) := by decide +kernel
theorem dX8_valueOf_74 : decode cX8_valueOf 74 = .ok (.istore_n 3, 1) := by decide +kernel
theorem dX8_valueOf_75 : decode cX8_valueOf 75 = .ok (.iload_n 3, 1) := by decide +kernel
theorem dX8_valueOf_76 : decode cX8_valueOf 76 = .ok (.iconst 0, 1) := by decide +kernel
theorem dX8_valueOf_77 : decode cX8_valueOf 77 = .ok (.sipush 999, 3) := by decide +kernel
theorem dX8_valueOf_80 : decode cX8_valueOf 80 = .ok (.invokestatic 63, 3) := by decide +kernel
theorem dX8_valueOf_83 : decode cX8_valueOf 83 = .ok (.ifCond .eq 7, 3) := by decide +kernel
theorem dX8_valueOf_86 : decode cX8_valueOf 86 = .ok (.iload_n 3, 1) := by decide +kernel
theorem dX8_valueOf_87 : decode cX8_valueOf 87 = .ok (.goto 5, 3) := by decide +kernel
theorem dX8_valueOf_90 : decode cX8_valueOf 90 = .ok (.bipush (-3), 2) := by decide +kernel
theorem dX8_valueOf_92 : decode cX8_valueOf 92 = .ok (.ireturn, 1) := by decide +kernel
theorem tc_X8_in : Cond.code yX8_in cX8_in 3 (some .boolean) ∈ TMW := tm_in 1650 (by decide +kernel) (by decide +kernel)
theorem tl_X8_63 : Cond.methodLink RX8 63 yX8_in ∈ TMW := tm_in 1648 (by decide +kernel) (by decide +kernel)
theorem tst_X8_in : Cond.static yX8_in ∈ TMW := tm_in 1649 (by decide +kernel) (by decide +kernel)
def f_X8_valueOf_74 (s0 : Int32) (v : tmM) : Option (Int32 × tmM) := tm_cl (f_X8_in s0 0 999 v) fun r3 v2 => (if r3 = 0 then some ((-3), v2) else some (s0, v2))
set_option maxRecDepth 100000 in
set_option maxHeartbeats 4000000 in
theorem w_X8_valueOf_74 {p : Program} {l : Launch} {e : Env} {s : State} {m : MethodId} {args : Array Value} {below : List Frame} {meth : Method} {c : Code} {D : va_G} {cy : Nat → ClassId} {ad : Nat → Nat} {A : Nat → Prop} {z : (Int32 × tmM)} (C0 : tmC p s m args meth c cX8_valueOf 4 (some .int) RX8 TMW tm_NWR D cy tm_shR ad 13 [] A) (s0 : Int32) (v : tmM) : tmG p l e ({ frames := 1, cells := 0, slots := 0, locals := 22 } : Room) s m args below meth c 0 0 (MQ below (va_Qi (fun r u => z = (r, u)) (tmAt tm_shR 13 D cy ad A) A) args s 0 0 A) 4 D cy tm_shR ad 13 [] A z 74 [] [.int s0] v (f_X8_valueOf_74 s0 v) := by
  unfold f_X8_valueOf_74
  refine tg_istore_n [(3, .int s0)] C0 dX8_valueOf_74 rfl (by decide) rfl ?_
  refine tg_iload_n 0 C0 dX8_valueOf_75 rfl rfl ?_
  refine tg_iconst (x := 0) C0 dX8_valueOf_76 (by decide) ?_
  refine tg_sipush (x := 999) C0 dX8_valueOf_77 (by decide) ?_
  refine tg_callSi (As := [.int s0, .int 0, .int 999]) 3 C0 dX8_valueOf_80 (c_X8_in l s0 0 999 v) rfl rfl (tm_gc tc_X8_in) tl_X8_63 tn_X8 tst_X8_in  rfl rfl rfl rfl (by decide +kernel) ⟨by decide, by decide⟩ (Nat.le_of_ble_eq_true rfl) ⟨by decide, by decide⟩ (fun r3 v2 _ => ?_)
  refine tg_if_eq 90 C0 dX8_valueOf_83 (by decide) (fun _ => ?_) (fun _ => ?_)
  · refine tg_bipush (x := (-3)) C0 dX8_valueOf_90 (by decide) ?_
    exact tg_iret C0 dX8_valueOf_92
  · refine tg_iload_n 0 C0 dX8_valueOf_86 rfl rfl ?_
    refine tg_goto 92 C0 dX8_valueOf_87 (by decide) ?_
    exact tg_iret C0 dX8_valueOf_92
def f_X8_valueOf (x1 : Int32) (v : tmM) : Option (Int32 × tmM) := tm_g (tm_ix 2 491) (tm_lt (v 1 (2 : Int32).toNatClampNeg) fun y1 => (if x1 = (-1) then some ((-1), v) else tm_g (tm_ix 1 491) ((if (v 1 (1 : Int32).toNatClampNeg) = 0 then f_X8_valueOf_74 x1 v else tm_g (tm_ix 1 491) ((if (v 1 (1 : Int32).toNatClampNeg) = 1 then f_X8_valueOf_74 (x1 - y1) v else tm_g (tm_ix 1 491) ((if (v 1 (1 : Int32).toNatClampNeg) = 2 then tm_g (decide (¬ y1 = 0)) ((if (x1 - x1 / y1 * y1) = 0 then tm_g (decide (¬ y1 = 0)) (f_X8_valueOf_74 (x1 / y1) v) else f_X8_valueOf_74 (-1) v)) else f_X8_valueOf_74 (999 - x1) v))))))))
set_option maxRecDepth 100000 in
set_option maxHeartbeats 4000000 in
theorem w_X8_valueOf {p : Program} {l : Launch} {e : Env} {s : State} {m : MethodId} {args : Array Value} {below : List Frame} {meth : Method} {c : Code} {D : va_G} {cy : Nat → ClassId} {ad : Nat → Nat} {A : Nat → Prop} {z : (Int32 × tmM)} (C0 : tmC p s m args meth c cX8_valueOf 4 (some .int) RX8 TMW tm_NWR D cy tm_shR ad 13 [] A) (x1 : Int32) (v : tmM) : tmG p l e ({ frames := 1, cells := 0, slots := 0, locals := 22 } : Room) s m args below meth c 0 0 (MQ below (va_Qi (fun r u => z = (r, u)) (tmAt tm_shR 13 D cy ad A) A) args s 0 0 A) 4 D cy tm_shR ad 13 [] A z 0 [(0, .ref (ad 0)), (1, .int x1)] [] v (f_X8_valueOf x1 v) := by
  unfold f_X8_valueOf
  refine tg_aload_n 0 C0 dX8_valueOf_0 rfl rfl ?_
  refine tg_get 0 1 C0 dX8_valueOf_1 (by decide) rfl rfl tu_X8 (by decide) tf_X8_7 rfl rfl rfl ?_
  refine tg_iconst (x := 2) C0 dX8_valueOf_4 (by decide) ?_
  refine tg_iald 1 C0 dX8_valueOf_5 (by decide) rfl (fun _ => ?_)
  refine tg_leti (fun y1 _ => ?_)
  refine tg_istore_n [(2, .int y1), (0, .ref (ad 0)), (1, .int x1)] C0 dX8_valueOf_6 rfl (by decide) rfl ?_
  refine tg_iload_n 2 C0 dX8_valueOf_7 rfl rfl ?_
  refine tg_iconst (x := (-1)) C0 dX8_valueOf_8 (by decide) ?_
  refine tg_icmp_ne 14 C0 dX8_valueOf_9 (by decide) (fun _ => ?_) (fun _ => ?_)
  · refine tg_aload_n 1 C0 dX8_valueOf_14 rfl rfl ?_
    refine tg_get 0 1 C0 dX8_valueOf_15 (by decide) rfl rfl tu_X8 (by decide) tf_X8_7 rfl rfl rfl ?_
    refine tg_iconst (x := 1) C0 dX8_valueOf_18 (by decide) ?_
    refine tg_iald 1 C0 dX8_valueOf_19 (by decide) rfl (fun _ => ?_)
    refine tg_if_ne 27 C0 dX8_valueOf_20 (by decide) (fun _ => ?_) (fun _ => ?_)
    · refine tg_aload_n 1 C0 dX8_valueOf_27 rfl rfl ?_
      refine tg_get 0 1 C0 dX8_valueOf_28 (by decide) rfl rfl tu_X8 (by decide) tf_X8_7 rfl rfl rfl ?_
      refine tg_iconst (x := 1) C0 dX8_valueOf_31 (by decide) ?_
      refine tg_iald 1 C0 dX8_valueOf_32 (by decide) rfl (fun _ => ?_)
      refine tg_iconst (x := 1) C0 dX8_valueOf_33 (by decide) ?_
      refine tg_icmp_ne 43 C0 dX8_valueOf_34 (by decide) (fun _ => ?_) (fun _ => ?_)
      · refine tg_aload_n 1 C0 dX8_valueOf_43 rfl rfl ?_
        refine tg_get 0 1 C0 dX8_valueOf_44 (by decide) rfl rfl tu_X8 (by decide) tf_X8_7 rfl rfl rfl ?_
        refine tg_iconst (x := 1) C0 dX8_valueOf_47 (by decide) ?_
        refine tg_iald 1 C0 dX8_valueOf_48 (by decide) rfl (fun _ => ?_)
        refine tg_iconst (x := 2) C0 dX8_valueOf_49 (by decide) ?_
        refine tg_icmp_ne 69 C0 dX8_valueOf_50 (by decide) (fun _ => ?_) (fun _ => ?_)
        · refine tg_sipush (x := 999) C0 dX8_valueOf_69 (by decide) ?_
          refine tg_iload_n 2 C0 dX8_valueOf_72 rfl rfl ?_
          refine tg_isub C0 dX8_valueOf_73 ?_
          refine tg_sub [] rfl ?_
          exact w_X8_valueOf_74 C0 (999 - x1) v
        · refine tg_iload_n 2 C0 dX8_valueOf_53 rfl rfl ?_
          refine tg_iload_n 0 C0 dX8_valueOf_54 rfl rfl ?_
          refine tg_irem C0 dX8_valueOf_55 (fun _ => ?_)
          refine tg_if_ne 65 C0 dX8_valueOf_56 (by decide) (fun _ => ?_) (fun _ => ?_)
          · refine tg_iconst (x := (-1)) C0 dX8_valueOf_65 (by decide) ?_
            refine tg_goto 74 C0 dX8_valueOf_66 (by decide) ?_
            refine tg_sub [] rfl ?_
            exact w_X8_valueOf_74 C0 (-1) v
          · refine tg_iload_n 2 C0 dX8_valueOf_59 rfl rfl ?_
            refine tg_iload_n 0 C0 dX8_valueOf_60 rfl rfl ?_
            refine tg_idiv C0 dX8_valueOf_61 (fun _ => ?_)
            refine tg_goto 74 C0 dX8_valueOf_62 (by decide) ?_
            refine tg_sub [] rfl ?_
            exact w_X8_valueOf_74 C0 (x1 / y1) v
      · refine tg_iload_n 2 C0 dX8_valueOf_37 rfl rfl ?_
        refine tg_iload_n 0 C0 dX8_valueOf_38 rfl rfl ?_
        refine tg_isub C0 dX8_valueOf_39 ?_
        refine tg_goto 74 C0 dX8_valueOf_40 (by decide) ?_
        refine tg_sub [] rfl ?_
        exact w_X8_valueOf_74 C0 (x1 - y1) v
    · refine tg_iload_n 2 C0 dX8_valueOf_23 rfl rfl ?_
      refine tg_goto 74 C0 dX8_valueOf_24 (by decide) ?_
      refine tg_sub [] rfl ?_
      exact w_X8_valueOf_74 C0 x1 v
  · refine tg_iconst (x := (-1)) C0 dX8_valueOf_12 (by decide) ?_
    exact tg_iret C0 dX8_valueOf_13
theorem c_X8_valueOf (l : Launch) (x1 : Int32) (v : tmM) : tmMi tm_NWR tm_shR 13 l yX8_valueOf (Cond.code yX8_valueOf cX8_valueOf 4 (some .int) :: TMW) ({ frames := 1, cells := 0, slots := 0, locals := 22 } : Room) (fun ad => [.ref (ad 0), .int x1]) v (f_X8_valueOf x1 v) :=
  tmMi.of (cc := cX8_valueOf) (nL := 4) (by decide +kernel) rfl tm_NWR_ok (fun _ => Nat.le_of_ble_eq_true rfl) (fun p e s m args below meth c A D cy ad z C0 => w_X8_valueOf C0 x1 v)
-- ----- X8_valueIn
theorem dX8_valueIn_0 : decode cX8_valueIn 0 = .ok (.iload_n 1, 1) := by decide +kernel
theorem dX8_valueIn_1 : decode cX8_valueIn 1 = .ok (.ifCond .ne 15, 3) := by decide +kernel
theorem dX8_valueIn_4 : decode cX8_valueIn 4 = .ok (.aload_n 0, 1) := by decide +kernel
theorem dX8_valueIn_5 : decode cX8_valueIn 5 = .ok (.getfield 7, 3) := by decide +kernel
theorem dX8_valueIn_8 : decode cX8_valueIn 8 = .ok (.bipush 11, 2) := by decide +kernel
theorem dX8_valueIn_10 : decode cX8_valueIn 10 = .ok (.iload_n 2, 1) := by decide +kernel
theorem dX8_valueIn_11 : decode cX8_valueIn 11 = .ok (.iadd, 1) := by decide +kernel
theorem dX8_valueIn_12 : decode cX8_valueIn 12 = .ok (.iaload, 1) := by decide +kernel
theorem dX8_valueIn_13 : decode cX8_valueIn 13 = .ok (.goto 16, 3) := by decide +kernel
theorem dX8_valueIn_16 : decode cX8_valueIn 16 = .ok (.aload_n 0, 1) := by decide +kernel
theorem dX8_valueIn_17 : decode cX8_valueIn 17 = .ok (.aload_n 0, 1) := by decide +kernel
theorem dX8_valueIn_18 : decode cX8_valueIn 18 = .ok (.getfield 7, 3) := by decide +kernel
theorem dX8_valueIn_21 : decode cX8_valueIn 21 = .ok (.bipush 71, 2) := by decide +kernel
theorem dX8_valueIn_23 : decode cX8_valueIn 23 = .ok (.iload_n 2, 1) := by decide +kernel
theorem dX8_valueIn_24 : decode cX8_valueIn 24 = .ok (.iadd, 1) := by decide +kernel
theorem dX8_valueIn_25 : decode cX8_valueIn 25 = .ok (.iaload, 1) := by decide +kernel
theorem dX8_valueIn_26 : decode cX8_valueIn 26 = .ok (.invokevirtual 67, 3) := by decide +kernel
theorem dX8_valueIn_29 : decode cX8_valueIn 29 = .ok (.ireturn, 1) := by decide +kernel
theorem tl_X8_67 : Cond.methodLink RX8 67 yX8_valueOf ∈ TMW := tm_in 1710 (by decide +kernel) (by decide +kernel)
theorem ti_X8_valueOf : Cond.instanceMethod yX8_valueOf ∈ TMW := tm_in 1712 (by decide +kernel) (by decide +kernel)
theorem ts_X8_valueOf : Cond.selects RX8 yX8_valueOf yX8_valueOf ∈ TMW := tm_in 47 (by decide +kernel) (by decide +kernel)
theorem tc_X8_valueOf : Cond.code yX8_valueOf cX8_valueOf 4 (some .int) ∈ TMW := tm_in 1713 (by decide +kernel) (by decide +kernel)
def f_X8_valueIn (x1 x2 : Int32) (v : tmM) : Option (Int32 × tmM) := (if x1 = 0 then tm_g (tm_ix (11 + x2) 491) (some (v 1 (11 + x2).toNatClampNeg, v)) else tm_g (tm_ix (71 + x2) 491) (tm_cl (f_X8_valueOf (v 1 (71 + x2).toNatClampNeg) v) fun r2 v1 => some (r2, v1)))
set_option maxRecDepth 100000 in
set_option maxHeartbeats 4000000 in
theorem w_X8_valueIn {p : Program} {l : Launch} {e : Env} {s : State} {m : MethodId} {args : Array Value} {below : List Frame} {meth : Method} {c : Code} {D : va_G} {cy : Nat → ClassId} {ad : Nat → Nat} {A : Nat → Prop} {z : (Int32 × tmM)} (C0 : tmC p s m args meth c cX8_valueIn 3 (some .int) RX8 TMW tm_NWR D cy tm_shR ad 13 [] A) (x1 x2 : Int32) (v : tmM) : tmG p l e ({ frames := 2, cells := 0, slots := 0, locals := 45 } : Room) s m args below meth c 0 0 (MQ below (va_Qi (fun r u => z = (r, u)) (tmAt tm_shR 13 D cy ad A) A) args s 0 0 A) 3 D cy tm_shR ad 13 [] A z 0 [(0, .ref (ad 0)), (1, .int x1), (2, .int x2)] [] v (f_X8_valueIn x1 x2 v) := by
  unfold f_X8_valueIn
  refine tg_iload_n 1 C0 dX8_valueIn_0 rfl rfl ?_
  refine tg_if_ne 16 C0 dX8_valueIn_1 (by decide) (fun _ => ?_) (fun _ => ?_)
  · refine tg_aload_n 0 C0 dX8_valueIn_16 rfl rfl ?_
    refine tg_aload_n 0 C0 dX8_valueIn_17 rfl rfl ?_
    refine tg_get 0 1 C0 dX8_valueIn_18 (by decide) rfl rfl tu_X8 (by decide) tf_X8_7 rfl rfl rfl ?_
    refine tg_bipush (x := 71) C0 dX8_valueIn_21 (by decide) ?_
    refine tg_iload_n 2 C0 dX8_valueIn_23 rfl rfl ?_
    refine tg_iadd C0 dX8_valueIn_24 ?_
    refine tg_iald 1 C0 dX8_valueIn_25 (by decide) rfl (fun _ => ?_)
    refine tg_callVi (As := [.int (v 1 (71 + x2).toNatClampNeg)]) 0 1 C0 dX8_valueIn_26 (c_X8_valueOf l (v 1 (71 + x2).toNatClampNeg) v) rfl rfl (by decide) rfl rfl (tm_gV tl_X8_67 ti_X8_valueOf ts_X8_valueOf tn_X8 tc_X8_valueOf)  rfl rfl rfl rfl (by decide +kernel) ⟨by decide, by decide⟩ (Nat.le_of_ble_eq_true rfl) ⟨by decide, by decide⟩ (fun r2 v1 _ => ?_)
    exact tg_iret C0 dX8_valueIn_29
  · refine tg_aload_n 0 C0 dX8_valueIn_4 rfl rfl ?_
    refine tg_get 0 1 C0 dX8_valueIn_5 (by decide) rfl rfl tu_X8 (by decide) tf_X8_7 rfl rfl rfl ?_
    refine tg_bipush (x := 11) C0 dX8_valueIn_8 (by decide) ?_
    refine tg_iload_n 2 C0 dX8_valueIn_10 rfl rfl ?_
    refine tg_iadd C0 dX8_valueIn_11 ?_
    refine tg_iald 1 C0 dX8_valueIn_12 (by decide) rfl (fun _ => ?_)
    refine tg_goto 29 C0 dX8_valueIn_13 (by decide) ?_
    exact tg_iret C0 dX8_valueIn_29
theorem c_X8_valueIn (l : Launch) (x1 x2 : Int32) (v : tmM) : tmMi tm_NWR tm_shR 13 l yX8_valueIn (Cond.code yX8_valueIn cX8_valueIn 3 (some .int) :: TMW) ({ frames := 2, cells := 0, slots := 0, locals := 45 } : Room) (fun ad => [.ref (ad 0), .int x1, .int x2]) v (f_X8_valueIn x1 x2 v) :=
  tmMi.of (cc := cX8_valueIn) (nL := 3) (by decide +kernel) rfl tm_NWR_ok (fun _ => Nat.le_of_ble_eq_true rfl) (fun p e s m args below meth c A D cy ad z C0 => w_X8_valueIn C0 x1 x2 v)
-- ----- X8_lays
theorem dX8_lays_0 : decode cX8_lays 0 = .ok (.iload_n 1, 1) := by decide +kernel
theorem dX8_lays_1 : decode cX8_lays 1 = .ok (.ifCond .ne 16, 3) := by decide +kernel
theorem dX8_lays_4 : decode cX8_lays 4 = .ok (.aload_n 0, 1) := by decide +kernel
theorem dX8_lays_5 : decode cX8_lays 5 = .ok (.getfield 7, 3) := by decide +kernel
theorem dX8_lays_8 : decode cX8_lays 8 = .ok (.bipush 11, 2) := by decide +kernel
theorem dX8_lays_10 : decode cX8_lays 10 = .ok (.iload_n 2, 1) := by decide +kernel
theorem dX8_lays_11 : decode cX8_lays 11 = .ok (.iadd, 1) := by decide +kernel
theorem dX8_lays_12 : decode cX8_lays 12 = .ok (.iload_n 3, 1) := by decide +kernel
theorem dX8_lays_13 : decode cX8_lays 13 = .ok (.iastore, 1) := by decide +kernel
theorem dX8_lays_14 : decode cX8_lays 14 = .ok (.goto 26, 3) := by decide +kernel
theorem dX8_lays_17 : decode cX8_lays 17 = .ok (.aload_n 0, 1) := by decide +kernel
theorem dX8_lays_18 : decode cX8_lays 18 = .ok (.getfield 7, 3) := by decide +kernel
theorem dX8_lays_21 : decode cX8_lays 21 = .ok (.bipush 71, 2) := by decide +kernel
theorem dX8_lays_23 : decode cX8_lays 23 = .ok (.iload_n 2, 1) := by decide +kernel
theorem dX8_lays_24 : decode cX8_lays 24 = .ok (.iadd, 1) := by decide +kernel
theorem dX8_lays_25 : decode cX8_lays 25 = .ok (.iload_n 3, 1) := by decide +kernel
theorem dX8_lays_26 : decode cX8_lays 26 = .ok (.iconst (-1), 1) := by decide +kernel
theorem dX8_lays_27 : decode cX8_lays 27 = .ok (.if_icmp .ne 7, 3) := by decide +kernel
theorem dX8_lays_30 : decode cX8_lays 30 = .ok (.iconst (-1), 1) := by decide +kernel
theorem dX8_lays_31 : decode cX8_lays 31 = .ok (.goto 8, 3) := by decide +kernel
theorem dX8_lays_34 : decode cX8_lays 34 = .ok (.aload_n 0, 1) := by decide +kernel
theorem dX8_lays_35 : decode cX8_lays 35 = .ok (.iload_n 3, 1) := by decide +kernel
theorem dX8_lays_36 : decode cX8_lays 36 = .ok (.invokevirtual 71, 3) := by decide +kernel
theorem dX8_lays_39 : decode cX8_lays 39 = .ok (.iastore, 1) := by decide +kernel
theorem dX8_lays_40 : decode cX8_lays 40 = .ok (.return_, 1) := by decide +kernel
theorem tl_X8_71 : Cond.methodLink RX8 71 yX8_cellOf ∈ TMW := tm_in 1800 (by decide +kernel) (by decide +kernel)
theorem ti_X8_cellOf : Cond.instanceMethod yX8_cellOf ∈ TMW := tm_in 1802 (by decide +kernel) (by decide +kernel)
theorem ts_X8_cellOf : Cond.selects RX8 yX8_cellOf yX8_cellOf ∈ TMW := tm_in 59 (by decide +kernel) (by decide +kernel)
theorem tc_X8_cellOf : Cond.code yX8_cellOf cX8_cellOf 3 (some .int) ∈ TMW := tm_in 1803 (by decide +kernel) (by decide +kernel)
def f_X8_lays (x1 x2 x3 : Int32) (v : tmM) : Option (Unit × tmM) := (if x1 = 0 then tm_g (tm_ix (11 + x2) 491) (tm_lt (tm_up v 1 (11 + x2).toNatClampNeg x3) fun v5 => some ((), v5)) else (if x3 = (-1) then tm_g (tm_ix (71 + x2) 491) (tm_lt (tm_up v 1 (71 + x2).toNatClampNeg (-1)) fun v4 => some ((), v4)) else tm_cl (f_X8_cellOf x3 v) fun r2 v1 => tm_g (tm_ix (71 + x2) 491) (tm_lt (tm_up v1 1 (71 + x2).toNatClampNeg r2) fun v3 => some ((), v3))))
set_option maxRecDepth 100000 in
set_option maxHeartbeats 4000000 in
theorem w_X8_lays {p : Program} {l : Launch} {e : Env} {s : State} {m : MethodId} {args : Array Value} {below : List Frame} {meth : Method} {c : Code} {D : va_G} {cy : Nat → ClassId} {ad : Nat → Nat} {A : Nat → Prop} {z : (Unit × tmM)} (C0 : tmC p s m args meth c cX8_lays 4 none RX8 TMW tm_NWR D cy tm_shR ad 13 [] A) (x1 x2 x3 : Int32) (v : tmM) : tmG p l e ({ frames := 1, cells := 0, slots := 0, locals := 22 } : Room) s m args below meth c 0 0 (MQ below (va_Qv (fun u => z = ((), u)) (tmAt tm_shR 13 D cy ad A) A) args s 0 0 A) 4 D cy tm_shR ad 13 [] A z 0 [(0, .ref (ad 0)), (1, .int x1), (2, .int x2), (3, .int x3)] [] v (f_X8_lays x1 x2 x3 v) := by
  unfold f_X8_lays
  refine tg_iload_n 1 C0 dX8_lays_0 rfl rfl ?_
  refine tg_if_ne 17 C0 dX8_lays_1 (by decide) (fun _ => ?_) (fun _ => ?_)
  · refine tg_aload_n 0 C0 dX8_lays_17 rfl rfl ?_
    refine tg_get 0 1 C0 dX8_lays_18 (by decide) rfl rfl tu_X8 (by decide) tf_X8_7 rfl rfl rfl ?_
    refine tg_bipush (x := 71) C0 dX8_lays_21 (by decide) ?_
    refine tg_iload_n 2 C0 dX8_lays_23 rfl rfl ?_
    refine tg_iadd C0 dX8_lays_24 ?_
    refine tg_iload_n 3 C0 dX8_lays_25 rfl rfl ?_
    refine tg_iconst (x := (-1)) C0 dX8_lays_26 (by decide) ?_
    refine tg_icmp_ne 34 C0 dX8_lays_27 (by decide) (fun _ => ?_) (fun _ => ?_)
    · refine tg_aload_n 0 C0 dX8_lays_34 rfl rfl ?_
      refine tg_iload_n 3 C0 dX8_lays_35 rfl rfl ?_
      refine tg_callVi (As := [.int x3]) 0 1 C0 dX8_lays_36 (c_X8_cellOf l x3 v) rfl rfl (by decide) rfl rfl (tm_gV tl_X8_71 ti_X8_cellOf ts_X8_cellOf tn_X8 tc_X8_cellOf)  rfl rfl rfl rfl (by decide +kernel) ⟨by decide, by decide⟩ (Nat.le_of_ble_eq_true rfl) ⟨by decide, by decide⟩ (fun r2 v1 _ => ?_)
      refine tg_iast 1 C0 dX8_lays_39 (by decide) rfl (fun _ => ?_)
      refine tg_letm (fun v3 _ => ?_)
      exact tg_vret C0 dX8_lays_40
    · refine tg_iconst (x := (-1)) C0 dX8_lays_30 (by decide) ?_
      refine tg_goto 39 C0 dX8_lays_31 (by decide) ?_
      refine tg_iast 1 C0 dX8_lays_39 (by decide) rfl (fun _ => ?_)
      refine tg_letm (fun v4 _ => ?_)
      exact tg_vret C0 dX8_lays_40
  · refine tg_aload_n 0 C0 dX8_lays_4 rfl rfl ?_
    refine tg_get 0 1 C0 dX8_lays_5 (by decide) rfl rfl tu_X8 (by decide) tf_X8_7 rfl rfl rfl ?_
    refine tg_bipush (x := 11) C0 dX8_lays_8 (by decide) ?_
    refine tg_iload_n 2 C0 dX8_lays_10 rfl rfl ?_
    refine tg_iadd C0 dX8_lays_11 ?_
    refine tg_iload_n 3 C0 dX8_lays_12 rfl rfl ?_
    refine tg_iast 1 C0 dX8_lays_13 (by decide) rfl (fun _ => ?_)
    refine tg_letm (fun v5 _ => ?_)
    refine tg_goto 40 C0 dX8_lays_14 (by decide) ?_
    exact tg_vret C0 dX8_lays_40
theorem c_X8_lays (l : Launch) (x1 x2 x3 : Int32) (v : tmM) : tmMv tm_NWR tm_shR 13 l yX8_lays (Cond.code yX8_lays cX8_lays 4 none :: TMW) ({ frames := 1, cells := 0, slots := 0, locals := 22 } : Room) (fun ad => [.ref (ad 0), .int x1, .int x2, .int x3]) v (f_X8_lays x1 x2 x3 v) :=
  tmMv.of (cc := cX8_lays) (nL := 4) (by decide +kernel) rfl tm_NWR_ok (fun _ => Nat.le_of_ble_eq_true rfl) (fun p e s m args below meth c A D cy ad z C0 => w_X8_lays C0 x1 x2 x3 v)
-- ----- X8_differs
theorem dX8_differs_0 : decode cX8_differs 0 = .ok (.aload_n 0, 1) := by decide +kernel
theorem dX8_differs_1 : decode cX8_differs 1 = .ok (.iconst 0, 1) := by decide +kernel
theorem dX8_differs_2 : decode cX8_differs 2 = .ok (.iload_n 1, 1) := by decide +kernel
theorem dX8_differs_3 : decode cX8_differs 3 = .ok (.invokevirtual 74, 3) := by decide +kernel
theorem dX8_differs_6 : decode cX8_differs 6 = .ok (.aload_n 0, 1) := by decide +kernel
theorem dX8_differs_7 : decode cX8_differs 7 = .ok (.iconst 1, 1) := by decide +kernel
theorem dX8_differs_8 : decode cX8_differs 8 = .ok (.iload_n 1, 1) := by decide +kernel
theorem dX8_differs_9 : decode cX8_differs 9 = .ok (.invokevirtual 74, 3) := by decide +kernel
theorem dX8_differs_12 : decode cX8_differs 12 = .ok (.if_icmp .eq 7, 3) := by decide +kernel
theorem dX8_differs_15 : decode cX8_differs 15 = .ok (.iconst 1, 1) := by decide +kernel
theorem dX8_differs_16 : decode cX8_differs 16 = .ok (.goto 4, 3) := by decide +kernel
theorem dX8_differs_19 : decode cX8_differs 19 = .ok (.iconst 0, 1) := by decide +kernel
theorem dX8_differs_20 : decode cX8_differs 20 = .ok (.ireturn, 1) := by decide +kernel
theorem tl_X8_74 : Cond.methodLink RX8 74 yX8_valueIn ∈ TMW := tm_in 1706 (by decide +kernel) (by decide +kernel)
theorem ti_X8_valueIn : Cond.instanceMethod yX8_valueIn ∈ TMW := tm_in 1708 (by decide +kernel) (by decide +kernel)
theorem ts_X8_valueIn : Cond.selects RX8 yX8_valueIn yX8_valueIn ∈ TMW := tm_in 46 (by decide +kernel) (by decide +kernel)
theorem tc_X8_valueIn : Cond.code yX8_valueIn cX8_valueIn 3 (some .int) ∈ TMW := tm_in 1709 (by decide +kernel) (by decide +kernel)
def f_X8_differs (x1 : Int32) (v : tmM) : Option (Int32 × tmM) := tm_cl (f_X8_valueIn 0 x1 v) fun r2 v1 => tm_cl (f_X8_valueIn 1 x1 v1) fun r4 v3 => (if r2 = r4 then some (0, v3) else some (1, v3))
set_option maxRecDepth 100000 in
set_option maxHeartbeats 4000000 in
theorem w_X8_differs {p : Program} {l : Launch} {e : Env} {s : State} {m : MethodId} {args : Array Value} {below : List Frame} {meth : Method} {c : Code} {D : va_G} {cy : Nat → ClassId} {ad : Nat → Nat} {A : Nat → Prop} {z : (Int32 × tmM)} (C0 : tmC p s m args meth c cX8_differs 2 (some .boolean) RX8 TMW tm_NWR D cy tm_shR ad 13 [] A) (x1 : Int32) (v : tmM) : tmG p l e ({ frames := 3, cells := 0, slots := 0, locals := 67 } : Room) s m args below meth c 0 0 (MQ below (va_Qi (fun r u => z = (r, u)) (tmAt tm_shR 13 D cy ad A) A) args s 0 0 A) 2 D cy tm_shR ad 13 [] A z 0 [(0, .ref (ad 0)), (1, .int x1)] [] v (f_X8_differs x1 v) := by
  unfold f_X8_differs
  refine tg_aload_n 0 C0 dX8_differs_0 rfl rfl ?_
  refine tg_iconst (x := 0) C0 dX8_differs_1 (by decide) ?_
  refine tg_iload_n 1 C0 dX8_differs_2 rfl rfl ?_
  refine tg_callVi (As := [.int 0, .int x1]) 0 2 C0 dX8_differs_3 (c_X8_valueIn l 0 x1 v) rfl rfl (by decide) rfl rfl (tm_gV tl_X8_74 ti_X8_valueIn ts_X8_valueIn tn_X8 tc_X8_valueIn)  rfl rfl rfl rfl (by decide +kernel) ⟨by decide, by decide⟩ (Nat.le_of_ble_eq_true rfl) ⟨by decide, by decide⟩ (fun r2 v1 _ => ?_)
  refine tg_aload_n 0 C0 dX8_differs_6 rfl rfl ?_
  refine tg_iconst (x := 1) C0 dX8_differs_7 (by decide) ?_
  refine tg_iload_n 1 C0 dX8_differs_8 rfl rfl ?_
  refine tg_callVi (As := [.int 1, .int x1]) 0 2 C0 dX8_differs_9 (c_X8_valueIn l 1 x1 v1) rfl rfl (by decide) rfl rfl (tm_gV tl_X8_74 ti_X8_valueIn ts_X8_valueIn tn_X8 tc_X8_valueIn)  rfl rfl rfl rfl (by decide +kernel) ⟨by decide, by decide⟩ (Nat.le_of_ble_eq_true rfl) ⟨by decide, by decide⟩ (fun r4 v3 _ => ?_)
  refine tg_icmp_eq 19 C0 dX8_differs_12 (by decide) (fun _ => ?_) (fun _ => ?_)
  · refine tg_iconst (x := 0) C0 dX8_differs_19 (by decide) ?_
    exact tg_zret C0 dX8_differs_20 rfl
  · refine tg_iconst (x := 1) C0 dX8_differs_15 (by decide) ?_
    refine tg_goto 20 C0 dX8_differs_16 (by decide) ?_
    exact tg_zret C0 dX8_differs_20 rfl
theorem c_X8_differs (l : Launch) (x1 : Int32) (v : tmM) : tmMi tm_NWR tm_shR 13 l yX8_differs (Cond.code yX8_differs cX8_differs 2 (some .boolean) :: TMW) ({ frames := 3, cells := 0, slots := 0, locals := 67 } : Room) (fun ad => [.ref (ad 0), .int x1]) v (f_X8_differs x1 v) :=
  tmMi.of (cc := cX8_differs) (nL := 2) (by decide +kernel) rfl tm_NWR_ok (fun _ => Nat.le_of_ble_eq_true rfl) (fun p e s m args below meth c A D cy ad z C0 => w_X8_differs C0 x1 v)
-- ----- X8_rowsOf
theorem dX8_rowsOf_0 : decode cX8_rowsOf 0 = .ok (.iconst 0, 1) := by decide +kernel
theorem dX8_rowsOf_1 : decode cX8_rowsOf 1 = .ok (.istore_n 2, 1) := by decide +kernel
theorem dX8_rowsOf_2 : decode cX8_rowsOf 2 = .ok (.iconst 0, 1) := by decide +kernel
theorem dX8_rowsOf_3 : decode cX8_rowsOf 3 = .ok (.istore_n 3, 1) := by decide +kernel
theorem dX8_rowsOf_4 : decode cX8_rowsOf 4 = .ok (.iload_n 3, 1) := by decide +kernel
theorem dX8_rowsOf_5 : decode cX8_rowsOf 5 = .ok (.bipush 60, 2) := by decide +kernel
theorem dX8_rowsOf_7 : decode cX8_rowsOf 7 = .ok (.if_icmp .ge 29, 3) := by decide +kernel
theorem dX8_rowsOf_10 : decode cX8_rowsOf 10 = .ok (.iload_n 2, 1) := by decide +kernel
theorem dX8_rowsOf_11 : decode cX8_rowsOf 11 = .ok (.aload_n 0, 1) := by decide +kernel
theorem dX8_rowsOf_12 : decode cX8_rowsOf 12 = .ok (.getfield 7, 3) := by decide +kernel
theorem dX8_rowsOf_15 : decode cX8_rowsOf 15 = .ok (.iload_n 1, 1) := by decide +kernel
theorem dX8_rowsOf_16 : decode cX8_rowsOf 16 = .ok (.iload_n 3, 1) := by decide +kernel
theorem dX8_rowsOf_17 : decode cX8_rowsOf 17 = .ok (.iadd, 1) := by decide +kernel
theorem dX8_rowsOf_18 : decode cX8_rowsOf 18 = .ok (.iaload, 1) := by decide +kernel
theorem dX8_rowsOf_19 : decode cX8_rowsOf 19 = .ok (.iconst (-1), 1) := by decide +kernel
theorem dX8_rowsOf_20 : decode cX8_rowsOf 20 = .ok (.if_icmp .ne 7, 3) := by decide +kernel
theorem dX8_rowsOf_23 : decode cX8_rowsOf 23 = .ok (.iconst 0, 1) := by decide +kernel
theorem dX8_rowsOf_24 : decode cX8_rowsOf 24 = .ok (.goto 4, 3) := by decide +kernel
theorem dX8_rowsOf_27 : decode cX8_rowsOf 27 = .ok (.iconst 1, 1) := by decide +kernel
theorem dX8_rowsOf_28 : decode cX8_rowsOf 28 = .ok (.iadd, 1) := by decide +kernel
theorem dX8_rowsOf_29 : decode cX8_rowsOf 29 = .ok (.istore_n 2, 1) := by decide +kernel
theorem dX8_rowsOf_30 : decode cX8_rowsOf 30 = .ok (.iinc 3 1, 3) := by decide +kernel
theorem dX8_rowsOf_33 : decode cX8_rowsOf 33 = .ok (.goto (-29), 3) := by decide +kernel
theorem dX8_rowsOf_36 : decode cX8_rowsOf 36 = .ok (.iload_n 2, 1) := by decide +kernel
theorem dX8_rowsOf_37 : decode cX8_rowsOf 37 = .ok (.ireturn, 1) := by decide +kernel
def f_X8_rowsOf_28 (K0 : Int32 → tmM → Option (Int32 × tmM)) (L : Int32 → Int32 → Int32 → tmM → Option (Int32 × tmM)) (x1 x3 s0 s1 : Int32) (v : tmM) : Option (Int32 × tmM) := tm_lt (s1 + s0) fun y1 => L x1 y1 (x3 + 1) v
set_option maxRecDepth 100000 in
set_option maxHeartbeats 4000000 in
theorem w_X8_rowsOf_28 {p : Program} {l : Launch} {e : Env} {s : State} {m : MethodId} {args : Array Value} {below : List Frame} {meth : Method} {c : Code} {D : va_G} {cy : Nat → ClassId} {ad : Nat → Nat} {A : Nat → Prop} {z : (Int32 × tmM)} {K0 : Int32 → tmM → Option (Int32 × tmM)} {L : Int32 → Int32 → Int32 → tmM → Option (Int32 × tmM)} (C0 : tmC p s m args meth c cX8_rowsOf 4 (some .int) RX8 TMW tm_NWR D cy tm_shR ad 13 [] A) (hK0 : ∀ (a2 : Int32) (w : tmM), tmG p l e ({ frames := 0, cells := 0, slots := 0, locals := 0 } : Room) s m args below meth c 0 0 (MQ below (va_Qi (fun r u => z = (r, u)) (tmAt tm_shR 13 D cy ad A) A) args s 0 0 A) 4 D cy tm_shR ad 13 [] A z 36 [(2, .int a2)] [] w (K0 a2 w)) (hL : ∀ (a1 a2 a3 : Int32) (w : tmM), tmG p l e ({ frames := 0, cells := 0, slots := 0, locals := 0 } : Room) s m args below meth c 0 0 (MQ below (va_Qi (fun r u => z = (r, u)) (tmAt tm_shR 13 D cy ad A) A) args s 0 0 A) 4 D cy tm_shR ad 13 [] A z 4 [(0, .ref (ad 0)), (1, .int a1), (2, .int a2), (3, .int a3)] [] w (L a1 a2 a3 w)) (x1 x3 s0 s1 : Int32) (v : tmM) : tmG p l e ({ frames := 0, cells := 0, slots := 0, locals := 0 } : Room) s m args below meth c 0 0 (MQ below (va_Qi (fun r u => z = (r, u)) (tmAt tm_shR 13 D cy ad A) A) args s 0 0 A) 4 D cy tm_shR ad 13 [] A z 28 [(0, .ref (ad 0)), (1, .int x1), (3, .int x3)] [.int s0, .int s1] v (f_X8_rowsOf_28 K0 L x1 x3 s0 s1 v) := by
  unfold f_X8_rowsOf_28
  refine tg_iadd C0 dX8_rowsOf_28 ?_
  refine tg_leti (fun y1 _ => ?_)
  refine tg_istore_n [(2, .int y1), (0, .ref (ad 0)), (1, .int x1), (3, .int x3)] C0 dX8_rowsOf_29 rfl (by decide) rfl ?_
  refine tg_iinc [(3, .int (x3 + 1)), (2, .int y1), (0, .ref (ad 0)), (1, .int x1)] 3 C0 dX8_rowsOf_30 rfl rfl (by decide) rfl ?_
  refine tg_goto 4 C0 dX8_rowsOf_33 (by decide) ?_
  refine tg_sub [2, 3, 1, 0] rfl ?_
  exact hL x1 y1 (x3 + 1) v
def f_X8_rowsOf_4b (K0 : Int32 → tmM → Option (Int32 × tmM)) (L : Int32 → Int32 → Int32 → tmM → Option (Int32 × tmM)) (x1 x2 x3 : Int32) (v : tmM) : Option (Int32 × tmM) := (if 60 ≤ x3 then K0 x2 v else tm_g (tm_ix (x1 + x3) 491) ((if (v 1 (x1 + x3).toNatClampNeg) = (-1) then f_X8_rowsOf_28 K0 L x1 x3 0 x2 v else f_X8_rowsOf_28 K0 L x1 x3 1 x2 v)))
set_option maxRecDepth 100000 in
set_option maxHeartbeats 4000000 in
theorem w_X8_rowsOf_4b {p : Program} {l : Launch} {e : Env} {s : State} {m : MethodId} {args : Array Value} {below : List Frame} {meth : Method} {c : Code} {D : va_G} {cy : Nat → ClassId} {ad : Nat → Nat} {A : Nat → Prop} {z : (Int32 × tmM)} {K0 : Int32 → tmM → Option (Int32 × tmM)} {L : Int32 → Int32 → Int32 → tmM → Option (Int32 × tmM)} (C0 : tmC p s m args meth c cX8_rowsOf 4 (some .int) RX8 TMW tm_NWR D cy tm_shR ad 13 [] A) (hK0 : ∀ (a2 : Int32) (w : tmM), tmG p l e ({ frames := 0, cells := 0, slots := 0, locals := 0 } : Room) s m args below meth c 0 0 (MQ below (va_Qi (fun r u => z = (r, u)) (tmAt tm_shR 13 D cy ad A) A) args s 0 0 A) 4 D cy tm_shR ad 13 [] A z 36 [(2, .int a2)] [] w (K0 a2 w)) (hL : ∀ (a1 a2 a3 : Int32) (w : tmM), tmG p l e ({ frames := 0, cells := 0, slots := 0, locals := 0 } : Room) s m args below meth c 0 0 (MQ below (va_Qi (fun r u => z = (r, u)) (tmAt tm_shR 13 D cy ad A) A) args s 0 0 A) 4 D cy tm_shR ad 13 [] A z 4 [(0, .ref (ad 0)), (1, .int a1), (2, .int a2), (3, .int a3)] [] w (L a1 a2 a3 w)) (x1 x2 x3 : Int32) (v : tmM) : tmG p l e ({ frames := 0, cells := 0, slots := 0, locals := 0 } : Room) s m args below meth c 0 0 (MQ below (va_Qi (fun r u => z = (r, u)) (tmAt tm_shR 13 D cy ad A) A) args s 0 0 A) 4 D cy tm_shR ad 13 [] A z 4 [(0, .ref (ad 0)), (1, .int x1), (2, .int x2), (3, .int x3)] [] v (f_X8_rowsOf_4b K0 L x1 x2 x3 v) := by
  unfold f_X8_rowsOf_4b
  refine tg_iload_n 3 C0 dX8_rowsOf_4 rfl rfl ?_
  refine tg_bipush (x := 60) C0 dX8_rowsOf_5 (by decide) ?_
  refine tg_icmp_ge 36 C0 dX8_rowsOf_7 (by decide) (fun _ => ?_) (fun _ => ?_)
  · refine tg_sub [2] rfl ?_
    exact hK0 x2 v
  · refine tg_iload_n 2 C0 dX8_rowsOf_10 rfl rfl ?_
    refine tg_aload_n 0 C0 dX8_rowsOf_11 rfl rfl ?_
    refine tg_get 0 1 C0 dX8_rowsOf_12 (by decide) rfl rfl tu_X8 (by decide) tf_X8_7 rfl rfl rfl ?_
    refine tg_iload_n 1 C0 dX8_rowsOf_15 rfl rfl ?_
    refine tg_iload_n 3 C0 dX8_rowsOf_16 rfl rfl ?_
    refine tg_iadd C0 dX8_rowsOf_17 ?_
    refine tg_iald 1 C0 dX8_rowsOf_18 (by decide) rfl (fun _ => ?_)
    refine tg_iconst (x := (-1)) C0 dX8_rowsOf_19 (by decide) ?_
    refine tg_icmp_ne 27 C0 dX8_rowsOf_20 (by decide) (fun _ => ?_) (fun _ => ?_)
    · refine tg_iconst (x := 1) C0 dX8_rowsOf_27 (by decide) ?_
      refine tg_sub [0, 1, 3] rfl ?_
      exact w_X8_rowsOf_28 C0 hK0 hL x1 x3 1 x2 v
    · refine tg_iconst (x := 0) C0 dX8_rowsOf_23 (by decide) ?_
      refine tg_goto 28 C0 dX8_rowsOf_24 (by decide) ?_
      refine tg_sub [0, 1, 3] rfl ?_
      exact w_X8_rowsOf_28 C0 hK0 hL x1 x3 0 x2 v
def f_X8_rowsOf_4 (K0 : Int32 → tmM → Option (Int32 × tmM)) : Nat → Int32 → Int32 → Int32 → tmM → Option (Int32 × tmM)
  | 0 => fun _ _ _ _ => none
  | n + 1 => f_X8_rowsOf_4b K0 (f_X8_rowsOf_4 K0 n)
theorem w_X8_rowsOf_4 {p : Program} {l : Launch} {e : Env} {s : State} {m : MethodId} {args : Array Value} {below : List Frame} {meth : Method} {c : Code} {D : va_G} {cy : Nat → ClassId} {ad : Nat → Nat} {A : Nat → Prop} {z : (Int32 × tmM)} {K0 : Int32 → tmM → Option (Int32 × tmM)} (C0 : tmC p s m args meth c cX8_rowsOf 4 (some .int) RX8 TMW tm_NWR D cy tm_shR ad 13 [] A) (hK0 : ∀ (a2 : Int32) (w : tmM), tmG p l e ({ frames := 0, cells := 0, slots := 0, locals := 0 } : Room) s m args below meth c 0 0 (MQ below (va_Qi (fun r u => z = (r, u)) (tmAt tm_shR 13 D cy ad A) A) args s 0 0 A) 4 D cy tm_shR ad 13 [] A z 36 [(2, .int a2)] [] w (K0 a2 w)) (nn : Nat) : ∀ (x1 x2 x3 : Int32) (v : tmM), tmG p l e ({ frames := 0, cells := 0, slots := 0, locals := 0 } : Room) s m args below meth c 0 0 (MQ below (va_Qi (fun r u => z = (r, u)) (tmAt tm_shR 13 D cy ad A) A) args s 0 0 A) 4 D cy tm_shR ad 13 [] A z 4 [(0, .ref (ad 0)), (1, .int x1), (2, .int x2), (3, .int x3)] [] v (f_X8_rowsOf_4 K0 nn x1 x2 x3 v) := by
  induction nn with
  | zero => intro _ _ _ _; exact tg_none
  | succ n ih => intro x1 x2 x3 v; exact w_X8_rowsOf_4b C0 hK0 ih x1 x2 x3 v
def f_X8_rowsOf (x1 : Int32) (v : tmM) : Option (Int32 × tmM) := f_X8_rowsOf_4 (fun x2 v3 => some (x2, v3)) 10000 x1 0 0 v
set_option maxRecDepth 100000 in
set_option maxHeartbeats 4000000 in
theorem w_X8_rowsOf {p : Program} {l : Launch} {e : Env} {s : State} {m : MethodId} {args : Array Value} {below : List Frame} {meth : Method} {c : Code} {D : va_G} {cy : Nat → ClassId} {ad : Nat → Nat} {A : Nat → Prop} {z : (Int32 × tmM)} (C0 : tmC p s m args meth c cX8_rowsOf 4 (some .int) RX8 TMW tm_NWR D cy tm_shR ad 13 [] A) (x1 : Int32) (v : tmM) : tmG p l e ({ frames := 0, cells := 0, slots := 0, locals := 0 } : Room) s m args below meth c 0 0 (MQ below (va_Qi (fun r u => z = (r, u)) (tmAt tm_shR 13 D cy ad A) A) args s 0 0 A) 4 D cy tm_shR ad 13 [] A z 0 [(0, .ref (ad 0)), (1, .int x1)] [] v (f_X8_rowsOf x1 v) := by
  unfold f_X8_rowsOf
  refine tg_iconst (x := 0) C0 dX8_rowsOf_0 (by decide) ?_
  refine tg_istore_n [(2, .int 0), (0, .ref (ad 0)), (1, .int x1)] C0 dX8_rowsOf_1 rfl (by decide) rfl ?_
  refine tg_iconst (x := 0) C0 dX8_rowsOf_2 (by decide) ?_
  refine tg_istore_n [(3, .int 0), (2, .int 0), (0, .ref (ad 0)), (1, .int x1)] C0 dX8_rowsOf_3 rfl (by decide) rfl ?_
  refine tg_sub [2, 3, 1, 0] rfl ?_
  refine w_X8_rowsOf_4 C0 (fun x2 v3 => ?_) 10000 x1 0 0 v
  refine tg_iload_n 0 C0 dX8_rowsOf_36 rfl rfl ?_
  exact tg_iret C0 dX8_rowsOf_37
theorem c_X8_rowsOf (l : Launch) (x1 : Int32) (v : tmM) : tmMi tm_NWR tm_shR 13 l yX8_rowsOf (Cond.code yX8_rowsOf cX8_rowsOf 4 (some .int) :: TMW) ({ frames := 0, cells := 0, slots := 0, locals := 0 } : Room) (fun ad => [.ref (ad 0), .int x1]) v (f_X8_rowsOf x1 v) :=
  tmMi.of (cc := cX8_rowsOf) (nL := 4) (by decide +kernel) rfl tm_NWR_ok (fun _ => Nat.le_of_ble_eq_true rfl) (fun p e s m args below meth c A D cy ad z C0 => w_X8_rowsOf C0 x1 v)
-- ----- X8_sumOf
theorem dX8_sumOf_0 : decode cX8_sumOf 0 = .ok (.iconst 0, 1) := by decide +kernel
theorem dX8_sumOf_1 : decode cX8_sumOf 1 = .ok (.istore_n 3, 1) := by decide +kernel
theorem dX8_sumOf_2 : decode cX8_sumOf 2 = .ok (.iconst 4, 1) := by decide +kernel
theorem dX8_sumOf_3 : decode cX8_sumOf 3 = .ok (.iload_n 2, 1) := by decide +kernel
theorem dX8_sumOf_4 : decode cX8_sumOf 4 = .ok (.imul, 1) := by decide +kernel
theorem dX8_sumOf_5 : decode cX8_sumOf 5 = .ok (.istore 4, 2) := by decide +kernel
theorem dX8_sumOf_7 : decode cX8_sumOf 7 = .ok (.iload 4, 2) := by decide +kernel
theorem dX8_sumOf_9 : decode cX8_sumOf 9 = .ok (.iconst 4, 1) := by decide +kernel
theorem dX8_sumOf_10 : decode cX8_sumOf 10 = .ok (.iload_n 2, 1) := by decide +kernel
theorem dX8_sumOf_11 : decode cX8_sumOf 11 = .ok (.imul, 1) := by decide +kernel
theorem dX8_sumOf_12 : decode cX8_sumOf 12 = .ok (.iconst 4, 1) := by decide +kernel
theorem dX8_sumOf_13 : decode cX8_sumOf 13 = .ok (.iadd, 1) := by decide +kernel
theorem dX8_sumOf_14 : decode cX8_sumOf 14 = .ok (.if_icmp .ge 53, 3) := by decide +kernel
theorem dX8_sumOf_17 : decode cX8_sumOf 17 = .ok (.aload_n 0, 1) := by decide +kernel
theorem dX8_sumOf_18 : decode cX8_sumOf 18 = .ok (.iload_n 1, 1) := by decide +kernel
theorem dX8_sumOf_19 : decode cX8_sumOf 19 = .ok (.iload 4, 2) := by decide +kernel
theorem dX8_sumOf_21 : decode cX8_sumOf 21 = .ok (.invokevirtual 74, 3) := by decide +kernel
theorem dX8_sumOf_24 : decode cX8_sumOf 24 = .ok (.istore 5, 2) := by decide +kernel
theorem dX8_sumOf_26 : decode cX8_sumOf 26 = .ok (.iload_n 3, 1) := by decide +kernel
theorem dX8_sumOf_27 : decode cX8_sumOf 27 = .ok (.iload 5, 2) := by decide +kernel
theorem dX8_sumOf_29 : decode cX8_sumOf 29 = .ok (.iconst (-1), 1) := by decide +kernel
theorem dX8_sumOf_30 : decode cX8_sumOf 30 = .ok (.if_icmp .ne 7, 3) := by decide +kernel
theorem dX8_sumOf_33 : decode cX8_sumOf 33 = .ok (.iconst 0, 1) := by decide +kernel
theorem dX8_sumOf_34 : decode cX8_sumOf 34 = .ok (.goto 25, 3) := by decide +kernel
theorem dX8_sumOf_37 : decode cX8_sumOf 37 = .ok (.iload 4, 2) := by decide +kernel
theorem dX8_sumOf_39 : decode cX8_sumOf 39 = .ok (.iconst 1, 1) := by decide +kernel
theorem dX8_sumOf_40 : decode cX8_sumOf 40 = .ok (.iadd, 1) := by decide +kernel
theorem dX8_sumOf_41 : decode cX8_sumOf 41 = .ok (.iload 5, 2) := by decide +kernel
theorem dX8_sumOf_43 : decode cX8_sumOf 43 = .ok (.bipush (-3), 2) := by decide +kernel
theorem dX8_sumOf_45 : decode cX8_sumOf 45 = .ok (.if_icmp .ne 9, 3) := by decide +kernel
theorem dX8_sumOf_48 : decode cX8_sumOf 48 = .ok (.sipush 1001, 3) := by decide +kernel
theorem dX8_sumOf_51 : decode cX8_sumOf 51 = .ok (.goto 7, 3) := by decide +kernel
theorem dX8_sumOf_54 : decode cX8_sumOf 54 = .ok (.iload 5, 2) := by decide +kernel
theorem dX8_sumOf_56 : decode cX8_sumOf 56 = .ok (.iconst 1, 1) := by decide +kernel
theorem dX8_sumOf_57 : decode cX8_sumOf 57 = .ok (.iadd, 1) := by decide +kernel
theorem dX8_sumOf_58 : decode cX8_sumOf 58 = .ok (.imul, 1) := by decide +kernel
theorem dX8_sumOf_59 : decode cX8_sumOf 59 = .ok (.iadd, 1) := by decide +kernel
theorem dX8_sumOf_60 : decode cX8_sumOf 60 = .ok (.istore_n 3, 1) := by decide +kernel
theorem dX8_sumOf_61 : decode cX8_sumOf 61 = .ok (.iinc 4 1, 3) := by decide +kernel
theorem dX8_sumOf_64 : decode cX8_sumOf 64 = .ok (.goto (-57), 3) := by decide +kernel
theorem dX8_sumOf_67 : decode cX8_sumOf 67 = .ok (.iload_n 3, 1) := by decide +kernel
theorem dX8_sumOf_68 : decode cX8_sumOf 68 = .ok (.ireturn, 1) := by decide +kernel
def f_X8_sumOf_59 (K0 : Int32 → tmM → Option (Int32 × tmM)) (L : Int32 → Int32 → Int32 → Int32 → tmM → Option (Int32 × tmM)) (x1 x2 x4 s0 s1 : Int32) (v : tmM) : Option (Int32 × tmM) := tm_lt (s1 + s0) fun y4 => L x1 x2 y4 (x4 + 1) v
set_option maxRecDepth 100000 in
set_option maxHeartbeats 4000000 in
theorem w_X8_sumOf_59 {p : Program} {l : Launch} {e : Env} {s : State} {m : MethodId} {args : Array Value} {below : List Frame} {meth : Method} {c : Code} {D : va_G} {cy : Nat → ClassId} {ad : Nat → Nat} {A : Nat → Prop} {z : (Int32 × tmM)} {K0 : Int32 → tmM → Option (Int32 × tmM)} {L : Int32 → Int32 → Int32 → Int32 → tmM → Option (Int32 × tmM)} (C0 : tmC p s m args meth c cX8_sumOf 6 (some .int) RX8 TMW tm_NWR D cy tm_shR ad 13 [] A) (hK0 : ∀ (a3 : Int32) (w : tmM), tmG p l e ({ frames := 3, cells := 0, slots := 0, locals := 67 } : Room) s m args below meth c 0 0 (MQ below (va_Qi (fun r u => z = (r, u)) (tmAt tm_shR 13 D cy ad A) A) args s 0 0 A) 6 D cy tm_shR ad 13 [] A z 67 [(3, .int a3)] [] w (K0 a3 w)) (hL : ∀ (a1 a2 a3 a4 : Int32) (w : tmM), tmG p l e ({ frames := 3, cells := 0, slots := 0, locals := 67 } : Room) s m args below meth c 0 0 (MQ below (va_Qi (fun r u => z = (r, u)) (tmAt tm_shR 13 D cy ad A) A) args s 0 0 A) 6 D cy tm_shR ad 13 [] A z 7 [(0, .ref (ad 0)), (1, .int a1), (2, .int a2), (3, .int a3), (4, .int a4)] [] w (L a1 a2 a3 a4 w)) (x1 x2 x4 s0 s1 : Int32) (v : tmM) : tmG p l e ({ frames := 3, cells := 0, slots := 0, locals := 67 } : Room) s m args below meth c 0 0 (MQ below (va_Qi (fun r u => z = (r, u)) (tmAt tm_shR 13 D cy ad A) A) args s 0 0 A) 6 D cy tm_shR ad 13 [] A z 59 [(0, .ref (ad 0)), (1, .int x1), (2, .int x2), (4, .int x4)] [.int s0, .int s1] v (f_X8_sumOf_59 K0 L x1 x2 x4 s0 s1 v) := by
  unfold f_X8_sumOf_59
  refine tg_iadd C0 dX8_sumOf_59 ?_
  refine tg_leti (fun y4 _ => ?_)
  refine tg_istore_n [(3, .int y4), (0, .ref (ad 0)), (1, .int x1), (2, .int x2), (4, .int x4)] C0 dX8_sumOf_60 rfl (by decide) rfl ?_
  refine tg_iinc [(4, .int (x4 + 1)), (3, .int y4), (0, .ref (ad 0)), (1, .int x1), (2, .int x2)] 4 C0 dX8_sumOf_61 rfl rfl (by decide) rfl ?_
  refine tg_goto 7 C0 dX8_sumOf_64 (by decide) ?_
  refine tg_sub [2, 3, 4, 1, 0] rfl ?_
  exact hL x1 x2 y4 (x4 + 1) v
def f_X8_sumOf_58 (K0 : Int32 → tmM → Option (Int32 × tmM)) (L : Int32 → Int32 → Int32 → Int32 → tmM → Option (Int32 × tmM)) (x1 x2 x4 s0 s1 s2 : Int32) (v : tmM) : Option (Int32 × tmM) := f_X8_sumOf_59 K0 L x1 x2 x4 (s1 * s0) s2 v
set_option maxRecDepth 100000 in
set_option maxHeartbeats 4000000 in
theorem w_X8_sumOf_58 {p : Program} {l : Launch} {e : Env} {s : State} {m : MethodId} {args : Array Value} {below : List Frame} {meth : Method} {c : Code} {D : va_G} {cy : Nat → ClassId} {ad : Nat → Nat} {A : Nat → Prop} {z : (Int32 × tmM)} {K0 : Int32 → tmM → Option (Int32 × tmM)} {L : Int32 → Int32 → Int32 → Int32 → tmM → Option (Int32 × tmM)} (C0 : tmC p s m args meth c cX8_sumOf 6 (some .int) RX8 TMW tm_NWR D cy tm_shR ad 13 [] A) (hK0 : ∀ (a3 : Int32) (w : tmM), tmG p l e ({ frames := 3, cells := 0, slots := 0, locals := 67 } : Room) s m args below meth c 0 0 (MQ below (va_Qi (fun r u => z = (r, u)) (tmAt tm_shR 13 D cy ad A) A) args s 0 0 A) 6 D cy tm_shR ad 13 [] A z 67 [(3, .int a3)] [] w (K0 a3 w)) (hL : ∀ (a1 a2 a3 a4 : Int32) (w : tmM), tmG p l e ({ frames := 3, cells := 0, slots := 0, locals := 67 } : Room) s m args below meth c 0 0 (MQ below (va_Qi (fun r u => z = (r, u)) (tmAt tm_shR 13 D cy ad A) A) args s 0 0 A) 6 D cy tm_shR ad 13 [] A z 7 [(0, .ref (ad 0)), (1, .int a1), (2, .int a2), (3, .int a3), (4, .int a4)] [] w (L a1 a2 a3 a4 w)) (x1 x2 x4 s0 s1 s2 : Int32) (v : tmM) : tmG p l e ({ frames := 3, cells := 0, slots := 0, locals := 67 } : Room) s m args below meth c 0 0 (MQ below (va_Qi (fun r u => z = (r, u)) (tmAt tm_shR 13 D cy ad A) A) args s 0 0 A) 6 D cy tm_shR ad 13 [] A z 58 [(0, .ref (ad 0)), (1, .int x1), (2, .int x2), (4, .int x4)] [.int s0, .int s1, .int s2] v (f_X8_sumOf_58 K0 L x1 x2 x4 s0 s1 s2 v) := by
  unfold f_X8_sumOf_58
  refine tg_imul C0 dX8_sumOf_58 ?_
  exact w_X8_sumOf_59 C0 hK0 hL x1 x2 x4 (s1 * s0) s2 v
def f_X8_sumOf_7b (K0 : Int32 → tmM → Option (Int32 × tmM)) (L : Int32 → Int32 → Int32 → Int32 → tmM → Option (Int32 × tmM)) (x1 x2 x3 x4 : Int32) (v : tmM) : Option (Int32 × tmM) := (if ((4 * x2) + 4) ≤ x4 then K0 x3 v else tm_cl (f_X8_valueIn x1 x4 v) fun r3 v2 => (if r3 = (-1) then f_X8_sumOf_59 K0 L x1 x2 x4 0 x3 v2 else (if r3 = (-3) then f_X8_sumOf_58 K0 L x1 x2 x4 1001 (x4 + 1) x3 v2 else f_X8_sumOf_58 K0 L x1 x2 x4 (r3 + 1) (x4 + 1) x3 v2)))
set_option maxRecDepth 100000 in
set_option maxHeartbeats 4000000 in
theorem w_X8_sumOf_7b {p : Program} {l : Launch} {e : Env} {s : State} {m : MethodId} {args : Array Value} {below : List Frame} {meth : Method} {c : Code} {D : va_G} {cy : Nat → ClassId} {ad : Nat → Nat} {A : Nat → Prop} {z : (Int32 × tmM)} {K0 : Int32 → tmM → Option (Int32 × tmM)} {L : Int32 → Int32 → Int32 → Int32 → tmM → Option (Int32 × tmM)} (C0 : tmC p s m args meth c cX8_sumOf 6 (some .int) RX8 TMW tm_NWR D cy tm_shR ad 13 [] A) (hK0 : ∀ (a3 : Int32) (w : tmM), tmG p l e ({ frames := 3, cells := 0, slots := 0, locals := 67 } : Room) s m args below meth c 0 0 (MQ below (va_Qi (fun r u => z = (r, u)) (tmAt tm_shR 13 D cy ad A) A) args s 0 0 A) 6 D cy tm_shR ad 13 [] A z 67 [(3, .int a3)] [] w (K0 a3 w)) (hL : ∀ (a1 a2 a3 a4 : Int32) (w : tmM), tmG p l e ({ frames := 3, cells := 0, slots := 0, locals := 67 } : Room) s m args below meth c 0 0 (MQ below (va_Qi (fun r u => z = (r, u)) (tmAt tm_shR 13 D cy ad A) A) args s 0 0 A) 6 D cy tm_shR ad 13 [] A z 7 [(0, .ref (ad 0)), (1, .int a1), (2, .int a2), (3, .int a3), (4, .int a4)] [] w (L a1 a2 a3 a4 w)) (x1 x2 x3 x4 : Int32) (v : tmM) : tmG p l e ({ frames := 3, cells := 0, slots := 0, locals := 67 } : Room) s m args below meth c 0 0 (MQ below (va_Qi (fun r u => z = (r, u)) (tmAt tm_shR 13 D cy ad A) A) args s 0 0 A) 6 D cy tm_shR ad 13 [] A z 7 [(0, .ref (ad 0)), (1, .int x1), (2, .int x2), (3, .int x3), (4, .int x4)] [] v (f_X8_sumOf_7b K0 L x1 x2 x3 x4 v) := by
  unfold f_X8_sumOf_7b
  refine tg_iload 4 C0 dX8_sumOf_7 rfl ?_
  refine tg_iconst (x := 4) C0 dX8_sumOf_9 (by decide) ?_
  refine tg_iload_n 2 C0 dX8_sumOf_10 rfl rfl ?_
  refine tg_imul C0 dX8_sumOf_11 ?_
  refine tg_iconst (x := 4) C0 dX8_sumOf_12 (by decide) ?_
  refine tg_iadd C0 dX8_sumOf_13 ?_
  refine tg_icmp_ge 67 C0 dX8_sumOf_14 (by decide) (fun _ => ?_) (fun _ => ?_)
  · refine tg_sub [3] rfl ?_
    exact hK0 x3 v
  · refine tg_aload_n 0 C0 dX8_sumOf_17 rfl rfl ?_
    refine tg_iload_n 1 C0 dX8_sumOf_18 rfl rfl ?_
    refine tg_iload 4 C0 dX8_sumOf_19 rfl ?_
    refine tg_callVi (As := [.int x1, .int x4]) 0 2 C0 dX8_sumOf_21 (c_X8_valueIn l x1 x4 v) rfl rfl (by decide) rfl rfl (tm_gV tl_X8_74 ti_X8_valueIn ts_X8_valueIn tn_X8 tc_X8_valueIn)  rfl rfl rfl rfl (by decide +kernel) ⟨by decide, by decide⟩ (Nat.le_of_ble_eq_true rfl) ⟨by decide, by decide⟩ (fun r3 v2 _ => ?_)
    refine tg_istore [(5, .int r3), (0, .ref (ad 0)), (1, .int x1), (2, .int x2), (3, .int x3), (4, .int x4)] C0 dX8_sumOf_24 (by decide) rfl ?_
    refine tg_iload_n 4 C0 dX8_sumOf_26 rfl rfl ?_
    refine tg_iload 0 C0 dX8_sumOf_27 rfl ?_
    refine tg_iconst (x := (-1)) C0 dX8_sumOf_29 (by decide) ?_
    refine tg_icmp_ne 37 C0 dX8_sumOf_30 (by decide) (fun _ => ?_) (fun _ => ?_)
    · refine tg_iload 5 C0 dX8_sumOf_37 rfl ?_
      refine tg_iconst (x := 1) C0 dX8_sumOf_39 (by decide) ?_
      refine tg_iadd C0 dX8_sumOf_40 ?_
      refine tg_iload 0 C0 dX8_sumOf_41 rfl ?_
      refine tg_bipush (x := (-3)) C0 dX8_sumOf_43 (by decide) ?_
      refine tg_icmp_ne 54 C0 dX8_sumOf_45 (by decide) (fun _ => ?_) (fun _ => ?_)
      · refine tg_iload 0 C0 dX8_sumOf_54 rfl ?_
        refine tg_iconst (x := 1) C0 dX8_sumOf_56 (by decide) ?_
        refine tg_iadd C0 dX8_sumOf_57 ?_
        refine tg_sub [1, 2, 3, 5] rfl ?_
        exact w_X8_sumOf_58 C0 hK0 hL x1 x2 x4 (r3 + 1) (x4 + 1) x3 v2
      · refine tg_sipush (x := 1001) C0 dX8_sumOf_48 (by decide) ?_
        refine tg_goto 58 C0 dX8_sumOf_51 (by decide) ?_
        refine tg_sub [1, 2, 3, 5] rfl ?_
        exact w_X8_sumOf_58 C0 hK0 hL x1 x2 x4 1001 (x4 + 1) x3 v2
    · refine tg_iconst (x := 0) C0 dX8_sumOf_33 (by decide) ?_
      refine tg_goto 59 C0 dX8_sumOf_34 (by decide) ?_
      refine tg_sub [1, 2, 3, 5] rfl ?_
      exact w_X8_sumOf_59 C0 hK0 hL x1 x2 x4 0 x3 v2
def f_X8_sumOf_7 (K0 : Int32 → tmM → Option (Int32 × tmM)) : Nat → Int32 → Int32 → Int32 → Int32 → tmM → Option (Int32 × tmM)
  | 0 => fun _ _ _ _ _ => none
  | n + 1 => f_X8_sumOf_7b K0 (f_X8_sumOf_7 K0 n)
theorem w_X8_sumOf_7 {p : Program} {l : Launch} {e : Env} {s : State} {m : MethodId} {args : Array Value} {below : List Frame} {meth : Method} {c : Code} {D : va_G} {cy : Nat → ClassId} {ad : Nat → Nat} {A : Nat → Prop} {z : (Int32 × tmM)} {K0 : Int32 → tmM → Option (Int32 × tmM)} (C0 : tmC p s m args meth c cX8_sumOf 6 (some .int) RX8 TMW tm_NWR D cy tm_shR ad 13 [] A) (hK0 : ∀ (a3 : Int32) (w : tmM), tmG p l e ({ frames := 3, cells := 0, slots := 0, locals := 67 } : Room) s m args below meth c 0 0 (MQ below (va_Qi (fun r u => z = (r, u)) (tmAt tm_shR 13 D cy ad A) A) args s 0 0 A) 6 D cy tm_shR ad 13 [] A z 67 [(3, .int a3)] [] w (K0 a3 w)) (nn : Nat) : ∀ (x1 x2 x3 x4 : Int32) (v : tmM), tmG p l e ({ frames := 3, cells := 0, slots := 0, locals := 67 } : Room) s m args below meth c 0 0 (MQ below (va_Qi (fun r u => z = (r, u)) (tmAt tm_shR 13 D cy ad A) A) args s 0 0 A) 6 D cy tm_shR ad 13 [] A z 7 [(0, .ref (ad 0)), (1, .int x1), (2, .int x2), (3, .int x3), (4, .int x4)] [] v (f_X8_sumOf_7 K0 nn x1 x2 x3 x4 v) := by
  induction nn with
  | zero => intro _ _ _ _ _; exact tg_none
  | succ n ih => intro x1 x2 x3 x4 v; exact w_X8_sumOf_7b C0 hK0 ih x1 x2 x3 x4 v
def f_X8_sumOf (x1 x2 : Int32) (v : tmM) : Option (Int32 × tmM) := tm_lt (4 * x2) fun y1 => f_X8_sumOf_7 (fun x5 v6 => some (x5, v6)) 10000 x1 x2 0 y1 v
set_option maxRecDepth 100000 in
set_option maxHeartbeats 4000000 in
theorem w_X8_sumOf {p : Program} {l : Launch} {e : Env} {s : State} {m : MethodId} {args : Array Value} {below : List Frame} {meth : Method} {c : Code} {D : va_G} {cy : Nat → ClassId} {ad : Nat → Nat} {A : Nat → Prop} {z : (Int32 × tmM)} (C0 : tmC p s m args meth c cX8_sumOf 6 (some .int) RX8 TMW tm_NWR D cy tm_shR ad 13 [] A) (x1 x2 : Int32) (v : tmM) : tmG p l e ({ frames := 3, cells := 0, slots := 0, locals := 67 } : Room) s m args below meth c 0 0 (MQ below (va_Qi (fun r u => z = (r, u)) (tmAt tm_shR 13 D cy ad A) A) args s 0 0 A) 6 D cy tm_shR ad 13 [] A z 0 [(0, .ref (ad 0)), (1, .int x1), (2, .int x2)] [] v (f_X8_sumOf x1 x2 v) := by
  unfold f_X8_sumOf
  refine tg_iconst (x := 0) C0 dX8_sumOf_0 (by decide) ?_
  refine tg_istore_n [(3, .int 0), (0, .ref (ad 0)), (1, .int x1), (2, .int x2)] C0 dX8_sumOf_1 rfl (by decide) rfl ?_
  refine tg_iconst (x := 4) C0 dX8_sumOf_2 (by decide) ?_
  refine tg_iload_n 3 C0 dX8_sumOf_3 rfl rfl ?_
  refine tg_imul C0 dX8_sumOf_4 ?_
  refine tg_leti (fun y1 _ => ?_)
  refine tg_istore [(4, .int y1), (3, .int 0), (0, .ref (ad 0)), (1, .int x1), (2, .int x2)] C0 dX8_sumOf_5 (by decide) rfl ?_
  refine tg_sub [2, 3, 4, 1, 0] rfl ?_
  refine w_X8_sumOf_7 C0 (fun x5 v6 => ?_) 10000 x1 x2 0 y1 v
  refine tg_iload_n 0 C0 dX8_sumOf_67 rfl rfl ?_
  exact tg_iret C0 dX8_sumOf_68
theorem c_X8_sumOf (l : Launch) (x1 x2 : Int32) (v : tmM) : tmMi tm_NWR tm_shR 13 l yX8_sumOf (Cond.code yX8_sumOf cX8_sumOf 6 (some .int) :: TMW) ({ frames := 3, cells := 0, slots := 0, locals := 67 } : Room) (fun ad => [.ref (ad 0), .int x1, .int x2]) v (f_X8_sumOf x1 x2 v) :=
  tmMi.of (cc := cX8_sumOf) (nL := 6) (by decide +kernel) rfl tm_NWR_ok (fun _ => Nat.le_of_ble_eq_true rfl) (fun p e s m args below meth c A D cy ad z C0 => w_X8_sumOf C0 x1 x2 v)
-- ----- X8_firstUnlike
theorem dX8_firstUnlike_0 : decode cX8_firstUnlike 0 = .ok (.iconst 4, 1) := by decide +kernel
theorem dX8_firstUnlike_1 : decode cX8_firstUnlike 1 = .ok (.iload_n 1, 1) := by decide +kernel
theorem dX8_firstUnlike_2 : decode cX8_firstUnlike 2 = .ok (.imul, 1) := by decide +kernel
theorem dX8_firstUnlike_3 : decode cX8_firstUnlike 3 = .ok (.istore_n 2, 1) := by decide +kernel
theorem dX8_firstUnlike_4 : decode cX8_firstUnlike 4 = .ok (.iload_n 2, 1) := by decide +kernel
theorem dX8_firstUnlike_5 : decode cX8_firstUnlike 5 = .ok (.iconst 4, 1) := by decide +kernel
theorem dX8_firstUnlike_6 : decode cX8_firstUnlike 6 = .ok (.iload_n 1, 1) := by decide +kernel
theorem dX8_firstUnlike_7 : decode cX8_firstUnlike 7 = .ok (.imul, 1) := by decide +kernel
theorem dX8_firstUnlike_8 : decode cX8_firstUnlike 8 = .ok (.iconst 4, 1) := by decide +kernel
theorem dX8_firstUnlike_9 : decode cX8_firstUnlike 9 = .ok (.iadd, 1) := by decide +kernel
theorem dX8_firstUnlike_10 : decode cX8_firstUnlike 10 = .ok (.if_icmp .ge 19, 3) := by decide +kernel
theorem dX8_firstUnlike_13 : decode cX8_firstUnlike 13 = .ok (.aload_n 0, 1) := by decide +kernel
theorem dX8_firstUnlike_14 : decode cX8_firstUnlike 14 = .ok (.iload_n 2, 1) := by decide +kernel
theorem dX8_firstUnlike_15 : decode cX8_firstUnlike 15 = .ok (.invokevirtual 78, 3) := by decide +kernel
theorem dX8_firstUnlike_18 : decode cX8_firstUnlike 18 = .ok (.ifCond .eq 5, 3) := by decide +kernel
theorem dX8_firstUnlike_21 : decode cX8_firstUnlike 21 = .ok (.iload_n 2, 1) := by decide +kernel
theorem dX8_firstUnlike_22 : decode cX8_firstUnlike 22 = .ok (.ireturn, 1) := by decide +kernel
theorem dX8_firstUnlike_23 : decode cX8_firstUnlike 23 = .ok (.iinc 2 1, 3) := by decide +kernel
theorem dX8_firstUnlike_26 : decode cX8_firstUnlike 26 = .ok (.goto (-22), 3) := by decide +kernel
theorem dX8_firstUnlike_29 : decode cX8_firstUnlike 29 = .ok (.iconst (-1), 1) := by decide +kernel
theorem dX8_firstUnlike_30 : decode cX8_firstUnlike 30 = .ok (.ireturn, 1) := by decide +kernel
theorem tl_X8_78 : Cond.methodLink RX8 78 yX8_differs ∈ TMW := tm_in 1741 (by decide +kernel) (by decide +kernel)
theorem ti_X8_differs : Cond.instanceMethod yX8_differs ∈ TMW := tm_in 1743 (by decide +kernel) (by decide +kernel)
theorem ts_X8_differs : Cond.selects RX8 yX8_differs yX8_differs ∈ TMW := tm_in 52 (by decide +kernel) (by decide +kernel)
theorem tc_X8_differs : Cond.code yX8_differs cX8_differs 2 (some .boolean) ∈ TMW := tm_in 1744 (by decide +kernel) (by decide +kernel)
def f_X8_firstUnlike_4b (K0 : tmM → Option (Int32 × tmM)) (L : Int32 → Int32 → tmM → Option (Int32 × tmM)) (x1 x2 : Int32) (v : tmM) : Option (Int32 × tmM) := (if ((4 * x1) + 4) ≤ x2 then K0 v else tm_cl (f_X8_differs x2 v) fun r3 v2 => (if r3 = 0 then L x1 (x2 + 1) v2 else some (x2, v2)))
set_option maxRecDepth 100000 in
set_option maxHeartbeats 4000000 in
theorem w_X8_firstUnlike_4b {p : Program} {l : Launch} {e : Env} {s : State} {m : MethodId} {args : Array Value} {below : List Frame} {meth : Method} {c : Code} {D : va_G} {cy : Nat → ClassId} {ad : Nat → Nat} {A : Nat → Prop} {z : (Int32 × tmM)} {K0 : tmM → Option (Int32 × tmM)} {L : Int32 → Int32 → tmM → Option (Int32 × tmM)} (C0 : tmC p s m args meth c cX8_firstUnlike 3 (some .int) RX8 TMW tm_NWR D cy tm_shR ad 13 [] A) (hK0 : ∀ (w : tmM), tmG p l e ({ frames := 4, cells := 0, slots := 0, locals := 88 } : Room) s m args below meth c 0 0 (MQ below (va_Qi (fun r u => z = (r, u)) (tmAt tm_shR 13 D cy ad A) A) args s 0 0 A) 3 D cy tm_shR ad 13 [] A z 29 [] [] w (K0 w)) (hL : ∀ (a1 a2 : Int32) (w : tmM), tmG p l e ({ frames := 4, cells := 0, slots := 0, locals := 88 } : Room) s m args below meth c 0 0 (MQ below (va_Qi (fun r u => z = (r, u)) (tmAt tm_shR 13 D cy ad A) A) args s 0 0 A) 3 D cy tm_shR ad 13 [] A z 4 [(0, .ref (ad 0)), (1, .int a1), (2, .int a2)] [] w (L a1 a2 w)) (x1 x2 : Int32) (v : tmM) : tmG p l e ({ frames := 4, cells := 0, slots := 0, locals := 88 } : Room) s m args below meth c 0 0 (MQ below (va_Qi (fun r u => z = (r, u)) (tmAt tm_shR 13 D cy ad A) A) args s 0 0 A) 3 D cy tm_shR ad 13 [] A z 4 [(0, .ref (ad 0)), (1, .int x1), (2, .int x2)] [] v (f_X8_firstUnlike_4b K0 L x1 x2 v) := by
  unfold f_X8_firstUnlike_4b
  refine tg_iload_n 2 C0 dX8_firstUnlike_4 rfl rfl ?_
  refine tg_iconst (x := 4) C0 dX8_firstUnlike_5 (by decide) ?_
  refine tg_iload_n 1 C0 dX8_firstUnlike_6 rfl rfl ?_
  refine tg_imul C0 dX8_firstUnlike_7 ?_
  refine tg_iconst (x := 4) C0 dX8_firstUnlike_8 (by decide) ?_
  refine tg_iadd C0 dX8_firstUnlike_9 ?_
  refine tg_icmp_ge 29 C0 dX8_firstUnlike_10 (by decide) (fun _ => ?_) (fun _ => ?_)
  · refine tg_sub [] rfl ?_
    exact hK0 v
  · refine tg_aload_n 0 C0 dX8_firstUnlike_13 rfl rfl ?_
    refine tg_iload_n 2 C0 dX8_firstUnlike_14 rfl rfl ?_
    refine tg_callVi (As := [.int x2]) 0 1 C0 dX8_firstUnlike_15 (c_X8_differs l x2 v) rfl rfl (by decide) rfl rfl (tm_gV tl_X8_78 ti_X8_differs ts_X8_differs tn_X8 tc_X8_differs)  rfl rfl rfl rfl (by decide +kernel) ⟨by decide, by decide⟩ (Nat.le_of_ble_eq_true rfl) ⟨by decide, by decide⟩ (fun r3 v2 _ => ?_)
    refine tg_if_eq 23 C0 dX8_firstUnlike_18 (by decide) (fun _ => ?_) (fun _ => ?_)
    · refine tg_iinc [(2, .int (x2 + 1)), (0, .ref (ad 0)), (1, .int x1)] 2 C0 dX8_firstUnlike_23 rfl rfl (by decide) rfl ?_
      refine tg_goto 4 C0 dX8_firstUnlike_26 (by decide) ?_
      refine tg_sub [1, 2, 0] rfl ?_
      exact hL x1 (x2 + 1) v2
    · refine tg_iload_n 2 C0 dX8_firstUnlike_21 rfl rfl ?_
      exact tg_iret C0 dX8_firstUnlike_22
def f_X8_firstUnlike_4 (K0 : tmM → Option (Int32 × tmM)) : Nat → Int32 → Int32 → tmM → Option (Int32 × tmM)
  | 0 => fun _ _ _ => none
  | n + 1 => f_X8_firstUnlike_4b K0 (f_X8_firstUnlike_4 K0 n)
theorem w_X8_firstUnlike_4 {p : Program} {l : Launch} {e : Env} {s : State} {m : MethodId} {args : Array Value} {below : List Frame} {meth : Method} {c : Code} {D : va_G} {cy : Nat → ClassId} {ad : Nat → Nat} {A : Nat → Prop} {z : (Int32 × tmM)} {K0 : tmM → Option (Int32 × tmM)} (C0 : tmC p s m args meth c cX8_firstUnlike 3 (some .int) RX8 TMW tm_NWR D cy tm_shR ad 13 [] A) (hK0 : ∀ (w : tmM), tmG p l e ({ frames := 4, cells := 0, slots := 0, locals := 88 } : Room) s m args below meth c 0 0 (MQ below (va_Qi (fun r u => z = (r, u)) (tmAt tm_shR 13 D cy ad A) A) args s 0 0 A) 3 D cy tm_shR ad 13 [] A z 29 [] [] w (K0 w)) (nn : Nat) : ∀ (x1 x2 : Int32) (v : tmM), tmG p l e ({ frames := 4, cells := 0, slots := 0, locals := 88 } : Room) s m args below meth c 0 0 (MQ below (va_Qi (fun r u => z = (r, u)) (tmAt tm_shR 13 D cy ad A) A) args s 0 0 A) 3 D cy tm_shR ad 13 [] A z 4 [(0, .ref (ad 0)), (1, .int x1), (2, .int x2)] [] v (f_X8_firstUnlike_4 K0 nn x1 x2 v) := by
  induction nn with
  | zero => intro _ _ _; exact tg_none
  | succ n ih => intro x1 x2 v; exact w_X8_firstUnlike_4b C0 hK0 ih x1 x2 v
def f_X8_firstUnlike (x1 : Int32) (v : tmM) : Option (Int32 × tmM) := tm_lt (4 * x1) fun y1 => f_X8_firstUnlike_4 (fun v4 => some ((-1), v4)) 10000 x1 y1 v
set_option maxRecDepth 100000 in
set_option maxHeartbeats 4000000 in
theorem w_X8_firstUnlike {p : Program} {l : Launch} {e : Env} {s : State} {m : MethodId} {args : Array Value} {below : List Frame} {meth : Method} {c : Code} {D : va_G} {cy : Nat → ClassId} {ad : Nat → Nat} {A : Nat → Prop} {z : (Int32 × tmM)} (C0 : tmC p s m args meth c cX8_firstUnlike 3 (some .int) RX8 TMW tm_NWR D cy tm_shR ad 13 [] A) (x1 : Int32) (v : tmM) : tmG p l e ({ frames := 4, cells := 0, slots := 0, locals := 88 } : Room) s m args below meth c 0 0 (MQ below (va_Qi (fun r u => z = (r, u)) (tmAt tm_shR 13 D cy ad A) A) args s 0 0 A) 3 D cy tm_shR ad 13 [] A z 0 [(0, .ref (ad 0)), (1, .int x1)] [] v (f_X8_firstUnlike x1 v) := by
  unfold f_X8_firstUnlike
  refine tg_iconst (x := 4) C0 dX8_firstUnlike_0 (by decide) ?_
  refine tg_iload_n 1 C0 dX8_firstUnlike_1 rfl rfl ?_
  refine tg_imul C0 dX8_firstUnlike_2 ?_
  refine tg_leti (fun y1 _ => ?_)
  refine tg_istore_n [(2, .int y1), (0, .ref (ad 0)), (1, .int x1)] C0 dX8_firstUnlike_3 rfl (by decide) rfl ?_
  refine tg_sub [1, 2, 0] rfl ?_
  refine w_X8_firstUnlike_4 C0 (fun v4 => ?_) 10000 x1 y1 v
  refine tg_iconst (x := (-1)) C0 dX8_firstUnlike_29 (by decide) ?_
  exact tg_iret C0 dX8_firstUnlike_30
theorem c_X8_firstUnlike (l : Launch) (x1 : Int32) (v : tmM) : tmMi tm_NWR tm_shR 13 l yX8_firstUnlike (Cond.code yX8_firstUnlike cX8_firstUnlike 3 (some .int) :: TMW) ({ frames := 4, cells := 0, slots := 0, locals := 88 } : Room) (fun ad => [.ref (ad 0), .int x1]) v (f_X8_firstUnlike x1 v) :=
  tmMi.of (cc := cX8_firstUnlike) (nL := 3) (by decide +kernel) rfl tm_NWR_ok (fun _ => Nat.le_of_ble_eq_true rfl) (fun p e s m args below meth c A D cy ad z C0 => w_X8_firstUnlike C0 x1 v)
-- ----- X8_notes
theorem dX8_notes_0 : decode cX8_notes 0 = .ok (.aload_n 0, 1) := by decide +kernel
theorem dX8_notes_1 : decode cX8_notes 1 = .ok (.getfield 7, 3) := by decide +kernel
theorem dX8_notes_4 : decode cX8_notes 4 = .ok (.bipush 10, 2) := by decide +kernel
theorem dX8_notes_6 : decode cX8_notes 6 = .ok (.iaload, 1) := by decide +kernel
theorem dX8_notes_7 : decode cX8_notes 7 = .ok (.bipush 30, 2) := by decide +kernel
theorem dX8_notes_9 : decode cX8_notes 9 = .ok (.if_icmp .ne 45, 3) := by decide +kernel
theorem dX8_notes_12 : decode cX8_notes 12 = .ok (.sipush 371, 3) := by decide +kernel
theorem dX8_notes_15 : decode cX8_notes 15 = .ok (.istore_n 3, 1) := by decide +kernel
theorem dX8_notes_16 : decode cX8_notes 16 = .ok (.iload_n 3, 1) := by decide +kernel
theorem dX8_notes_17 : decode cX8_notes 17 = .ok (.sipush 429, 3) := by decide +kernel
theorem dX8_notes_20 : decode cX8_notes 20 = .ok (.if_icmp .ge 23, 3) := by decide +kernel
theorem dX8_notes_23 : decode cX8_notes 23 = .ok (.aload_n 0, 1) := by decide +kernel
theorem dX8_notes_24 : decode cX8_notes 24 = .ok (.getfield 7, 3) := by decide +kernel
theorem dX8_notes_27 : decode cX8_notes 27 = .ok (.iload_n 3, 1) := by decide +kernel
theorem dX8_notes_28 : decode cX8_notes 28 = .ok (.aload_n 0, 1) := by decide +kernel
theorem dX8_notes_29 : decode cX8_notes 29 = .ok (.getfield 7, 3) := by decide +kernel
theorem dX8_notes_32 : decode cX8_notes 32 = .ok (.iload_n 3, 1) := by decide +kernel
theorem dX8_notes_33 : decode cX8_notes 33 = .ok (.iconst 2, 1) := by decide +kernel
theorem dX8_notes_34 : decode cX8_notes 34 = .ok (.iadd, 1) := by decide +kernel
theorem dX8_notes_35 : decode cX8_notes 35 = .ok (.iaload, 1) := by decide +kernel
theorem dX8_notes_36 : decode cX8_notes 36 = .ok (.iastore, 1) := by decide +kernel
theorem dX8_notes_37 : decode cX8_notes 37 = .ok (.iinc 3 1, 3) := by decide +kernel
theorem dX8_notes_40 : decode cX8_notes 40 = .ok (.goto (-24), 3) := by decide +kernel
theorem dX8_notes_43 : decode cX8_notes 43 = .ok (.aload_n 0, 1) := by decide +kernel
theorem dX8_notes_44 : decode cX8_notes 44 = .ok (.getfield 7, 3) := by decide +kernel
theorem dX8_notes_47 : decode cX8_notes 47 = .ok (.bipush 10, 2) := by decide +kernel
theorem dX8_notes_49 : decode cX8_notes 49 = .ok (.dup2, 1) := by decide +kernel
theorem dX8_notes_50 : decode cX8_notes 50 = .ok (.iaload, 1) := by decide +kernel
theorem dX8_notes_51 : decode cX8_notes 51 = .ok (.iconst 1, 1) := by decide +kernel
theorem dX8_notes_52 : decode cX8_notes 52 = .ok (.isub, 1) := by decide +kernel
theorem dX8_notes_53 : decode cX8_notes 53 = .ok (.iastore, 1) := by decide +kernel
theorem dX8_notes_54 : decode cX8_notes 54 = .ok (.sipush 371, 3) := by decide +kernel
theorem dX8_notes_57 : decode cX8_notes 57 = .ok (.iconst 2, 1) := by decide +kernel
theorem dX8_notes_58 : decode cX8_notes 58 = .ok (.aload_n 0, 1) := by decide +kernel
theorem dX8_notes_59 : decode cX8_notes 59 = .ok (.getfield 7, 3) := by decide +kernel
theorem dX8_notes_62 : decode cX8_notes 62 = .ok (.bipush 10, 2) := by decide +kernel
theorem dX8_notes_64 : decode cX8_notes 64 = .ok (.iaload, 1) := by decide +kernel
theorem dX8_notes_65 : decode cX8_notes 65 = .ok (.imul, 1) := by decide +kernel
theorem dX8_notes_66 : decode cX8_notes 66 = .ok (.iadd, 1) := by decide +kernel
theorem dX8_notes_67 : decode cX8_notes 67 = .ok (.istore_n 3, 1) := by decide +kernel
theorem dX8_notes_68 : decode cX8_notes 68 = .ok (.aload_n 0, 1) := by decide +kernel
theorem dX8_notes_69 : decode cX8_notes 69 = .ok (.getfield 7, 3) := by decide +kernel
theorem dX8_notes_72 : decode cX8_notes 72 = .ok (.iload_n 3, 1) := by decide +kernel
theorem dX8_notes_73 : decode cX8_notes 73 = .ok (.iload_n 1, 1) := by decide +kernel
theorem dX8_notes_74 : decode cX8_notes 74 = .ok (.iastore, 1) := by decide +kernel
theorem dX8_notes_75 : decode cX8_notes 75 = .ok (.aload_n 0, 1) := by decide +kernel
theorem dX8_notes_76 : decode cX8_notes 76 = .ok (.getfield 7, 3) := by decide +kernel
theorem dX8_notes_79 : decode cX8_notes 79 = .ok (.iload_n 3, 1) := by decide +kernel
theorem dX8_notes_80 : decode cX8_notes 80 = .ok (.iconst 1, 1) := by decide +kernel
theorem dX8_notes_81 : decode cX8_notes 81 = .ok (.iadd, 1) := by decide +kernel
theorem dX8_notes_82 : decode cX8_notes 82 = .ok (.iload_n 2, 1) := by decide +kernel
theorem dX8_notes_83 : decode cX8_notes 83 = .ok (.iastore, 1) := by decide +kernel
theorem dX8_notes_84 : decode cX8_notes 84 = .ok (.aload_n 0, 1) := by decide +kernel
theorem dX8_notes_85 : decode cX8_notes 85 = .ok (.getfield 7, 3) := by decide +kernel
theorem dX8_notes_88 : decode cX8_notes 88 = .ok (.bipush 10, 2) := by decide +kernel
theorem dX8_notes_90 : decode cX8_notes 90 = .ok (.dup2, 1) := by decide +kernel
theorem dX8_notes_91 : decode cX8_notes 91 = .ok (.iaload, 1) := by decide +kernel
theorem dX8_notes_92 : decode cX8_notes 92 = .ok (.iconst 1, 1) := by decide +kernel
theorem dX8_notes_93 : decode cX8_notes 93 = .ok (.iadd, 1) := by decide +kernel
theorem dX8_notes_94 : decode cX8_notes 94 = .ok (.iastore, 1) := by decide +kernel
theorem dX8_notes_95 : decode cX8_notes 95 = .ok (.return_, 1) := by decide +kernel
def f_X8_notes_54 (x1 x2 : Int32) (v : tmM) : Option (Unit × tmM) := tm_g (tm_ix 10 491) (tm_lt (371 + (2 * (v 1 (10 : Int32).toNatClampNeg))) fun y1 => tm_g (tm_ix y1 491) (tm_lt (tm_up v 1 y1.toNatClampNeg x1) fun v2 => tm_g (tm_ix (y1 + 1) 491) (tm_lt (tm_up v2 1 (y1 + 1).toNatClampNeg x2) fun v3 => tm_g (tm_ix 10 491) (tm_g (tm_ix 10 491) (tm_lt (tm_up v3 1 (10 : Int32).toNatClampNeg ((v3 1 (10 : Int32).toNatClampNeg) + 1)) fun v4 => some ((), v4))))))
set_option maxRecDepth 100000 in
set_option maxHeartbeats 4000000 in
theorem w_X8_notes_54 {p : Program} {l : Launch} {e : Env} {s : State} {m : MethodId} {args : Array Value} {below : List Frame} {meth : Method} {c : Code} {D : va_G} {cy : Nat → ClassId} {ad : Nat → Nat} {A : Nat → Prop} {z : (Unit × tmM)} (C0 : tmC p s m args meth c cX8_notes 4 none RX8 TMW tm_NWR D cy tm_shR ad 13 [] A) (x1 x2 : Int32) (v : tmM) : tmG p l e ({ frames := 0, cells := 0, slots := 0, locals := 0 } : Room) s m args below meth c 0 0 (MQ below (va_Qv (fun u => z = ((), u)) (tmAt tm_shR 13 D cy ad A) A) args s 0 0 A) 4 D cy tm_shR ad 13 [] A z 54 [(0, .ref (ad 0)), (1, .int x1), (2, .int x2)] [] v (f_X8_notes_54 x1 x2 v) := by
  unfold f_X8_notes_54
  refine tg_sipush (x := 371) C0 dX8_notes_54 (by decide) ?_
  refine tg_iconst (x := 2) C0 dX8_notes_57 (by decide) ?_
  refine tg_aload_n 0 C0 dX8_notes_58 rfl rfl ?_
  refine tg_get 0 1 C0 dX8_notes_59 (by decide) rfl rfl tu_X8 (by decide) tf_X8_7 rfl rfl rfl ?_
  refine tg_bipush (x := 10) C0 dX8_notes_62 (by decide) ?_
  refine tg_iald 1 C0 dX8_notes_64 (by decide) rfl (fun _ => ?_)
  refine tg_imul C0 dX8_notes_65 ?_
  refine tg_iadd C0 dX8_notes_66 ?_
  refine tg_leti (fun y1 _ => ?_)
  refine tg_istore_n [(3, .int y1), (0, .ref (ad 0)), (1, .int x1), (2, .int x2)] C0 dX8_notes_67 rfl (by decide) rfl ?_
  refine tg_aload_n 1 C0 dX8_notes_68 rfl rfl ?_
  refine tg_get 0 1 C0 dX8_notes_69 (by decide) rfl rfl tu_X8 (by decide) tf_X8_7 rfl rfl rfl ?_
  refine tg_iload_n 0 C0 dX8_notes_72 rfl rfl ?_
  refine tg_iload_n 2 C0 dX8_notes_73 rfl rfl ?_
  refine tg_iast 1 C0 dX8_notes_74 (by decide) rfl (fun _ => ?_)
  refine tg_letm (fun v2 _ => ?_)
  refine tg_aload_n 1 C0 dX8_notes_75 rfl rfl ?_
  refine tg_get 0 1 C0 dX8_notes_76 (by decide) rfl rfl tu_X8 (by decide) tf_X8_7 rfl rfl rfl ?_
  refine tg_iload_n 0 C0 dX8_notes_79 rfl rfl ?_
  refine tg_iconst (x := 1) C0 dX8_notes_80 (by decide) ?_
  refine tg_iadd C0 dX8_notes_81 ?_
  refine tg_iload_n 3 C0 dX8_notes_82 rfl rfl ?_
  refine tg_iast 1 C0 dX8_notes_83 (by decide) rfl (fun _ => ?_)
  refine tg_letm (fun v3 _ => ?_)
  refine tg_aload_n 1 C0 dX8_notes_84 rfl rfl ?_
  refine tg_get 0 1 C0 dX8_notes_85 (by decide) rfl rfl tu_X8 (by decide) tf_X8_7 rfl rfl rfl ?_
  refine tg_bipush (x := 10) C0 dX8_notes_88 (by decide) ?_
  refine tg_dup2 C0 dX8_notes_90 ⟨rfl, rfl⟩ ?_
  refine tg_iald 1 C0 dX8_notes_91 (by decide) rfl (fun _ => ?_)
  refine tg_iconst (x := 1) C0 dX8_notes_92 (by decide) ?_
  refine tg_iadd C0 dX8_notes_93 ?_
  refine tg_iast 1 C0 dX8_notes_94 (by decide) rfl (fun _ => ?_)
  refine tg_letm (fun v4 _ => ?_)
  exact tg_vret C0 dX8_notes_95
def f_X8_notes_16b (K0 : Int32 → Int32 → tmM → Option (Unit × tmM)) (L : Int32 → Int32 → Int32 → tmM → Option (Unit × tmM)) (x1 x2 x3 : Int32) (v : tmM) : Option (Unit × tmM) := (if 429 ≤ x3 then K0 x1 x2 v else tm_g (tm_ix (x3 + 2) 491) (tm_g (tm_ix x3 491) (tm_lt (tm_up v 1 x3.toNatClampNeg (v 1 (x3 + 2).toNatClampNeg)) fun v5 => L x1 x2 (x3 + 1) v5)))
set_option maxRecDepth 100000 in
set_option maxHeartbeats 4000000 in
theorem w_X8_notes_16b {p : Program} {l : Launch} {e : Env} {s : State} {m : MethodId} {args : Array Value} {below : List Frame} {meth : Method} {c : Code} {D : va_G} {cy : Nat → ClassId} {ad : Nat → Nat} {A : Nat → Prop} {z : (Unit × tmM)} {K0 : Int32 → Int32 → tmM → Option (Unit × tmM)} {L : Int32 → Int32 → Int32 → tmM → Option (Unit × tmM)} (C0 : tmC p s m args meth c cX8_notes 4 none RX8 TMW tm_NWR D cy tm_shR ad 13 [] A) (hK0 : ∀ (a1 a2 : Int32) (w : tmM), tmG p l e ({ frames := 0, cells := 0, slots := 0, locals := 0 } : Room) s m args below meth c 0 0 (MQ below (va_Qv (fun u => z = ((), u)) (tmAt tm_shR 13 D cy ad A) A) args s 0 0 A) 4 D cy tm_shR ad 13 [] A z 43 [(0, .ref (ad 0)), (1, .int a1), (2, .int a2)] [] w (K0 a1 a2 w)) (hL : ∀ (a1 a2 a3 : Int32) (w : tmM), tmG p l e ({ frames := 0, cells := 0, slots := 0, locals := 0 } : Room) s m args below meth c 0 0 (MQ below (va_Qv (fun u => z = ((), u)) (tmAt tm_shR 13 D cy ad A) A) args s 0 0 A) 4 D cy tm_shR ad 13 [] A z 16 [(0, .ref (ad 0)), (1, .int a1), (2, .int a2), (3, .int a3)] [] w (L a1 a2 a3 w)) (x1 x2 x3 : Int32) (v : tmM) : tmG p l e ({ frames := 0, cells := 0, slots := 0, locals := 0 } : Room) s m args below meth c 0 0 (MQ below (va_Qv (fun u => z = ((), u)) (tmAt tm_shR 13 D cy ad A) A) args s 0 0 A) 4 D cy tm_shR ad 13 [] A z 16 [(0, .ref (ad 0)), (1, .int x1), (2, .int x2), (3, .int x3)] [] v (f_X8_notes_16b K0 L x1 x2 x3 v) := by
  unfold f_X8_notes_16b
  refine tg_iload_n 3 C0 dX8_notes_16 rfl rfl ?_
  refine tg_sipush (x := 429) C0 dX8_notes_17 (by decide) ?_
  refine tg_icmp_ge 43 C0 dX8_notes_20 (by decide) (fun _ => ?_) (fun _ => ?_)
  · refine tg_sub [0, 1, 2] rfl ?_
    exact hK0 x1 x2 v
  · refine tg_aload_n 0 C0 dX8_notes_23 rfl rfl ?_
    refine tg_get 0 1 C0 dX8_notes_24 (by decide) rfl rfl tu_X8 (by decide) tf_X8_7 rfl rfl rfl ?_
    refine tg_iload_n 3 C0 dX8_notes_27 rfl rfl ?_
    refine tg_aload_n 0 C0 dX8_notes_28 rfl rfl ?_
    refine tg_get 0 1 C0 dX8_notes_29 (by decide) rfl rfl tu_X8 (by decide) tf_X8_7 rfl rfl rfl ?_
    refine tg_iload_n 3 C0 dX8_notes_32 rfl rfl ?_
    refine tg_iconst (x := 2) C0 dX8_notes_33 (by decide) ?_
    refine tg_iadd C0 dX8_notes_34 ?_
    refine tg_iald 1 C0 dX8_notes_35 (by decide) rfl (fun _ => ?_)
    refine tg_iast 1 C0 dX8_notes_36 (by decide) rfl (fun _ => ?_)
    refine tg_letm (fun v5 _ => ?_)
    refine tg_iinc [(3, .int (x3 + 1)), (0, .ref (ad 0)), (1, .int x1), (2, .int x2)] 3 C0 dX8_notes_37 rfl rfl (by decide) rfl ?_
    refine tg_goto 16 C0 dX8_notes_40 (by decide) ?_
    refine tg_sub [1, 2, 3, 0] rfl ?_
    exact hL x1 x2 (x3 + 1) v5
def f_X8_notes_16 (K0 : Int32 → Int32 → tmM → Option (Unit × tmM)) : Nat → Int32 → Int32 → Int32 → tmM → Option (Unit × tmM)
  | 0 => fun _ _ _ _ => none
  | n + 1 => f_X8_notes_16b K0 (f_X8_notes_16 K0 n)
theorem w_X8_notes_16 {p : Program} {l : Launch} {e : Env} {s : State} {m : MethodId} {args : Array Value} {below : List Frame} {meth : Method} {c : Code} {D : va_G} {cy : Nat → ClassId} {ad : Nat → Nat} {A : Nat → Prop} {z : (Unit × tmM)} {K0 : Int32 → Int32 → tmM → Option (Unit × tmM)} (C0 : tmC p s m args meth c cX8_notes 4 none RX8 TMW tm_NWR D cy tm_shR ad 13 [] A) (hK0 : ∀ (a1 a2 : Int32) (w : tmM), tmG p l e ({ frames := 0, cells := 0, slots := 0, locals := 0 } : Room) s m args below meth c 0 0 (MQ below (va_Qv (fun u => z = ((), u)) (tmAt tm_shR 13 D cy ad A) A) args s 0 0 A) 4 D cy tm_shR ad 13 [] A z 43 [(0, .ref (ad 0)), (1, .int a1), (2, .int a2)] [] w (K0 a1 a2 w)) (nn : Nat) : ∀ (x1 x2 x3 : Int32) (v : tmM), tmG p l e ({ frames := 0, cells := 0, slots := 0, locals := 0 } : Room) s m args below meth c 0 0 (MQ below (va_Qv (fun u => z = ((), u)) (tmAt tm_shR 13 D cy ad A) A) args s 0 0 A) 4 D cy tm_shR ad 13 [] A z 16 [(0, .ref (ad 0)), (1, .int x1), (2, .int x2), (3, .int x3)] [] v (f_X8_notes_16 K0 nn x1 x2 x3 v) := by
  induction nn with
  | zero => intro _ _ _ _; exact tg_none
  | succ n ih => intro x1 x2 x3 v; exact w_X8_notes_16b C0 hK0 ih x1 x2 x3 v
def f_X8_notes (x1 x2 : Int32) (v : tmM) : Option (Unit × tmM) := tm_g (tm_ix 10 491) ((if (v 1 (10 : Int32).toNatClampNeg) = 30 then f_X8_notes_16 (fun x6 x7 v8 => tm_g (tm_ix 10 491) (tm_g (tm_ix 10 491) (tm_lt (tm_up v8 1 (10 : Int32).toNatClampNeg ((v8 1 (10 : Int32).toNatClampNeg) - 1)) fun v9 => f_X8_notes_54 x6 x7 v9))) 10000 x1 x2 371 v else f_X8_notes_54 x1 x2 v))
set_option maxRecDepth 100000 in
set_option maxHeartbeats 4000000 in
theorem w_X8_notes {p : Program} {l : Launch} {e : Env} {s : State} {m : MethodId} {args : Array Value} {below : List Frame} {meth : Method} {c : Code} {D : va_G} {cy : Nat → ClassId} {ad : Nat → Nat} {A : Nat → Prop} {z : (Unit × tmM)} (C0 : tmC p s m args meth c cX8_notes 4 none RX8 TMW tm_NWR D cy tm_shR ad 13 [] A) (x1 x2 : Int32) (v : tmM) : tmG p l e ({ frames := 0, cells := 0, slots := 0, locals := 0 } : Room) s m args below meth c 0 0 (MQ below (va_Qv (fun u => z = ((), u)) (tmAt tm_shR 13 D cy ad A) A) args s 0 0 A) 4 D cy tm_shR ad 13 [] A z 0 [(0, .ref (ad 0)), (1, .int x1), (2, .int x2)] [] v (f_X8_notes x1 x2 v) := by
  unfold f_X8_notes
  refine tg_aload_n 0 C0 dX8_notes_0 rfl rfl ?_
  refine tg_get 0 1 C0 dX8_notes_1 (by decide) rfl rfl tu_X8 (by decide) tf_X8_7 rfl rfl rfl ?_
  refine tg_bipush (x := 10) C0 dX8_notes_4 (by decide) ?_
  refine tg_iald 1 C0 dX8_notes_6 (by decide) rfl (fun _ => ?_)
  refine tg_bipush (x := 30) C0 dX8_notes_7 (by decide) ?_
  refine tg_icmp_ne 54 C0 dX8_notes_9 (by decide) (fun _ => ?_) (fun _ => ?_)
  · exact w_X8_notes_54 C0 x1 x2 v
  · refine tg_sipush (x := 371) C0 dX8_notes_12 (by decide) ?_
    refine tg_istore_n [(3, .int 371), (0, .ref (ad 0)), (1, .int x1), (2, .int x2)] C0 dX8_notes_15 rfl (by decide) rfl ?_
    refine tg_sub [1, 2, 3, 0] rfl ?_
    refine w_X8_notes_16 C0 (fun x6 x7 v8 => ?_) 10000 x1 x2 371 v
    refine tg_aload_n 0 C0 dX8_notes_43 rfl rfl ?_
    refine tg_get 0 1 C0 dX8_notes_44 (by decide) rfl rfl tu_X8 (by decide) tf_X8_7 rfl rfl rfl ?_
    refine tg_bipush (x := 10) C0 dX8_notes_47 (by decide) ?_
    refine tg_dup2 C0 dX8_notes_49 ⟨rfl, rfl⟩ ?_
    refine tg_iald 1 C0 dX8_notes_50 (by decide) rfl (fun _ => ?_)
    refine tg_iconst (x := 1) C0 dX8_notes_51 (by decide) ?_
    refine tg_isub C0 dX8_notes_52 ?_
    refine tg_iast 1 C0 dX8_notes_53 (by decide) rfl (fun _ => ?_)
    refine tg_letm (fun v9 _ => ?_)
    exact w_X8_notes_54 C0 x6 x7 v9
theorem c_X8_notes (l : Launch) (x1 x2 : Int32) (v : tmM) : tmMv tm_NWR tm_shR 13 l yX8_notes (Cond.code yX8_notes cX8_notes 4 none :: TMW) ({ frames := 0, cells := 0, slots := 0, locals := 0 } : Room) (fun ad => [.ref (ad 0), .int x1, .int x2]) v (f_X8_notes x1 x2 v) :=
  tmMv.of (cc := cX8_notes) (nL := 4) (by decide +kernel) rfl tm_NWR_ok (fun _ => Nat.le_of_ble_eq_true rfl) (fun p e s m args below meth c A D cy ad z C0 => w_X8_notes C0 x1 x2 v)
-- ----- X8_placeOf
theorem dX8_placeOf_0 : decode cX8_placeOf 0 = .ok (.iconst 0, 1) := by decide +kernel
theorem dX8_placeOf_1 : decode cX8_placeOf 1 = .ok (.istore_n 2, 1) := by decide +kernel
theorem dX8_placeOf_2 : decode cX8_placeOf 2 = .ok (.iload_n 2, 1) := by decide +kernel
theorem dX8_placeOf_3 : decode cX8_placeOf 3 = .ok (.aload_n 0, 1) := by decide +kernel
theorem dX8_placeOf_4 : decode cX8_placeOf 4 = .ok (.getfield 7, 3) := by decide +kernel
theorem dX8_placeOf_7 : decode cX8_placeOf 7 = .ok (.bipush 7, 2) := by decide +kernel
theorem dX8_placeOf_9 : decode cX8_placeOf 9 = .ok (.iaload, 1) := by decide +kernel
theorem dX8_placeOf_10 : decode cX8_placeOf 10 = .ok (.if_icmp .ge 25, 3) := by decide +kernel
theorem dX8_placeOf_13 : decode cX8_placeOf 13 = .ok (.aload_n 0, 1) := by decide +kernel
theorem dX8_placeOf_14 : decode cX8_placeOf 14 = .ok (.getfield 7, 3) := by decide +kernel
theorem dX8_placeOf_17 : decode cX8_placeOf 17 = .ok (.sipush 131, 3) := by decide +kernel
theorem dX8_placeOf_20 : decode cX8_placeOf 20 = .ok (.iload_n 2, 1) := by decide +kernel
theorem dX8_placeOf_21 : decode cX8_placeOf 21 = .ok (.iadd, 1) := by decide +kernel
theorem dX8_placeOf_22 : decode cX8_placeOf 22 = .ok (.iaload, 1) := by decide +kernel
theorem dX8_placeOf_23 : decode cX8_placeOf 23 = .ok (.iload_n 1, 1) := by decide +kernel
theorem dX8_placeOf_24 : decode cX8_placeOf 24 = .ok (.if_icmp .ne 5, 3) := by decide +kernel
theorem dX8_placeOf_27 : decode cX8_placeOf 27 = .ok (.iload_n 2, 1) := by decide +kernel
theorem dX8_placeOf_28 : decode cX8_placeOf 28 = .ok (.ireturn, 1) := by decide +kernel
theorem dX8_placeOf_29 : decode cX8_placeOf 29 = .ok (.iinc 2 1, 3) := by decide +kernel
theorem dX8_placeOf_32 : decode cX8_placeOf 32 = .ok (.goto (-30), 3) := by decide +kernel
theorem dX8_placeOf_35 : decode cX8_placeOf 35 = .ok (.iconst (-1), 1) := by decide +kernel
theorem dX8_placeOf_36 : decode cX8_placeOf 36 = .ok (.ireturn, 1) := by decide +kernel
def f_X8_placeOf_2b (K0 : tmM → Option (Int32 × tmM)) (L : Int32 → Int32 → tmM → Option (Int32 × tmM)) (x1 x2 : Int32) (v : tmM) : Option (Int32 × tmM) := tm_g (tm_ix 7 491) ((if (v 1 (7 : Int32).toNatClampNeg) ≤ x2 then K0 v else tm_g (tm_ix (131 + x2) 491) ((if (v 1 (131 + x2).toNatClampNeg) = x1 then some (x2, v) else L x1 (x2 + 1) v))))
set_option maxRecDepth 100000 in
set_option maxHeartbeats 4000000 in
theorem w_X8_placeOf_2b {p : Program} {l : Launch} {e : Env} {s : State} {m : MethodId} {args : Array Value} {below : List Frame} {meth : Method} {c : Code} {D : va_G} {cy : Nat → ClassId} {ad : Nat → Nat} {A : Nat → Prop} {z : (Int32 × tmM)} {K0 : tmM → Option (Int32 × tmM)} {L : Int32 → Int32 → tmM → Option (Int32 × tmM)} (C0 : tmC p s m args meth c cX8_placeOf 3 (some .int) RX8 TMW tm_NWR D cy tm_shR ad 13 [] A) (hK0 : ∀ (w : tmM), tmG p l e ({ frames := 0, cells := 0, slots := 0, locals := 0 } : Room) s m args below meth c 0 0 (MQ below (va_Qi (fun r u => z = (r, u)) (tmAt tm_shR 13 D cy ad A) A) args s 0 0 A) 3 D cy tm_shR ad 13 [] A z 35 [] [] w (K0 w)) (hL : ∀ (a1 a2 : Int32) (w : tmM), tmG p l e ({ frames := 0, cells := 0, slots := 0, locals := 0 } : Room) s m args below meth c 0 0 (MQ below (va_Qi (fun r u => z = (r, u)) (tmAt tm_shR 13 D cy ad A) A) args s 0 0 A) 3 D cy tm_shR ad 13 [] A z 2 [(0, .ref (ad 0)), (1, .int a1), (2, .int a2)] [] w (L a1 a2 w)) (x1 x2 : Int32) (v : tmM) : tmG p l e ({ frames := 0, cells := 0, slots := 0, locals := 0 } : Room) s m args below meth c 0 0 (MQ below (va_Qi (fun r u => z = (r, u)) (tmAt tm_shR 13 D cy ad A) A) args s 0 0 A) 3 D cy tm_shR ad 13 [] A z 2 [(0, .ref (ad 0)), (1, .int x1), (2, .int x2)] [] v (f_X8_placeOf_2b K0 L x1 x2 v) := by
  unfold f_X8_placeOf_2b
  refine tg_iload_n 2 C0 dX8_placeOf_2 rfl rfl ?_
  refine tg_aload_n 0 C0 dX8_placeOf_3 rfl rfl ?_
  refine tg_get 0 1 C0 dX8_placeOf_4 (by decide) rfl rfl tu_X8 (by decide) tf_X8_7 rfl rfl rfl ?_
  refine tg_bipush (x := 7) C0 dX8_placeOf_7 (by decide) ?_
  refine tg_iald 1 C0 dX8_placeOf_9 (by decide) rfl (fun _ => ?_)
  refine tg_icmp_ge 35 C0 dX8_placeOf_10 (by decide) (fun _ => ?_) (fun _ => ?_)
  · refine tg_sub [] rfl ?_
    exact hK0 v
  · refine tg_aload_n 0 C0 dX8_placeOf_13 rfl rfl ?_
    refine tg_get 0 1 C0 dX8_placeOf_14 (by decide) rfl rfl tu_X8 (by decide) tf_X8_7 rfl rfl rfl ?_
    refine tg_sipush (x := 131) C0 dX8_placeOf_17 (by decide) ?_
    refine tg_iload_n 2 C0 dX8_placeOf_20 rfl rfl ?_
    refine tg_iadd C0 dX8_placeOf_21 ?_
    refine tg_iald 1 C0 dX8_placeOf_22 (by decide) rfl (fun _ => ?_)
    refine tg_iload_n 1 C0 dX8_placeOf_23 rfl rfl ?_
    refine tg_icmp_ne 29 C0 dX8_placeOf_24 (by decide) (fun _ => ?_) (fun _ => ?_)
    · refine tg_iinc [(2, .int (x2 + 1)), (0, .ref (ad 0)), (1, .int x1)] 2 C0 dX8_placeOf_29 rfl rfl (by decide) rfl ?_
      refine tg_goto 2 C0 dX8_placeOf_32 (by decide) ?_
      refine tg_sub [1, 2, 0] rfl ?_
      exact hL x1 (x2 + 1) v
    · refine tg_iload_n 2 C0 dX8_placeOf_27 rfl rfl ?_
      exact tg_iret C0 dX8_placeOf_28
def f_X8_placeOf_2 (K0 : tmM → Option (Int32 × tmM)) : Nat → Int32 → Int32 → tmM → Option (Int32 × tmM)
  | 0 => fun _ _ _ => none
  | n + 1 => f_X8_placeOf_2b K0 (f_X8_placeOf_2 K0 n)
theorem w_X8_placeOf_2 {p : Program} {l : Launch} {e : Env} {s : State} {m : MethodId} {args : Array Value} {below : List Frame} {meth : Method} {c : Code} {D : va_G} {cy : Nat → ClassId} {ad : Nat → Nat} {A : Nat → Prop} {z : (Int32 × tmM)} {K0 : tmM → Option (Int32 × tmM)} (C0 : tmC p s m args meth c cX8_placeOf 3 (some .int) RX8 TMW tm_NWR D cy tm_shR ad 13 [] A) (hK0 : ∀ (w : tmM), tmG p l e ({ frames := 0, cells := 0, slots := 0, locals := 0 } : Room) s m args below meth c 0 0 (MQ below (va_Qi (fun r u => z = (r, u)) (tmAt tm_shR 13 D cy ad A) A) args s 0 0 A) 3 D cy tm_shR ad 13 [] A z 35 [] [] w (K0 w)) (nn : Nat) : ∀ (x1 x2 : Int32) (v : tmM), tmG p l e ({ frames := 0, cells := 0, slots := 0, locals := 0 } : Room) s m args below meth c 0 0 (MQ below (va_Qi (fun r u => z = (r, u)) (tmAt tm_shR 13 D cy ad A) A) args s 0 0 A) 3 D cy tm_shR ad 13 [] A z 2 [(0, .ref (ad 0)), (1, .int x1), (2, .int x2)] [] v (f_X8_placeOf_2 K0 nn x1 x2 v) := by
  induction nn with
  | zero => intro _ _ _; exact tg_none
  | succ n ih => intro x1 x2 v; exact w_X8_placeOf_2b C0 hK0 ih x1 x2 v
def f_X8_placeOf (x1 : Int32) (v : tmM) : Option (Int32 × tmM) := f_X8_placeOf_2 (fun v1 => some ((-1), v1)) 10000 x1 0 v
set_option maxRecDepth 100000 in
set_option maxHeartbeats 4000000 in
theorem w_X8_placeOf {p : Program} {l : Launch} {e : Env} {s : State} {m : MethodId} {args : Array Value} {below : List Frame} {meth : Method} {c : Code} {D : va_G} {cy : Nat → ClassId} {ad : Nat → Nat} {A : Nat → Prop} {z : (Int32 × tmM)} (C0 : tmC p s m args meth c cX8_placeOf 3 (some .int) RX8 TMW tm_NWR D cy tm_shR ad 13 [] A) (x1 : Int32) (v : tmM) : tmG p l e ({ frames := 0, cells := 0, slots := 0, locals := 0 } : Room) s m args below meth c 0 0 (MQ below (va_Qi (fun r u => z = (r, u)) (tmAt tm_shR 13 D cy ad A) A) args s 0 0 A) 3 D cy tm_shR ad 13 [] A z 0 [(0, .ref (ad 0)), (1, .int x1)] [] v (f_X8_placeOf x1 v) := by
  unfold f_X8_placeOf
  refine tg_iconst (x := 0) C0 dX8_placeOf_0 (by decide) ?_
  refine tg_istore_n [(2, .int 0), (0, .ref (ad 0)), (1, .int x1)] C0 dX8_placeOf_1 rfl (by decide) rfl ?_
  refine tg_sub [1, 2, 0] rfl ?_
  refine w_X8_placeOf_2 C0 (fun v1 => ?_) 10000 x1 0 v
  refine tg_iconst (x := (-1)) C0 dX8_placeOf_35 (by decide) ?_
  exact tg_iret C0 dX8_placeOf_36
theorem c_X8_placeOf (l : Launch) (x1 : Int32) (v : tmM) : tmMi tm_NWR tm_shR 13 l yX8_placeOf (Cond.code yX8_placeOf cX8_placeOf 3 (some .int) :: TMW) ({ frames := 0, cells := 0, slots := 0, locals := 0 } : Room) (fun ad => [.ref (ad 0), .int x1]) v (f_X8_placeOf x1 v) :=
  tmMi.of (cc := cX8_placeOf) (nL := 3) (by decide +kernel) rfl tm_NWR_ok (fun _ => Nat.le_of_ble_eq_true rfl) (fun p e s m args below meth c A D cy ad z C0 => w_X8_placeOf C0 x1 v)
-- ----- X8_becomesStale
theorem dX8_becomesStale_0 : decode cX8_becomesStale 0 = .ok (.aload_n 0, 1) := by decide +kernel
theorem dX8_becomesStale_1 : decode cX8_becomesStale 1 = .ok (.getfield 7, 3) := by decide +kernel
theorem dX8_becomesStale_4 : decode cX8_becomesStale 4 = .ok (.iconst 4, 1) := by decide +kernel
theorem dX8_becomesStale_5 : decode cX8_becomesStale 5 = .ok (.dup2, 1) := by decide +kernel
theorem dX8_becomesStale_6 : decode cX8_becomesStale 6 = .ok (.iaload, 1) := by decide +kernel
theorem dX8_becomesStale_7 : decode cX8_becomesStale 7 = .ok (.iconst 1, 1) := by decide +kernel
theorem dX8_becomesStale_8 : decode cX8_becomesStale 8 = .ok (.iload_n 1, 1) := by decide +kernel
theorem dX8_becomesStale_9 : decode cX8_becomesStale 9 = .ok (.iconst 4, 1) := by decide +kernel
theorem dX8_becomesStale_10 : decode cX8_becomesStale 10 = .ok (.idiv, 1) := by decide +kernel
theorem dX8_becomesStale_11 : decode cX8_becomesStale 11 = .ok (.ishl, 1) := by decide +kernel
theorem dX8_becomesStale_12 : decode cX8_becomesStale 12 = .ok (.iconst (-1), 1) := by decide +kernel
theorem dX8_becomesStale_13 : decode cX8_becomesStale 13 = .ok (.ixor, 1) := by decide +kernel
theorem dX8_becomesStale_14 : decode cX8_becomesStale 14 = .ok (.iand, 1) := by decide +kernel
theorem dX8_becomesStale_15 : decode cX8_becomesStale 15 = .ok (.iastore, 1) := by decide +kernel
theorem dX8_becomesStale_16 : decode cX8_becomesStale 16 = .ok (.aload_n 0, 1) := by decide +kernel
theorem dX8_becomesStale_17 : decode cX8_becomesStale 17 = .ok (.iload_n 1, 1) := by decide +kernel
theorem dX8_becomesStale_18 : decode cX8_becomesStale 18 = .ok (.invokevirtual 82, 3) := by decide +kernel
theorem dX8_becomesStale_21 : decode cX8_becomesStale 21 = .ok (.iconst (-1), 1) := by decide +kernel
theorem dX8_becomesStale_22 : decode cX8_becomesStale 22 = .ok (.if_icmp .eq 4, 3) := by decide +kernel
theorem dX8_becomesStale_25 : decode cX8_becomesStale 25 = .ok (.return_, 1) := by decide +kernel
theorem dX8_becomesStale_26 : decode cX8_becomesStale 26 = .ok (.aload_n 0, 1) := by decide +kernel
theorem dX8_becomesStale_27 : decode cX8_becomesStale 27 = .ok (.getfield 7, 3) := by decide +kernel
theorem dX8_becomesStale_30 : decode cX8_becomesStale 30 = .ok (.sipush 131, 3) := by decide +kernel
theorem dX8_becomesStale_33 : decode cX8_becomesStale 33 = .ok (.aload_n 0, 1) := by decide +kernel
theorem dX8_becomesStale_34 : decode cX8_becomesStale 34 = .ok (.getfield 7, 3) := by decide +kernel
theorem dX8_becomesStale_37 : decode cX8_becomesStale 37 = .ok (.bipush 7, 2) := by decide +kernel
theorem dX8_becomesStale_39 : decode cX8_becomesStale 39 = .ok (.iaload, 1) := by decide +kernel
theorem dX8_becomesStale_40 : decode cX8_becomesStale 40 = .ok (.iadd, 1) := by decide +kernel
theorem dX8_becomesStale_41 : decode cX8_becomesStale 41 = .ok (.iload_n 1, 1) := by decide +kernel
theorem dX8_becomesStale_42 : decode cX8_becomesStale 42 = .ok (.iastore, 1) := by decide +kernel
theorem dX8_becomesStale_43 : decode cX8_becomesStale 43 = .ok (.aload_n 0, 1) := by decide +kernel
theorem dX8_becomesStale_44 : decode cX8_becomesStale 44 = .ok (.getfield 7, 3) := by decide +kernel
theorem dX8_becomesStale_47 : decode cX8_becomesStale 47 = .ok (.bipush 7, 2) := by decide +kernel
theorem dX8_becomesStale_49 : decode cX8_becomesStale 49 = .ok (.dup2, 1) := by decide +kernel
theorem dX8_becomesStale_50 : decode cX8_becomesStale 50 = .ok (.iaload, 1) := by decide +kernel
theorem dX8_becomesStale_51 : decode cX8_becomesStale 51 = .ok (.iconst 1, 1) := by decide +kernel
theorem dX8_becomesStale_52 : decode cX8_becomesStale 52 = .ok (.iadd, 1) := by decide +kernel
theorem dX8_becomesStale_53 : decode cX8_becomesStale 53 = .ok (.iastore, 1) := by decide +kernel
theorem dX8_becomesStale_54 : decode cX8_becomesStale 54 = .ok (.aload_n 0, 1) := by decide +kernel
theorem dX8_becomesStale_55 : decode cX8_becomesStale 55 = .ok (.iconst 1, 1) := by decide +kernel
theorem dX8_becomesStale_56 : decode cX8_becomesStale 56 = .ok (.iload_n 1, 1) := by decide +kernel
theorem dX8_becomesStale_57 : decode cX8_becomesStale 57 = .ok (.invokevirtual 85, 3) := by decide +kernel
theorem dX8_becomesStale_60 : decode cX8_becomesStale 60 = .ok (.return_, 1) := by decide +kernel
theorem tl_X8_82 : Cond.methodLink RX8 82 yX8_placeOf ∈ TMW := tm_in 1753 (by decide +kernel) (by decide +kernel)
theorem ti_X8_placeOf : Cond.instanceMethod yX8_placeOf ∈ TMW := tm_in 1755 (by decide +kernel) (by decide +kernel)
theorem ts_X8_placeOf : Cond.selects RX8 yX8_placeOf yX8_placeOf ∈ TMW := tm_in 53 (by decide +kernel) (by decide +kernel)
theorem tc_X8_placeOf : Cond.code yX8_placeOf cX8_placeOf 3 (some .int) ∈ TMW := tm_in 1756 (by decide +kernel) (by decide +kernel)
theorem tl_X8_85 : Cond.methodLink RX8 85 yX8_notes ∈ TMW := tm_in 1804 (by decide +kernel) (by decide +kernel)
theorem ti_X8_notes : Cond.instanceMethod yX8_notes ∈ TMW := tm_in 1806 (by decide +kernel) (by decide +kernel)
theorem ts_X8_notes : Cond.selects RX8 yX8_notes yX8_notes ∈ TMW := tm_in 60 (by decide +kernel) (by decide +kernel)
theorem tc_X8_notes : Cond.code yX8_notes cX8_notes 4 none ∈ TMW := tm_in 1807 (by decide +kernel) (by decide +kernel)
def f_X8_becomesStale (x1 : Int32) (v : tmM) : Option (Unit × tmM) := tm_g (tm_ix 4 491) (tm_g (decide (¬ 4 = 0)) (tm_g (tm_ix 4 491) (tm_lt (tm_up v 1 (4 : Int32).toNatClampNeg ((v 1 (4 : Int32).toNatClampNeg) &&& ((1 <<< ((x1 / 4) &&& 31)) ^^^ (-1)))) fun v1 => tm_cl (f_X8_placeOf x1 v1) fun r3 v2 => (if r3 = (-1) then tm_g (tm_ix 7 491) (tm_g (tm_ix (131 + (v2 1 (7 : Int32).toNatClampNeg)) 491) (tm_lt (tm_up v2 1 (131 + (v2 1 (7 : Int32).toNatClampNeg)).toNatClampNeg x1) fun v4 => tm_g (tm_ix 7 491) (tm_g (tm_ix 7 491) (tm_lt (tm_up v4 1 (7 : Int32).toNatClampNeg ((v4 1 (7 : Int32).toNatClampNeg) + 1)) fun v5 => tm_cl (f_X8_notes 1 x1 v5) fun _ v6 => some ((), v6))))) else some ((), v2)))))
set_option maxRecDepth 100000 in
set_option maxHeartbeats 4000000 in
theorem w_X8_becomesStale {p : Program} {l : Launch} {e : Env} {s : State} {m : MethodId} {args : Array Value} {below : List Frame} {meth : Method} {c : Code} {D : va_G} {cy : Nat → ClassId} {ad : Nat → Nat} {A : Nat → Prop} {z : (Unit × tmM)} (C0 : tmC p s m args meth c cX8_becomesStale 2 none RX8 TMW tm_NWR D cy tm_shR ad 13 [] A) (x1 : Int32) (v : tmM) : tmG p l e ({ frames := 1, cells := 0, slots := 0, locals := 23 } : Room) s m args below meth c 0 0 (MQ below (va_Qv (fun u => z = ((), u)) (tmAt tm_shR 13 D cy ad A) A) args s 0 0 A) 2 D cy tm_shR ad 13 [] A z 0 [(0, .ref (ad 0)), (1, .int x1)] [] v (f_X8_becomesStale x1 v) := by
  unfold f_X8_becomesStale
  refine tg_aload_n 0 C0 dX8_becomesStale_0 rfl rfl ?_
  refine tg_get 0 1 C0 dX8_becomesStale_1 (by decide) rfl rfl tu_X8 (by decide) tf_X8_7 rfl rfl rfl ?_
  refine tg_iconst (x := 4) C0 dX8_becomesStale_4 (by decide) ?_
  refine tg_dup2 C0 dX8_becomesStale_5 ⟨rfl, rfl⟩ ?_
  refine tg_iald 1 C0 dX8_becomesStale_6 (by decide) rfl (fun _ => ?_)
  refine tg_iconst (x := 1) C0 dX8_becomesStale_7 (by decide) ?_
  refine tg_iload_n 1 C0 dX8_becomesStale_8 rfl rfl ?_
  refine tg_iconst (x := 4) C0 dX8_becomesStale_9 (by decide) ?_
  refine tg_idiv C0 dX8_becomesStale_10 (fun _ => ?_)
  refine tg_ishl C0 dX8_becomesStale_11 ?_
  refine tg_iconst (x := (-1)) C0 dX8_becomesStale_12 (by decide) ?_
  refine tg_ixor C0 dX8_becomesStale_13 ?_
  refine tg_iand C0 dX8_becomesStale_14 ?_
  refine tg_iast 1 C0 dX8_becomesStale_15 (by decide) rfl (fun _ => ?_)
  refine tg_letm (fun v1 _ => ?_)
  refine tg_aload_n 0 C0 dX8_becomesStale_16 rfl rfl ?_
  refine tg_iload_n 1 C0 dX8_becomesStale_17 rfl rfl ?_
  refine tg_callVi (As := [.int x1]) 0 1 C0 dX8_becomesStale_18 (c_X8_placeOf l x1 v1) rfl rfl (by decide) rfl rfl (tm_gV tl_X8_82 ti_X8_placeOf ts_X8_placeOf tn_X8 tc_X8_placeOf)  rfl rfl rfl rfl (by decide +kernel) ⟨by decide, by decide⟩ (Nat.le_of_ble_eq_true rfl) ⟨by decide, by decide⟩ (fun r3 v2 _ => ?_)
  refine tg_iconst (x := (-1)) C0 dX8_becomesStale_21 (by decide) ?_
  refine tg_icmp_eq 26 C0 dX8_becomesStale_22 (by decide) (fun _ => ?_) (fun _ => ?_)
  · refine tg_aload_n 0 C0 dX8_becomesStale_26 rfl rfl ?_
    refine tg_get 0 1 C0 dX8_becomesStale_27 (by decide) rfl rfl tu_X8 (by decide) tf_X8_7 rfl rfl rfl ?_
    refine tg_sipush (x := 131) C0 dX8_becomesStale_30 (by decide) ?_
    refine tg_aload_n 0 C0 dX8_becomesStale_33 rfl rfl ?_
    refine tg_get 0 1 C0 dX8_becomesStale_34 (by decide) rfl rfl tu_X8 (by decide) tf_X8_7 rfl rfl rfl ?_
    refine tg_bipush (x := 7) C0 dX8_becomesStale_37 (by decide) ?_
    refine tg_iald 1 C0 dX8_becomesStale_39 (by decide) rfl (fun _ => ?_)
    refine tg_iadd C0 dX8_becomesStale_40 ?_
    refine tg_iload_n 1 C0 dX8_becomesStale_41 rfl rfl ?_
    refine tg_iast 1 C0 dX8_becomesStale_42 (by decide) rfl (fun _ => ?_)
    refine tg_letm (fun v4 _ => ?_)
    refine tg_aload_n 0 C0 dX8_becomesStale_43 rfl rfl ?_
    refine tg_get 0 1 C0 dX8_becomesStale_44 (by decide) rfl rfl tu_X8 (by decide) tf_X8_7 rfl rfl rfl ?_
    refine tg_bipush (x := 7) C0 dX8_becomesStale_47 (by decide) ?_
    refine tg_dup2 C0 dX8_becomesStale_49 ⟨rfl, rfl⟩ ?_
    refine tg_iald 1 C0 dX8_becomesStale_50 (by decide) rfl (fun _ => ?_)
    refine tg_iconst (x := 1) C0 dX8_becomesStale_51 (by decide) ?_
    refine tg_iadd C0 dX8_becomesStale_52 ?_
    refine tg_iast 1 C0 dX8_becomesStale_53 (by decide) rfl (fun _ => ?_)
    refine tg_letm (fun v5 _ => ?_)
    refine tg_aload_n 0 C0 dX8_becomesStale_54 rfl rfl ?_
    refine tg_iconst (x := 1) C0 dX8_becomesStale_55 (by decide) ?_
    refine tg_iload_n 1 C0 dX8_becomesStale_56 rfl rfl ?_
    refine tg_callVv (As := [.int 1, .int x1]) 0 2 C0 dX8_becomesStale_57 (c_X8_notes l 1 x1 v5) rfl rfl (by decide) rfl rfl (tm_gV tl_X8_85 ti_X8_notes ts_X8_notes tn_X8 tc_X8_notes)  rfl rfl rfl rfl (by decide +kernel) ⟨by decide, by decide⟩ (Nat.le_of_ble_eq_true rfl) ⟨by decide, by decide⟩ (fun v6 _ => ?_)
    exact tg_vret C0 dX8_becomesStale_60
  · exact tg_vret C0 dX8_becomesStale_25
theorem c_X8_becomesStale (l : Launch) (x1 : Int32) (v : tmM) : tmMv tm_NWR tm_shR 13 l yX8_becomesStale (Cond.code yX8_becomesStale cX8_becomesStale 2 none :: TMW) ({ frames := 1, cells := 0, slots := 0, locals := 23 } : Room) (fun ad => [.ref (ad 0), .int x1]) v (f_X8_becomesStale x1 v) :=
  tmMv.of (cc := cX8_becomesStale) (nL := 2) (by decide +kernel) rfl tm_NWR_ok (fun _ => Nat.le_of_ble_eq_true rfl) (fun p e s m args below meth c A D cy ad z C0 => w_X8_becomesStale C0 x1 v)
-- ----- X8_isStaleNoMore
theorem dX8_isStaleNoMore_0 : decode cX8_isStaleNoMore 0 = .ok (.aload_n 0, 1) := by decide +kernel
theorem dX8_isStaleNoMore_1 : decode cX8_isStaleNoMore 1 = .ok (.iload_n 1, 1) := by decide +kernel
theorem dX8_isStaleNoMore_2 : decode cX8_isStaleNoMore 2 = .ok (.invokevirtual 82, 3) := by decide +kernel
theorem dX8_isStaleNoMore_5 : decode cX8_isStaleNoMore 5 = .ok (.istore_n 2, 1) := by decide +kernel
theorem dX8_isStaleNoMore_6 : decode cX8_isStaleNoMore 6 = .ok (.iload_n 2, 1) := by decide +kernel
theorem dX8_isStaleNoMore_7 : decode cX8_isStaleNoMore 7 = .ok (.iconst (-1), 1) := by decide +kernel
theorem dX8_isStaleNoMore_8 : decode cX8_isStaleNoMore 8 = .ok (.if_icmp .ne 4, 3) := by decide +kernel
theorem dX8_isStaleNoMore_11 : decode cX8_isStaleNoMore 11 = .ok (.return_, 1) := by decide +kernel
theorem dX8_isStaleNoMore_12 : decode cX8_isStaleNoMore 12 = .ok (.iload_n 2, 1) := by decide +kernel
theorem dX8_isStaleNoMore_13 : decode cX8_isStaleNoMore 13 = .ok (.istore_n 3, 1) := by decide +kernel
theorem dX8_isStaleNoMore_14 : decode cX8_isStaleNoMore 14 = .ok (.iload_n 3, 1) := by decide +kernel
theorem dX8_isStaleNoMore_15 : decode cX8_isStaleNoMore 15 = .ok (.iconst 1, 1) := by decide +kernel
theorem dX8_isStaleNoMore_16 : decode cX8_isStaleNoMore 16 = .ok (.iadd, 1) := by decide +kernel
theorem dX8_isStaleNoMore_17 : decode cX8_isStaleNoMore 17 = .ok (.aload_n 0, 1) := by decide +kernel
theorem dX8_isStaleNoMore_18 : decode cX8_isStaleNoMore 18 = .ok (.getfield 7, 3) := by decide +kernel
theorem dX8_isStaleNoMore_21 : decode cX8_isStaleNoMore 21 = .ok (.bipush 7, 2) := by decide +kernel
theorem dX8_isStaleNoMore_23 : decode cX8_isStaleNoMore 23 = .ok (.iaload, 1) := by decide +kernel
theorem dX8_isStaleNoMore_24 : decode cX8_isStaleNoMore 24 = .ok (.if_icmp .ge 31, 3) := by decide +kernel
theorem dX8_isStaleNoMore_27 : decode cX8_isStaleNoMore 27 = .ok (.aload_n 0, 1) := by decide +kernel
theorem dX8_isStaleNoMore_28 : decode cX8_isStaleNoMore 28 = .ok (.getfield 7, 3) := by decide +kernel
theorem dX8_isStaleNoMore_31 : decode cX8_isStaleNoMore 31 = .ok (.sipush 131, 3) := by decide +kernel
theorem dX8_isStaleNoMore_34 : decode cX8_isStaleNoMore 34 = .ok (.iload_n 3, 1) := by decide +kernel
theorem dX8_isStaleNoMore_35 : decode cX8_isStaleNoMore 35 = .ok (.iadd, 1) := by decide +kernel
theorem dX8_isStaleNoMore_36 : decode cX8_isStaleNoMore 36 = .ok (.aload_n 0, 1) := by decide +kernel
theorem dX8_isStaleNoMore_37 : decode cX8_isStaleNoMore 37 = .ok (.getfield 7, 3) := by decide +kernel
theorem dX8_isStaleNoMore_40 : decode cX8_isStaleNoMore 40 = .ok (.sipush 131, 3) := by decide +kernel
theorem dX8_isStaleNoMore_43 : decode cX8_isStaleNoMore 43 = .ok (.iload_n 3, 1) := by decide +kernel
theorem dX8_isStaleNoMore_44 : decode cX8_isStaleNoMore 44 = .ok (.iadd, 1) := by decide +kernel
theorem dX8_isStaleNoMore_45 : decode cX8_isStaleNoMore 45 = .ok (.iconst 1, 1) := by decide +kernel
theorem dX8_isStaleNoMore_46 : decode cX8_isStaleNoMore 46 = .ok (.iadd, 1) := by decide +kernel
theorem dX8_isStaleNoMore_47 : decode cX8_isStaleNoMore 47 = .ok (.iaload, 1) := by decide +kernel
theorem dX8_isStaleNoMore_48 : decode cX8_isStaleNoMore 48 = .ok (.iastore, 1) := by decide +kernel
theorem dX8_isStaleNoMore_49 : decode cX8_isStaleNoMore 49 = .ok (.iinc 3 1, 3) := by decide +kernel
theorem dX8_isStaleNoMore_52 : decode cX8_isStaleNoMore 52 = .ok (.goto (-38), 3) := by decide +kernel
theorem dX8_isStaleNoMore_55 : decode cX8_isStaleNoMore 55 = .ok (.aload_n 0, 1) := by decide +kernel
theorem dX8_isStaleNoMore_56 : decode cX8_isStaleNoMore 56 = .ok (.getfield 7, 3) := by decide +kernel
theorem dX8_isStaleNoMore_59 : decode cX8_isStaleNoMore 59 = .ok (.bipush 7, 2) := by decide +kernel
theorem dX8_isStaleNoMore_61 : decode cX8_isStaleNoMore 61 = .ok (.dup2, 1) := by decide +kernel
theorem dX8_isStaleNoMore_62 : decode cX8_isStaleNoMore 62 = .ok (.iaload, 1) := by decide +kernel
theorem dX8_isStaleNoMore_63 : decode cX8_isStaleNoMore 63 = .ok (.iconst 1, 1) := by decide +kernel
theorem dX8_isStaleNoMore_64 : decode cX8_isStaleNoMore 64 = .ok (.isub, 1) := by decide +kernel
theorem dX8_isStaleNoMore_65 : decode cX8_isStaleNoMore 65 = .ok (.iastore, 1) := by decide +kernel
theorem dX8_isStaleNoMore_66 : decode cX8_isStaleNoMore 66 = .ok (.return_, 1) := by decide +kernel
def f_X8_isStaleNoMore_14b (K0 : tmM → Option (Unit × tmM)) (L : Int32 → tmM → Option (Unit × tmM)) (x3 : Int32) (v : tmM) : Option (Unit × tmM) := tm_g (tm_ix 7 491) ((if (v 1 (7 : Int32).toNatClampNeg) ≤ (x3 + 1) then K0 v else tm_g (tm_ix ((131 + x3) + 1) 491) (tm_g (tm_ix (131 + x3) 491) (tm_lt (tm_up v 1 (131 + x3).toNatClampNeg (v 1 ((131 + x3) + 1).toNatClampNeg)) fun v3 => L (x3 + 1) v3))))
set_option maxRecDepth 100000 in
set_option maxHeartbeats 4000000 in
theorem w_X8_isStaleNoMore_14b {p : Program} {l : Launch} {e : Env} {s : State} {m : MethodId} {args : Array Value} {below : List Frame} {meth : Method} {c : Code} {D : va_G} {cy : Nat → ClassId} {ad : Nat → Nat} {A : Nat → Prop} {z : (Unit × tmM)} {K0 : tmM → Option (Unit × tmM)} {L : Int32 → tmM → Option (Unit × tmM)} (C0 : tmC p s m args meth c cX8_isStaleNoMore 4 none RX8 TMW tm_NWR D cy tm_shR ad 13 [] A) (hK0 : ∀ (w : tmM), tmG p l e ({ frames := 1, cells := 0, slots := 0, locals := 22 } : Room) s m args below meth c 0 0 (MQ below (va_Qv (fun u => z = ((), u)) (tmAt tm_shR 13 D cy ad A) A) args s 0 0 A) 4 D cy tm_shR ad 13 [] A z 55 [(0, .ref (ad 0))] [] w (K0 w)) (hL : ∀ (a3 : Int32) (w : tmM), tmG p l e ({ frames := 1, cells := 0, slots := 0, locals := 22 } : Room) s m args below meth c 0 0 (MQ below (va_Qv (fun u => z = ((), u)) (tmAt tm_shR 13 D cy ad A) A) args s 0 0 A) 4 D cy tm_shR ad 13 [] A z 14 [(0, .ref (ad 0)), (3, .int a3)] [] w (L a3 w)) (x3 : Int32) (v : tmM) : tmG p l e ({ frames := 1, cells := 0, slots := 0, locals := 22 } : Room) s m args below meth c 0 0 (MQ below (va_Qv (fun u => z = ((), u)) (tmAt tm_shR 13 D cy ad A) A) args s 0 0 A) 4 D cy tm_shR ad 13 [] A z 14 [(0, .ref (ad 0)), (3, .int x3)] [] v (f_X8_isStaleNoMore_14b K0 L x3 v) := by
  unfold f_X8_isStaleNoMore_14b
  refine tg_iload_n 1 C0 dX8_isStaleNoMore_14 rfl rfl ?_
  refine tg_iconst (x := 1) C0 dX8_isStaleNoMore_15 (by decide) ?_
  refine tg_iadd C0 dX8_isStaleNoMore_16 ?_
  refine tg_aload_n 0 C0 dX8_isStaleNoMore_17 rfl rfl ?_
  refine tg_get 0 1 C0 dX8_isStaleNoMore_18 (by decide) rfl rfl tu_X8 (by decide) tf_X8_7 rfl rfl rfl ?_
  refine tg_bipush (x := 7) C0 dX8_isStaleNoMore_21 (by decide) ?_
  refine tg_iald 1 C0 dX8_isStaleNoMore_23 (by decide) rfl (fun _ => ?_)
  refine tg_icmp_ge 55 C0 dX8_isStaleNoMore_24 (by decide) (fun _ => ?_) (fun _ => ?_)
  · refine tg_sub [0] rfl ?_
    exact hK0 v
  · refine tg_aload_n 0 C0 dX8_isStaleNoMore_27 rfl rfl ?_
    refine tg_get 0 1 C0 dX8_isStaleNoMore_28 (by decide) rfl rfl tu_X8 (by decide) tf_X8_7 rfl rfl rfl ?_
    refine tg_sipush (x := 131) C0 dX8_isStaleNoMore_31 (by decide) ?_
    refine tg_iload_n 1 C0 dX8_isStaleNoMore_34 rfl rfl ?_
    refine tg_iadd C0 dX8_isStaleNoMore_35 ?_
    refine tg_aload_n 0 C0 dX8_isStaleNoMore_36 rfl rfl ?_
    refine tg_get 0 1 C0 dX8_isStaleNoMore_37 (by decide) rfl rfl tu_X8 (by decide) tf_X8_7 rfl rfl rfl ?_
    refine tg_sipush (x := 131) C0 dX8_isStaleNoMore_40 (by decide) ?_
    refine tg_iload_n 1 C0 dX8_isStaleNoMore_43 rfl rfl ?_
    refine tg_iadd C0 dX8_isStaleNoMore_44 ?_
    refine tg_iconst (x := 1) C0 dX8_isStaleNoMore_45 (by decide) ?_
    refine tg_iadd C0 dX8_isStaleNoMore_46 ?_
    refine tg_iald 1 C0 dX8_isStaleNoMore_47 (by decide) rfl (fun _ => ?_)
    refine tg_iast 1 C0 dX8_isStaleNoMore_48 (by decide) rfl (fun _ => ?_)
    refine tg_letm (fun v3 _ => ?_)
    refine tg_iinc [(3, .int (x3 + 1)), (0, .ref (ad 0))] 1 C0 dX8_isStaleNoMore_49 rfl rfl (by decide) rfl ?_
    refine tg_goto 14 C0 dX8_isStaleNoMore_52 (by decide) ?_
    refine tg_sub [1, 0] rfl ?_
    exact hL (x3 + 1) v3
def f_X8_isStaleNoMore_14 (K0 : tmM → Option (Unit × tmM)) : Nat → Int32 → tmM → Option (Unit × tmM)
  | 0 => fun _ _ => none
  | n + 1 => f_X8_isStaleNoMore_14b K0 (f_X8_isStaleNoMore_14 K0 n)
theorem w_X8_isStaleNoMore_14 {p : Program} {l : Launch} {e : Env} {s : State} {m : MethodId} {args : Array Value} {below : List Frame} {meth : Method} {c : Code} {D : va_G} {cy : Nat → ClassId} {ad : Nat → Nat} {A : Nat → Prop} {z : (Unit × tmM)} {K0 : tmM → Option (Unit × tmM)} (C0 : tmC p s m args meth c cX8_isStaleNoMore 4 none RX8 TMW tm_NWR D cy tm_shR ad 13 [] A) (hK0 : ∀ (w : tmM), tmG p l e ({ frames := 1, cells := 0, slots := 0, locals := 22 } : Room) s m args below meth c 0 0 (MQ below (va_Qv (fun u => z = ((), u)) (tmAt tm_shR 13 D cy ad A) A) args s 0 0 A) 4 D cy tm_shR ad 13 [] A z 55 [(0, .ref (ad 0))] [] w (K0 w)) (nn : Nat) : ∀ (x3 : Int32) (v : tmM), tmG p l e ({ frames := 1, cells := 0, slots := 0, locals := 22 } : Room) s m args below meth c 0 0 (MQ below (va_Qv (fun u => z = ((), u)) (tmAt tm_shR 13 D cy ad A) A) args s 0 0 A) 4 D cy tm_shR ad 13 [] A z 14 [(0, .ref (ad 0)), (3, .int x3)] [] v (f_X8_isStaleNoMore_14 K0 nn x3 v) := by
  induction nn with
  | zero => intro _ _; exact tg_none
  | succ n ih => intro x3 v; exact w_X8_isStaleNoMore_14b C0 hK0 ih x3 v
def f_X8_isStaleNoMore (x1 : Int32) (v : tmM) : Option (Unit × tmM) := tm_cl (f_X8_placeOf x1 v) fun r2 v1 => (if r2 = (-1) then some ((), v1) else f_X8_isStaleNoMore_14 (fun v4 => tm_g (tm_ix 7 491) (tm_g (tm_ix 7 491) (tm_lt (tm_up v4 1 (7 : Int32).toNatClampNeg ((v4 1 (7 : Int32).toNatClampNeg) - 1)) fun v5 => some ((), v5)))) 10000 r2 v1)
set_option maxRecDepth 100000 in
set_option maxHeartbeats 4000000 in
theorem w_X8_isStaleNoMore {p : Program} {l : Launch} {e : Env} {s : State} {m : MethodId} {args : Array Value} {below : List Frame} {meth : Method} {c : Code} {D : va_G} {cy : Nat → ClassId} {ad : Nat → Nat} {A : Nat → Prop} {z : (Unit × tmM)} (C0 : tmC p s m args meth c cX8_isStaleNoMore 4 none RX8 TMW tm_NWR D cy tm_shR ad 13 [] A) (x1 : Int32) (v : tmM) : tmG p l e ({ frames := 1, cells := 0, slots := 0, locals := 22 } : Room) s m args below meth c 0 0 (MQ below (va_Qv (fun u => z = ((), u)) (tmAt tm_shR 13 D cy ad A) A) args s 0 0 A) 4 D cy tm_shR ad 13 [] A z 0 [(0, .ref (ad 0)), (1, .int x1)] [] v (f_X8_isStaleNoMore x1 v) := by
  unfold f_X8_isStaleNoMore
  refine tg_aload_n 0 C0 dX8_isStaleNoMore_0 rfl rfl ?_
  refine tg_iload_n 1 C0 dX8_isStaleNoMore_1 rfl rfl ?_
  refine tg_callVi (As := [.int x1]) 0 1 C0 dX8_isStaleNoMore_2 (c_X8_placeOf l x1 v) rfl rfl (by decide) rfl rfl (tm_gV tl_X8_82 ti_X8_placeOf ts_X8_placeOf tn_X8 tc_X8_placeOf)  rfl rfl rfl rfl (by decide +kernel) ⟨by decide, by decide⟩ (Nat.le_of_ble_eq_true rfl) ⟨by decide, by decide⟩ (fun r2 v1 _ => ?_)
  refine tg_istore_n [(2, .int r2), (0, .ref (ad 0)), (1, .int x1)] C0 dX8_isStaleNoMore_5 rfl (by decide) rfl ?_
  refine tg_iload_n 0 C0 dX8_isStaleNoMore_6 rfl rfl ?_
  refine tg_iconst (x := (-1)) C0 dX8_isStaleNoMore_7 (by decide) ?_
  refine tg_icmp_ne 12 C0 dX8_isStaleNoMore_8 (by decide) (fun _ => ?_) (fun _ => ?_)
  · refine tg_iload_n 0 C0 dX8_isStaleNoMore_12 rfl rfl ?_
    refine tg_istore_n [(3, .int r2), (2, .int r2), (0, .ref (ad 0)), (1, .int x1)] C0 dX8_isStaleNoMore_13 rfl (by decide) rfl ?_
    refine tg_sub [2, 0] rfl ?_
    refine w_X8_isStaleNoMore_14 C0 (fun v4 => ?_) 10000 r2 v1
    refine tg_aload_n 0 C0 dX8_isStaleNoMore_55 rfl rfl ?_
    refine tg_get 0 1 C0 dX8_isStaleNoMore_56 (by decide) rfl rfl tu_X8 (by decide) tf_X8_7 rfl rfl rfl ?_
    refine tg_bipush (x := 7) C0 dX8_isStaleNoMore_59 (by decide) ?_
    refine tg_dup2 C0 dX8_isStaleNoMore_61 ⟨rfl, rfl⟩ ?_
    refine tg_iald 1 C0 dX8_isStaleNoMore_62 (by decide) rfl (fun _ => ?_)
    refine tg_iconst (x := 1) C0 dX8_isStaleNoMore_63 (by decide) ?_
    refine tg_isub C0 dX8_isStaleNoMore_64 ?_
    refine tg_iast 1 C0 dX8_isStaleNoMore_65 (by decide) rfl (fun _ => ?_)
    refine tg_letm (fun v5 _ => ?_)
    exact tg_vret C0 dX8_isStaleNoMore_66
  · exact tg_vret C0 dX8_isStaleNoMore_11
theorem c_X8_isStaleNoMore (l : Launch) (x1 : Int32) (v : tmM) : tmMv tm_NWR tm_shR 13 l yX8_isStaleNoMore (Cond.code yX8_isStaleNoMore cX8_isStaleNoMore 4 none :: TMW) ({ frames := 1, cells := 0, slots := 0, locals := 22 } : Room) (fun ad => [.ref (ad 0), .int x1]) v (f_X8_isStaleNoMore x1 v) :=
  tmMv.of (cc := cX8_isStaleNoMore) (nL := 4) (by decide +kernel) rfl tm_NWR_ok (fun _ => Nat.le_of_ble_eq_true rfl) (fun p e s m args below meth c A D cy ad z C0 => w_X8_isStaleNoMore C0 x1 v)
-- ----- X8_makesSame
theorem dX8_makesSame_0 : decode cX8_makesSame 0 = .ok (.aload_n 0, 1) := by decide +kernel
theorem dX8_makesSame_1 : decode cX8_makesSame 1 = .ok (.aload_n 0, 1) := by decide +kernel
theorem dX8_makesSame_2 : decode cX8_makesSame 2 = .ok (.invokevirtual 89, 3) := by decide +kernel
theorem dX8_makesSame_5 : decode cX8_makesSame 5 = .ok (.iload_n 1, 1) := by decide +kernel
theorem dX8_makesSame_6 : decode cX8_makesSame 6 = .ok (.invokevirtual 74, 3) := by decide +kernel
theorem dX8_makesSame_9 : decode cX8_makesSame 9 = .ok (.istore_n 2, 1) := by decide +kernel
theorem dX8_makesSame_10 : decode cX8_makesSame 10 = .ok (.aload_n 0, 1) := by decide +kernel
theorem dX8_makesSame_11 : decode cX8_makesSame 11 = .ok (.iconst 1, 1) := by decide +kernel
theorem dX8_makesSame_12 : decode cX8_makesSame 12 = .ok (.aload_n 0, 1) := by decide +kernel
theorem dX8_makesSame_13 : decode cX8_makesSame 13 = .ok (.invokevirtual 89, 3) := by decide +kernel
theorem dX8_makesSame_16 : decode cX8_makesSame 16 = .ok (.isub, 1) := by decide +kernel
theorem dX8_makesSame_17 : decode cX8_makesSame 17 = .ok (.iload_n 1, 1) := by decide +kernel
theorem dX8_makesSame_18 : decode cX8_makesSame 18 = .ok (.iload_n 2, 1) := by decide +kernel
theorem dX8_makesSame_19 : decode cX8_makesSame 19 = .ok (.bipush (-3), 2) := by decide +kernel
theorem dX8_makesSame_21 : decode cX8_makesSame 21 = .ok (.if_icmp .ne 7, 3) := by decide +kernel
theorem dX8_makesSame_24 : decode cX8_makesSame 24 = .ok (.iconst 0, 1) := by decide +kernel
theorem dX8_makesSame_25 : decode cX8_makesSame 25 = .ok (.goto 4, 3) := by decide +kernel
theorem dX8_makesSame_28 : decode cX8_makesSame 28 = .ok (.iload_n 2, 1) := by decide +kernel
theorem dX8_makesSame_29 : decode cX8_makesSame 29 = .ok (.invokevirtual 93, 3) := by decide +kernel
theorem dX8_makesSame_32 : decode cX8_makesSame 32 = .ok (.aload_n 0, 1) := by decide +kernel
theorem dX8_makesSame_33 : decode cX8_makesSame 33 = .ok (.iload_n 1, 1) := by decide +kernel
theorem dX8_makesSame_34 : decode cX8_makesSame 34 = .ok (.invokevirtual 97, 3) := by decide +kernel
theorem dX8_makesSame_37 : decode cX8_makesSame 37 = .ok (.return_, 1) := by decide +kernel
theorem tl_X8_89 : Cond.methodLink RX8 89 yX8_leads ∈ TMW := tm_in 1687 (by decide +kernel) (by decide +kernel)
theorem ti_X8_leads : Cond.instanceMethod yX8_leads ∈ TMW := tm_in 1689 (by decide +kernel) (by decide +kernel)
theorem ts_X8_leads : Cond.selects RX8 yX8_leads yX8_leads ∈ TMW := tm_in 44 (by decide +kernel) (by decide +kernel)
theorem tc_X8_leads : Cond.code yX8_leads cX8_leads 1 (some .int) ∈ TMW := tm_in 1690 (by decide +kernel) (by decide +kernel)
theorem tl_X8_93 : Cond.methodLink RX8 93 yX8_lays ∈ TMW := tm_in 1796 (by decide +kernel) (by decide +kernel)
theorem ti_X8_lays : Cond.instanceMethod yX8_lays ∈ TMW := tm_in 1798 (by decide +kernel) (by decide +kernel)
theorem ts_X8_lays : Cond.selects RX8 yX8_lays yX8_lays ∈ TMW := tm_in 58 (by decide +kernel) (by decide +kernel)
theorem tc_X8_lays : Cond.code yX8_lays cX8_lays 4 none ∈ TMW := tm_in 1799 (by decide +kernel) (by decide +kernel)
theorem tl_X8_97 : Cond.methodLink RX8 97 yX8_isStaleNoMore ∈ TMW := tm_in 1812 (by decide +kernel) (by decide +kernel)
theorem ti_X8_isStaleNoMore : Cond.instanceMethod yX8_isStaleNoMore ∈ TMW := tm_in 1814 (by decide +kernel) (by decide +kernel)
theorem ts_X8_isStaleNoMore : Cond.selects RX8 yX8_isStaleNoMore yX8_isStaleNoMore ∈ TMW := tm_in 62 (by decide +kernel) (by decide +kernel)
theorem tc_X8_isStaleNoMore : Cond.code yX8_isStaleNoMore cX8_isStaleNoMore 4 none ∈ TMW := tm_in 1815 (by decide +kernel) (by decide +kernel)
def f_X8_makesSame_29 (x1 s0 s1 s2 : Int32) (v : tmM) : Option (Unit × tmM) := tm_cl (f_X8_lays s2 s1 s0 v) fun _ v7 => tm_cl (f_X8_isStaleNoMore x1 v7) fun _ v9 => some ((), v9)
set_option maxRecDepth 100000 in
set_option maxHeartbeats 4000000 in
theorem w_X8_makesSame_29 {p : Program} {l : Launch} {e : Env} {s : State} {m : MethodId} {args : Array Value} {below : List Frame} {meth : Method} {c : Code} {D : va_G} {cy : Nat → ClassId} {ad : Nat → Nat} {A : Nat → Prop} {z : (Unit × tmM)} (C0 : tmC p s m args meth c cX8_makesSame 3 none RX8 TMW tm_NWR D cy tm_shR ad 13 [] A) (x1 s0 s1 s2 : Int32) (v : tmM) : tmG p l e ({ frames := 3, cells := 0, slots := 0, locals := 67 } : Room) s m args below meth c 0 0 (MQ below (va_Qv (fun u => z = ((), u)) (tmAt tm_shR 13 D cy ad A) A) args s 0 0 A) 3 D cy tm_shR ad 13 [] A z 29 [(0, .ref (ad 0)), (1, .int x1)] [.int s0, .int s1, .int s2, .ref (ad 0)] v (f_X8_makesSame_29 x1 s0 s1 s2 v) := by
  unfold f_X8_makesSame_29
  refine tg_callVv (As := [.int s2, .int s1, .int s0]) 0 3 C0 dX8_makesSame_29 (c_X8_lays l s2 s1 s0 v) rfl rfl (by decide) rfl rfl (tm_gV tl_X8_93 ti_X8_lays ts_X8_lays tn_X8 tc_X8_lays)  rfl rfl rfl rfl (by decide +kernel) ⟨by decide, by decide⟩ (Nat.le_of_ble_eq_true rfl) ⟨by decide, by decide⟩ (fun v7 _ => ?_)
  refine tg_aload_n 0 C0 dX8_makesSame_32 rfl rfl ?_
  refine tg_iload_n 1 C0 dX8_makesSame_33 rfl rfl ?_
  refine tg_callVv (As := [.int x1]) 0 1 C0 dX8_makesSame_34 (c_X8_isStaleNoMore l x1 v7) rfl rfl (by decide) rfl rfl (tm_gV tl_X8_97 ti_X8_isStaleNoMore ts_X8_isStaleNoMore tn_X8 tc_X8_isStaleNoMore)  rfl rfl rfl rfl (by decide +kernel) ⟨by decide, by decide⟩ (Nat.le_of_ble_eq_true rfl) ⟨by decide, by decide⟩ (fun v9 _ => ?_)
  exact tg_vret C0 dX8_makesSame_37
def f_X8_makesSame (x1 : Int32) (v : tmM) : Option (Unit × tmM) := tm_cl (f_X8_leads v) fun r2 v1 => tm_cl (f_X8_valueIn r2 x1 v1) fun r4 v3 => tm_cl (f_X8_leads v3) fun r6 v5 => (if r4 = (-3) then f_X8_makesSame_29 x1 0 x1 (1 - r6) v5 else f_X8_makesSame_29 x1 r4 x1 (1 - r6) v5)
set_option maxRecDepth 100000 in
set_option maxHeartbeats 4000000 in
theorem w_X8_makesSame {p : Program} {l : Launch} {e : Env} {s : State} {m : MethodId} {args : Array Value} {below : List Frame} {meth : Method} {c : Code} {D : va_G} {cy : Nat → ClassId} {ad : Nat → Nat} {A : Nat → Prop} {z : (Unit × tmM)} (C0 : tmC p s m args meth c cX8_makesSame 3 none RX8 TMW tm_NWR D cy tm_shR ad 13 [] A) (x1 : Int32) (v : tmM) : tmG p l e ({ frames := 3, cells := 0, slots := 0, locals := 67 } : Room) s m args below meth c 0 0 (MQ below (va_Qv (fun u => z = ((), u)) (tmAt tm_shR 13 D cy ad A) A) args s 0 0 A) 3 D cy tm_shR ad 13 [] A z 0 [(0, .ref (ad 0)), (1, .int x1)] [] v (f_X8_makesSame x1 v) := by
  unfold f_X8_makesSame
  refine tg_aload_n 0 C0 dX8_makesSame_0 rfl rfl ?_
  refine tg_aload_n 0 C0 dX8_makesSame_1 rfl rfl ?_
  refine tg_callVi (As := []) 0 0 C0 dX8_makesSame_2 (c_X8_leads l v) rfl rfl (by decide) rfl rfl (tm_gV tl_X8_89 ti_X8_leads ts_X8_leads tn_X8 tc_X8_leads)  rfl rfl rfl rfl (by decide +kernel) ⟨by decide, by decide⟩ (Nat.le_of_ble_eq_true rfl) ⟨by decide, by decide⟩ (fun r2 v1 _ => ?_)
  refine tg_iload_n 1 C0 dX8_makesSame_5 rfl rfl ?_
  refine tg_callVi (As := [.int r2, .int x1]) 0 2 C0 dX8_makesSame_6 (c_X8_valueIn l r2 x1 v1) rfl rfl (by decide) rfl rfl (tm_gV tl_X8_74 ti_X8_valueIn ts_X8_valueIn tn_X8 tc_X8_valueIn)  rfl rfl rfl rfl (by decide +kernel) ⟨by decide, by decide⟩ (Nat.le_of_ble_eq_true rfl) ⟨by decide, by decide⟩ (fun r4 v3 _ => ?_)
  refine tg_istore_n [(2, .int r4), (0, .ref (ad 0)), (1, .int x1)] C0 dX8_makesSame_9 rfl (by decide) rfl ?_
  refine tg_aload_n 1 C0 dX8_makesSame_10 rfl rfl ?_
  refine tg_iconst (x := 1) C0 dX8_makesSame_11 (by decide) ?_
  refine tg_aload_n 1 C0 dX8_makesSame_12 rfl rfl ?_
  refine tg_callVi (As := []) 0 0 C0 dX8_makesSame_13 (c_X8_leads l v3) rfl rfl (by decide) rfl rfl (tm_gV tl_X8_89 ti_X8_leads ts_X8_leads tn_X8 tc_X8_leads)  rfl rfl rfl rfl (by decide +kernel) ⟨by decide, by decide⟩ (Nat.le_of_ble_eq_true rfl) ⟨by decide, by decide⟩ (fun r6 v5 _ => ?_)
  refine tg_isub C0 dX8_makesSame_16 ?_
  refine tg_iload_n 2 C0 dX8_makesSame_17 rfl rfl ?_
  refine tg_iload_n 0 C0 dX8_makesSame_18 rfl rfl ?_
  refine tg_bipush (x := (-3)) C0 dX8_makesSame_19 (by decide) ?_
  refine tg_icmp_ne 28 C0 dX8_makesSame_21 (by decide) (fun _ => ?_) (fun _ => ?_)
  · refine tg_iload_n 0 C0 dX8_makesSame_28 rfl rfl ?_
    refine tg_sub [1, 2] rfl ?_
    exact w_X8_makesSame_29 C0 x1 r4 x1 (1 - r6) v5
  · refine tg_iconst (x := 0) C0 dX8_makesSame_24 (by decide) ?_
    refine tg_goto 29 C0 dX8_makesSame_25 (by decide) ?_
    refine tg_sub [1, 2] rfl ?_
    exact w_X8_makesSame_29 C0 x1 0 x1 (1 - r6) v5
theorem c_X8_makesSame (l : Launch) (x1 : Int32) (v : tmM) : tmMv tm_NWR tm_shR 13 l yX8_makesSame (Cond.code yX8_makesSame cX8_makesSame 3 none :: TMW) ({ frames := 3, cells := 0, slots := 0, locals := 67 } : Room) (fun ad => [.ref (ad 0), .int x1]) v (f_X8_makesSame x1 v) :=
  tmMv.of (cc := cX8_makesSame) (nL := 3) (by decide +kernel) rfl tm_NWR_ok (fun _ => Nat.le_of_ble_eq_true rfl) (fun p e s m args below meth c A D cy ad z C0 => w_X8_makesSame C0 x1 v)
-- ----- X8_staleIn
theorem dX8_staleIn_0 : decode cX8_staleIn 0 = .ok (.iconst 0, 1) := by decide +kernel
theorem dX8_staleIn_1 : decode cX8_staleIn 1 = .ok (.istore_n 2, 1) := by decide +kernel
theorem dX8_staleIn_2 : decode cX8_staleIn 2 = .ok (.iconst 0, 1) := by decide +kernel
theorem dX8_staleIn_3 : decode cX8_staleIn 3 = .ok (.istore_n 3, 1) := by decide +kernel
theorem dX8_staleIn_4 : decode cX8_staleIn 4 = .ok (.iload_n 3, 1) := by decide +kernel
theorem dX8_staleIn_5 : decode cX8_staleIn 5 = .ok (.aload_n 0, 1) := by decide +kernel
theorem dX8_staleIn_6 : decode cX8_staleIn 6 = .ok (.getfield 7, 3) := by decide +kernel
theorem dX8_staleIn_9 : decode cX8_staleIn 9 = .ok (.bipush 7, 2) := by decide +kernel
theorem dX8_staleIn_11 : decode cX8_staleIn 11 = .ok (.iaload, 1) := by decide +kernel
theorem dX8_staleIn_12 : decode cX8_staleIn 12 = .ok (.if_icmp .ge 33, 3) := by decide +kernel
theorem dX8_staleIn_15 : decode cX8_staleIn 15 = .ok (.iload_n 2, 1) := by decide +kernel
theorem dX8_staleIn_16 : decode cX8_staleIn 16 = .ok (.aload_n 0, 1) := by decide +kernel
theorem dX8_staleIn_17 : decode cX8_staleIn 17 = .ok (.getfield 7, 3) := by decide +kernel
theorem dX8_staleIn_20 : decode cX8_staleIn 20 = .ok (.sipush 131, 3) := by decide +kernel
theorem dX8_staleIn_23 : decode cX8_staleIn 23 = .ok (.iload_n 3, 1) := by decide +kernel
theorem dX8_staleIn_24 : decode cX8_staleIn 24 = .ok (.iadd, 1) := by decide +kernel
theorem dX8_staleIn_25 : decode cX8_staleIn 25 = .ok (.iaload, 1) := by decide +kernel
theorem dX8_staleIn_26 : decode cX8_staleIn 26 = .ok (.iconst 4, 1) := by decide +kernel
theorem dX8_staleIn_27 : decode cX8_staleIn 27 = .ok (.idiv, 1) := by decide +kernel
theorem dX8_staleIn_28 : decode cX8_staleIn 28 = .ok (.iload_n 1, 1) := by decide +kernel
theorem dX8_staleIn_29 : decode cX8_staleIn 29 = .ok (.if_icmp .ne 7, 3) := by decide +kernel
theorem dX8_staleIn_32 : decode cX8_staleIn 32 = .ok (.iconst 1, 1) := by decide +kernel
theorem dX8_staleIn_33 : decode cX8_staleIn 33 = .ok (.goto 4, 3) := by decide +kernel
theorem dX8_staleIn_36 : decode cX8_staleIn 36 = .ok (.iconst 0, 1) := by decide +kernel
theorem dX8_staleIn_37 : decode cX8_staleIn 37 = .ok (.iadd, 1) := by decide +kernel
theorem dX8_staleIn_38 : decode cX8_staleIn 38 = .ok (.istore_n 2, 1) := by decide +kernel
theorem dX8_staleIn_39 : decode cX8_staleIn 39 = .ok (.iinc 3 1, 3) := by decide +kernel
theorem dX8_staleIn_42 : decode cX8_staleIn 42 = .ok (.goto (-38), 3) := by decide +kernel
theorem dX8_staleIn_45 : decode cX8_staleIn 45 = .ok (.iload_n 2, 1) := by decide +kernel
theorem dX8_staleIn_46 : decode cX8_staleIn 46 = .ok (.ireturn, 1) := by decide +kernel
def f_X8_staleIn_37 (K0 : Int32 → tmM → Option (Int32 × tmM)) (L : Int32 → Int32 → Int32 → tmM → Option (Int32 × tmM)) (x1 x3 s0 s1 : Int32) (v : tmM) : Option (Int32 × tmM) := tm_lt (s1 + s0) fun y1 => L x1 y1 (x3 + 1) v
set_option maxRecDepth 100000 in
set_option maxHeartbeats 4000000 in
theorem w_X8_staleIn_37 {p : Program} {l : Launch} {e : Env} {s : State} {m : MethodId} {args : Array Value} {below : List Frame} {meth : Method} {c : Code} {D : va_G} {cy : Nat → ClassId} {ad : Nat → Nat} {A : Nat → Prop} {z : (Int32 × tmM)} {K0 : Int32 → tmM → Option (Int32 × tmM)} {L : Int32 → Int32 → Int32 → tmM → Option (Int32 × tmM)} (C0 : tmC p s m args meth c cX8_staleIn 4 (some .int) RX8 TMW tm_NWR D cy tm_shR ad 13 [] A) (hK0 : ∀ (a2 : Int32) (w : tmM), tmG p l e ({ frames := 0, cells := 0, slots := 0, locals := 0 } : Room) s m args below meth c 0 0 (MQ below (va_Qi (fun r u => z = (r, u)) (tmAt tm_shR 13 D cy ad A) A) args s 0 0 A) 4 D cy tm_shR ad 13 [] A z 45 [(2, .int a2)] [] w (K0 a2 w)) (hL : ∀ (a1 a2 a3 : Int32) (w : tmM), tmG p l e ({ frames := 0, cells := 0, slots := 0, locals := 0 } : Room) s m args below meth c 0 0 (MQ below (va_Qi (fun r u => z = (r, u)) (tmAt tm_shR 13 D cy ad A) A) args s 0 0 A) 4 D cy tm_shR ad 13 [] A z 4 [(0, .ref (ad 0)), (1, .int a1), (2, .int a2), (3, .int a3)] [] w (L a1 a2 a3 w)) (x1 x3 s0 s1 : Int32) (v : tmM) : tmG p l e ({ frames := 0, cells := 0, slots := 0, locals := 0 } : Room) s m args below meth c 0 0 (MQ below (va_Qi (fun r u => z = (r, u)) (tmAt tm_shR 13 D cy ad A) A) args s 0 0 A) 4 D cy tm_shR ad 13 [] A z 37 [(0, .ref (ad 0)), (1, .int x1), (3, .int x3)] [.int s0, .int s1] v (f_X8_staleIn_37 K0 L x1 x3 s0 s1 v) := by
  unfold f_X8_staleIn_37
  refine tg_iadd C0 dX8_staleIn_37 ?_
  refine tg_leti (fun y1 _ => ?_)
  refine tg_istore_n [(2, .int y1), (0, .ref (ad 0)), (1, .int x1), (3, .int x3)] C0 dX8_staleIn_38 rfl (by decide) rfl ?_
  refine tg_iinc [(3, .int (x3 + 1)), (2, .int y1), (0, .ref (ad 0)), (1, .int x1)] 3 C0 dX8_staleIn_39 rfl rfl (by decide) rfl ?_
  refine tg_goto 4 C0 dX8_staleIn_42 (by decide) ?_
  refine tg_sub [2, 3, 1, 0] rfl ?_
  exact hL x1 y1 (x3 + 1) v
def f_X8_staleIn_4b (K0 : Int32 → tmM → Option (Int32 × tmM)) (L : Int32 → Int32 → Int32 → tmM → Option (Int32 × tmM)) (x1 x2 x3 : Int32) (v : tmM) : Option (Int32 × tmM) := tm_g (tm_ix 7 491) ((if (v 1 (7 : Int32).toNatClampNeg) ≤ x3 then K0 x2 v else tm_g (tm_ix (131 + x3) 491) (tm_g (decide (¬ 4 = 0)) ((if ((v 1 (131 + x3).toNatClampNeg) / 4) = x1 then f_X8_staleIn_37 K0 L x1 x3 1 x2 v else f_X8_staleIn_37 K0 L x1 x3 0 x2 v)))))
set_option maxRecDepth 100000 in
set_option maxHeartbeats 4000000 in
theorem w_X8_staleIn_4b {p : Program} {l : Launch} {e : Env} {s : State} {m : MethodId} {args : Array Value} {below : List Frame} {meth : Method} {c : Code} {D : va_G} {cy : Nat → ClassId} {ad : Nat → Nat} {A : Nat → Prop} {z : (Int32 × tmM)} {K0 : Int32 → tmM → Option (Int32 × tmM)} {L : Int32 → Int32 → Int32 → tmM → Option (Int32 × tmM)} (C0 : tmC p s m args meth c cX8_staleIn 4 (some .int) RX8 TMW tm_NWR D cy tm_shR ad 13 [] A) (hK0 : ∀ (a2 : Int32) (w : tmM), tmG p l e ({ frames := 0, cells := 0, slots := 0, locals := 0 } : Room) s m args below meth c 0 0 (MQ below (va_Qi (fun r u => z = (r, u)) (tmAt tm_shR 13 D cy ad A) A) args s 0 0 A) 4 D cy tm_shR ad 13 [] A z 45 [(2, .int a2)] [] w (K0 a2 w)) (hL : ∀ (a1 a2 a3 : Int32) (w : tmM), tmG p l e ({ frames := 0, cells := 0, slots := 0, locals := 0 } : Room) s m args below meth c 0 0 (MQ below (va_Qi (fun r u => z = (r, u)) (tmAt tm_shR 13 D cy ad A) A) args s 0 0 A) 4 D cy tm_shR ad 13 [] A z 4 [(0, .ref (ad 0)), (1, .int a1), (2, .int a2), (3, .int a3)] [] w (L a1 a2 a3 w)) (x1 x2 x3 : Int32) (v : tmM) : tmG p l e ({ frames := 0, cells := 0, slots := 0, locals := 0 } : Room) s m args below meth c 0 0 (MQ below (va_Qi (fun r u => z = (r, u)) (tmAt tm_shR 13 D cy ad A) A) args s 0 0 A) 4 D cy tm_shR ad 13 [] A z 4 [(0, .ref (ad 0)), (1, .int x1), (2, .int x2), (3, .int x3)] [] v (f_X8_staleIn_4b K0 L x1 x2 x3 v) := by
  unfold f_X8_staleIn_4b
  refine tg_iload_n 3 C0 dX8_staleIn_4 rfl rfl ?_
  refine tg_aload_n 0 C0 dX8_staleIn_5 rfl rfl ?_
  refine tg_get 0 1 C0 dX8_staleIn_6 (by decide) rfl rfl tu_X8 (by decide) tf_X8_7 rfl rfl rfl ?_
  refine tg_bipush (x := 7) C0 dX8_staleIn_9 (by decide) ?_
  refine tg_iald 1 C0 dX8_staleIn_11 (by decide) rfl (fun _ => ?_)
  refine tg_icmp_ge 45 C0 dX8_staleIn_12 (by decide) (fun _ => ?_) (fun _ => ?_)
  · refine tg_sub [2] rfl ?_
    exact hK0 x2 v
  · refine tg_iload_n 2 C0 dX8_staleIn_15 rfl rfl ?_
    refine tg_aload_n 0 C0 dX8_staleIn_16 rfl rfl ?_
    refine tg_get 0 1 C0 dX8_staleIn_17 (by decide) rfl rfl tu_X8 (by decide) tf_X8_7 rfl rfl rfl ?_
    refine tg_sipush (x := 131) C0 dX8_staleIn_20 (by decide) ?_
    refine tg_iload_n 3 C0 dX8_staleIn_23 rfl rfl ?_
    refine tg_iadd C0 dX8_staleIn_24 ?_
    refine tg_iald 1 C0 dX8_staleIn_25 (by decide) rfl (fun _ => ?_)
    refine tg_iconst (x := 4) C0 dX8_staleIn_26 (by decide) ?_
    refine tg_idiv C0 dX8_staleIn_27 (fun _ => ?_)
    refine tg_iload_n 1 C0 dX8_staleIn_28 rfl rfl ?_
    refine tg_icmp_ne 36 C0 dX8_staleIn_29 (by decide) (fun _ => ?_) (fun _ => ?_)
    · refine tg_iconst (x := 0) C0 dX8_staleIn_36 (by decide) ?_
      refine tg_sub [0, 1, 3] rfl ?_
      exact w_X8_staleIn_37 C0 hK0 hL x1 x3 0 x2 v
    · refine tg_iconst (x := 1) C0 dX8_staleIn_32 (by decide) ?_
      refine tg_goto 37 C0 dX8_staleIn_33 (by decide) ?_
      refine tg_sub [0, 1, 3] rfl ?_
      exact w_X8_staleIn_37 C0 hK0 hL x1 x3 1 x2 v
def f_X8_staleIn_4 (K0 : Int32 → tmM → Option (Int32 × tmM)) : Nat → Int32 → Int32 → Int32 → tmM → Option (Int32 × tmM)
  | 0 => fun _ _ _ _ => none
  | n + 1 => f_X8_staleIn_4b K0 (f_X8_staleIn_4 K0 n)
theorem w_X8_staleIn_4 {p : Program} {l : Launch} {e : Env} {s : State} {m : MethodId} {args : Array Value} {below : List Frame} {meth : Method} {c : Code} {D : va_G} {cy : Nat → ClassId} {ad : Nat → Nat} {A : Nat → Prop} {z : (Int32 × tmM)} {K0 : Int32 → tmM → Option (Int32 × tmM)} (C0 : tmC p s m args meth c cX8_staleIn 4 (some .int) RX8 TMW tm_NWR D cy tm_shR ad 13 [] A) (hK0 : ∀ (a2 : Int32) (w : tmM), tmG p l e ({ frames := 0, cells := 0, slots := 0, locals := 0 } : Room) s m args below meth c 0 0 (MQ below (va_Qi (fun r u => z = (r, u)) (tmAt tm_shR 13 D cy ad A) A) args s 0 0 A) 4 D cy tm_shR ad 13 [] A z 45 [(2, .int a2)] [] w (K0 a2 w)) (nn : Nat) : ∀ (x1 x2 x3 : Int32) (v : tmM), tmG p l e ({ frames := 0, cells := 0, slots := 0, locals := 0 } : Room) s m args below meth c 0 0 (MQ below (va_Qi (fun r u => z = (r, u)) (tmAt tm_shR 13 D cy ad A) A) args s 0 0 A) 4 D cy tm_shR ad 13 [] A z 4 [(0, .ref (ad 0)), (1, .int x1), (2, .int x2), (3, .int x3)] [] v (f_X8_staleIn_4 K0 nn x1 x2 x3 v) := by
  induction nn with
  | zero => intro _ _ _ _; exact tg_none
  | succ n ih => intro x1 x2 x3 v; exact w_X8_staleIn_4b C0 hK0 ih x1 x2 x3 v
def f_X8_staleIn (x1 : Int32) (v : tmM) : Option (Int32 × tmM) := f_X8_staleIn_4 (fun x2 v3 => some (x2, v3)) 10000 x1 0 0 v
set_option maxRecDepth 100000 in
set_option maxHeartbeats 4000000 in
theorem w_X8_staleIn {p : Program} {l : Launch} {e : Env} {s : State} {m : MethodId} {args : Array Value} {below : List Frame} {meth : Method} {c : Code} {D : va_G} {cy : Nat → ClassId} {ad : Nat → Nat} {A : Nat → Prop} {z : (Int32 × tmM)} (C0 : tmC p s m args meth c cX8_staleIn 4 (some .int) RX8 TMW tm_NWR D cy tm_shR ad 13 [] A) (x1 : Int32) (v : tmM) : tmG p l e ({ frames := 0, cells := 0, slots := 0, locals := 0 } : Room) s m args below meth c 0 0 (MQ below (va_Qi (fun r u => z = (r, u)) (tmAt tm_shR 13 D cy ad A) A) args s 0 0 A) 4 D cy tm_shR ad 13 [] A z 0 [(0, .ref (ad 0)), (1, .int x1)] [] v (f_X8_staleIn x1 v) := by
  unfold f_X8_staleIn
  refine tg_iconst (x := 0) C0 dX8_staleIn_0 (by decide) ?_
  refine tg_istore_n [(2, .int 0), (0, .ref (ad 0)), (1, .int x1)] C0 dX8_staleIn_1 rfl (by decide) rfl ?_
  refine tg_iconst (x := 0) C0 dX8_staleIn_2 (by decide) ?_
  refine tg_istore_n [(3, .int 0), (2, .int 0), (0, .ref (ad 0)), (1, .int x1)] C0 dX8_staleIn_3 rfl (by decide) rfl ?_
  refine tg_sub [2, 3, 1, 0] rfl ?_
  refine w_X8_staleIn_4 C0 (fun x2 v3 => ?_) 10000 x1 0 0 v
  refine tg_iload_n 0 C0 dX8_staleIn_45 rfl rfl ?_
  exact tg_iret C0 dX8_staleIn_46
theorem c_X8_staleIn (l : Launch) (x1 : Int32) (v : tmM) : tmMi tm_NWR tm_shR 13 l yX8_staleIn (Cond.code yX8_staleIn cX8_staleIn 4 (some .int) :: TMW) ({ frames := 0, cells := 0, slots := 0, locals := 0 } : Room) (fun ad => [.ref (ad 0), .int x1]) v (f_X8_staleIn x1 v) :=
  tmMi.of (cc := cX8_staleIn) (nL := 4) (by decide +kernel) rfl tm_NWR_ok (fun _ => Nat.le_of_ble_eq_true rfl) (fun p e s m args below meth c A D cy ad z C0 => w_X8_staleIn C0 x1 v)
-- ----- X8_becomesPhase
theorem dX8_becomesPhase_0 : decode cX8_becomesPhase 0 = .ok (.aload_n 0, 1) := by decide +kernel
theorem dX8_becomesPhase_1 : decode cX8_becomesPhase 1 = .ok (.getfield 7, 3) := by decide +kernel
theorem dX8_becomesPhase_4 : decode cX8_becomesPhase 4 = .ok (.iconst 0, 1) := by decide +kernel
theorem dX8_becomesPhase_5 : decode cX8_becomesPhase 5 = .ok (.iload_n 1, 1) := by decide +kernel
theorem dX8_becomesPhase_6 : decode cX8_becomesPhase 6 = .ok (.iastore, 1) := by decide +kernel
theorem dX8_becomesPhase_7 : decode cX8_becomesPhase 7 = .ok (.aload_n 0, 1) := by decide +kernel
theorem dX8_becomesPhase_8 : decode cX8_becomesPhase 8 = .ok (.bipush 8, 2) := by decide +kernel
theorem dX8_becomesPhase_10 : decode cX8_becomesPhase 10 = .ok (.iload_n 1, 1) := by decide +kernel
theorem dX8_becomesPhase_11 : decode cX8_becomesPhase 11 = .ok (.invokevirtual 85, 3) := by decide +kernel
theorem dX8_becomesPhase_14 : decode cX8_becomesPhase 14 = .ok (.return_, 1) := by decide +kernel
def f_X8_becomesPhase (x1 : Int32) (v : tmM) : Option (Unit × tmM) := tm_g (tm_ix 0 491) (tm_lt (tm_up v 1 (0 : Int32).toNatClampNeg x1) fun v1 => tm_cl (f_X8_notes 8 x1 v1) fun _ v2 => some ((), v2))
set_option maxRecDepth 100000 in
set_option maxHeartbeats 4000000 in
theorem w_X8_becomesPhase {p : Program} {l : Launch} {e : Env} {s : State} {m : MethodId} {args : Array Value} {below : List Frame} {meth : Method} {c : Code} {D : va_G} {cy : Nat → ClassId} {ad : Nat → Nat} {A : Nat → Prop} {z : (Unit × tmM)} (C0 : tmC p s m args meth c cX8_becomesPhase 2 none RX8 TMW tm_NWR D cy tm_shR ad 13 [] A) (x1 : Int32) (v : tmM) : tmG p l e ({ frames := 1, cells := 0, slots := 0, locals := 23 } : Room) s m args below meth c 0 0 (MQ below (va_Qv (fun u => z = ((), u)) (tmAt tm_shR 13 D cy ad A) A) args s 0 0 A) 2 D cy tm_shR ad 13 [] A z 0 [(0, .ref (ad 0)), (1, .int x1)] [] v (f_X8_becomesPhase x1 v) := by
  unfold f_X8_becomesPhase
  refine tg_aload_n 0 C0 dX8_becomesPhase_0 rfl rfl ?_
  refine tg_get 0 1 C0 dX8_becomesPhase_1 (by decide) rfl rfl tu_X8 (by decide) tf_X8_7 rfl rfl rfl ?_
  refine tg_iconst (x := 0) C0 dX8_becomesPhase_4 (by decide) ?_
  refine tg_iload_n 1 C0 dX8_becomesPhase_5 rfl rfl ?_
  refine tg_iast 1 C0 dX8_becomesPhase_6 (by decide) rfl (fun _ => ?_)
  refine tg_letm (fun v1 _ => ?_)
  refine tg_aload_n 0 C0 dX8_becomesPhase_7 rfl rfl ?_
  refine tg_bipush (x := 8) C0 dX8_becomesPhase_8 (by decide) ?_
  refine tg_iload_n 1 C0 dX8_becomesPhase_10 rfl rfl ?_
  refine tg_callVv (As := [.int 8, .int x1]) 0 2 C0 dX8_becomesPhase_11 (c_X8_notes l 8 x1 v1) rfl rfl (by decide) rfl rfl (tm_gV tl_X8_85 ti_X8_notes ts_X8_notes tn_X8 tc_X8_notes)  rfl rfl rfl rfl (by decide +kernel) ⟨by decide, by decide⟩ (Nat.le_of_ble_eq_true rfl) ⟨by decide, by decide⟩ (fun v2 _ => ?_)
  exact tg_vret C0 dX8_becomesPhase_14
theorem c_X8_becomesPhase (l : Launch) (x1 : Int32) (v : tmM) : tmMv tm_NWR tm_shR 13 l yX8_becomesPhase (Cond.code yX8_becomesPhase cX8_becomesPhase 2 none :: TMW) ({ frames := 1, cells := 0, slots := 0, locals := 23 } : Room) (fun ad => [.ref (ad 0), .int x1]) v (f_X8_becomesPhase x1 v) :=
  tmMv.of (cc := cX8_becomesPhase) (nL := 2) (by decide +kernel) rfl tm_NWR_ok (fun _ => Nat.le_of_ble_eq_true rfl) (fun p e s m args below meth c A D cy ad z C0 => w_X8_becomesPhase C0 x1 v)
-- ----- X8_endsBoth
theorem dX8_endsBoth_0 : decode cX8_endsBoth 0 = .ok (.aload_n 0, 1) := by decide +kernel
theorem dX8_endsBoth_1 : decode cX8_endsBoth 1 = .ok (.getfield 7, 3) := by decide +kernel
theorem dX8_endsBoth_4 : decode cX8_endsBoth 4 = .ok (.bipush 7, 2) := by decide +kernel
theorem dX8_endsBoth_6 : decode cX8_endsBoth 6 = .ok (.iconst 0, 1) := by decide +kernel
theorem dX8_endsBoth_7 : decode cX8_endsBoth 7 = .ok (.iastore, 1) := by decide +kernel
theorem dX8_endsBoth_8 : decode cX8_endsBoth 8 = .ok (.aload_n 0, 1) := by decide +kernel
theorem dX8_endsBoth_9 : decode cX8_endsBoth 9 = .ok (.getfield 7, 3) := by decide +kernel
theorem dX8_endsBoth_12 : decode cX8_endsBoth 12 = .ok (.iconst 3, 1) := by decide +kernel
theorem dX8_endsBoth_13 : decode cX8_endsBoth 13 = .ok (.iconst 0, 1) := by decide +kernel
theorem dX8_endsBoth_14 : decode cX8_endsBoth 14 = .ok (.iastore, 1) := by decide +kernel
theorem dX8_endsBoth_15 : decode cX8_endsBoth 15 = .ok (.aload_n 0, 1) := by decide +kernel
theorem dX8_endsBoth_16 : decode cX8_endsBoth 16 = .ok (.getfield 7, 3) := by decide +kernel
theorem dX8_endsBoth_19 : decode cX8_endsBoth 19 = .ok (.iconst 4, 1) := by decide +kernel
theorem dX8_endsBoth_20 : decode cX8_endsBoth 20 = .ok (.iconst 0, 1) := by decide +kernel
theorem dX8_endsBoth_21 : decode cX8_endsBoth 21 = .ok (.iastore, 1) := by decide +kernel
theorem dX8_endsBoth_22 : decode cX8_endsBoth 22 = .ok (.return_, 1) := by decide +kernel
def f_X8_endsBoth (v : tmM) : Option (Unit × tmM) := tm_g (tm_ix 7 491) (tm_lt (tm_up v 1 (7 : Int32).toNatClampNeg 0) fun v1 => tm_g (tm_ix 3 491) (tm_lt (tm_up v1 1 (3 : Int32).toNatClampNeg 0) fun v2 => tm_g (tm_ix 4 491) (tm_lt (tm_up v2 1 (4 : Int32).toNatClampNeg 0) fun v3 => some ((), v3))))
set_option maxRecDepth 100000 in
set_option maxHeartbeats 4000000 in
theorem w_X8_endsBoth {p : Program} {l : Launch} {e : Env} {s : State} {m : MethodId} {args : Array Value} {below : List Frame} {meth : Method} {c : Code} {D : va_G} {cy : Nat → ClassId} {ad : Nat → Nat} {A : Nat → Prop} {z : (Unit × tmM)} (C0 : tmC p s m args meth c cX8_endsBoth 1 none RX8 TMW tm_NWR D cy tm_shR ad 13 [] A) (v : tmM) : tmG p l e ({ frames := 0, cells := 0, slots := 0, locals := 0 } : Room) s m args below meth c 0 0 (MQ below (va_Qv (fun u => z = ((), u)) (tmAt tm_shR 13 D cy ad A) A) args s 0 0 A) 1 D cy tm_shR ad 13 [] A z 0 [(0, .ref (ad 0))] [] v (f_X8_endsBoth v) := by
  unfold f_X8_endsBoth
  refine tg_aload_n 0 C0 dX8_endsBoth_0 rfl rfl ?_
  refine tg_get 0 1 C0 dX8_endsBoth_1 (by decide) rfl rfl tu_X8 (by decide) tf_X8_7 rfl rfl rfl ?_
  refine tg_bipush (x := 7) C0 dX8_endsBoth_4 (by decide) ?_
  refine tg_iconst (x := 0) C0 dX8_endsBoth_6 (by decide) ?_
  refine tg_iast 1 C0 dX8_endsBoth_7 (by decide) rfl (fun _ => ?_)
  refine tg_letm (fun v1 _ => ?_)
  refine tg_aload_n 0 C0 dX8_endsBoth_8 rfl rfl ?_
  refine tg_get 0 1 C0 dX8_endsBoth_9 (by decide) rfl rfl tu_X8 (by decide) tf_X8_7 rfl rfl rfl ?_
  refine tg_iconst (x := 3) C0 dX8_endsBoth_12 (by decide) ?_
  refine tg_iconst (x := 0) C0 dX8_endsBoth_13 (by decide) ?_
  refine tg_iast 1 C0 dX8_endsBoth_14 (by decide) rfl (fun _ => ?_)
  refine tg_letm (fun v2 _ => ?_)
  refine tg_aload_n 0 C0 dX8_endsBoth_15 rfl rfl ?_
  refine tg_get 0 1 C0 dX8_endsBoth_16 (by decide) rfl rfl tu_X8 (by decide) tf_X8_7 rfl rfl rfl ?_
  refine tg_iconst (x := 4) C0 dX8_endsBoth_19 (by decide) ?_
  refine tg_iconst (x := 0) C0 dX8_endsBoth_20 (by decide) ?_
  refine tg_iast 1 C0 dX8_endsBoth_21 (by decide) rfl (fun _ => ?_)
  refine tg_letm (fun v3 _ => ?_)
  exact tg_vret C0 dX8_endsBoth_22
theorem c_X8_endsBoth (l : Launch) (v : tmM) : tmMv tm_NWR tm_shR 13 l yX8_endsBoth (Cond.code yX8_endsBoth cX8_endsBoth 1 none :: TMW) ({ frames := 0, cells := 0, slots := 0, locals := 0 } : Room) (fun ad => [.ref (ad 0)]) v (f_X8_endsBoth v) :=
  tmMv.of (cc := cX8_endsBoth) (nL := 1) (by decide +kernel) rfl tm_NWR_ok (fun _ => Nat.le_of_ble_eq_true rfl) (fun p e s m args below meth c A D cy ad z C0 => w_X8_endsBoth C0 v)
-- ----- X8_keeps
theorem dX8_keeps_0 : decode cX8_keeps 0 = .ok (.aload_n 0, 1) := by decide +kernel
theorem dX8_keeps_1 : decode cX8_keeps 1 = .ok (.getfield 100, 3) := by decide +kernel
theorem dX8_keeps_4 : decode cX8_keeps 4 = .ok (.bipush 10, 2) := by decide +kernel
theorem dX8_keeps_6 : decode cX8_keeps 6 = .ok (.if_icmp .ne 44, 3) := by decide +kernel
theorem dX8_keeps_9 : decode cX8_keeps 9 = .ok (.iconst 0, 1) := by decide +kernel
theorem dX8_keeps_10 : decode cX8_keeps 10 = .ok (.istore_n 1, 1) := by decide +kernel
theorem dX8_keeps_11 : decode cX8_keeps 11 = .ok (.iload_n 1, 1) := by decide +kernel
theorem dX8_keeps_12 : decode cX8_keeps 12 = .ok (.sipush 4419, 3) := by decide +kernel
theorem dX8_keeps_15 : decode cX8_keeps 15 = .ok (.if_icmp .ge 25, 3) := by decide +kernel
theorem dX8_keeps_18 : decode cX8_keeps 18 = .ok (.aload_n 0, 1) := by decide +kernel
theorem dX8_keeps_19 : decode cX8_keeps 19 = .ok (.getfield 13, 3) := by decide +kernel
theorem dX8_keeps_22 : decode cX8_keeps 22 = .ok (.iload_n 1, 1) := by decide +kernel
theorem dX8_keeps_23 : decode cX8_keeps 23 = .ok (.aload_n 0, 1) := by decide +kernel
theorem dX8_keeps_24 : decode cX8_keeps 24 = .ok (.getfield 13, 3) := by decide +kernel
theorem dX8_keeps_27 : decode cX8_keeps 27 = .ok (.iload_n 1, 1) := by decide +kernel
theorem dX8_keeps_28 : decode cX8_keeps 28 = .ok (.sipush 491, 3) := by decide +kernel
theorem dX8_keeps_31 : decode cX8_keeps 31 = .ok (.iadd, 1) := by decide +kernel
theorem dX8_keeps_32 : decode cX8_keeps 32 = .ok (.iaload, 1) := by decide +kernel
theorem dX8_keeps_33 : decode cX8_keeps 33 = .ok (.iastore, 1) := by decide +kernel
theorem dX8_keeps_34 : decode cX8_keeps 34 = .ok (.iinc 1 1, 3) := by decide +kernel
theorem dX8_keeps_37 : decode cX8_keeps 37 = .ok (.goto (-26), 3) := by decide +kernel
theorem dX8_keeps_40 : decode cX8_keeps 40 = .ok (.aload_n 0, 1) := by decide +kernel
theorem dX8_keeps_41 : decode cX8_keeps 41 = .ok (.dup, 1) := by decide +kernel
theorem dX8_keeps_42 : decode cX8_keeps 42 = .ok (.getfield 100, 3) := by decide +kernel
theorem dX8_keeps_45 : decode cX8_keeps 45 = .ok (.iconst 1, 1) := by decide +kernel
theorem dX8_keeps_46 : decode cX8_keeps 46 = .ok (.isub, 1) := by decide +kernel
theorem dX8_keeps_47 : decode cX8_keeps 47 = .ok (.putfield 100, 3) := by decide +kernel
theorem dX8_keeps_50 : decode cX8_keeps 50 = .ok (.aload_n 0, 1) := by decide +kernel
theorem dX8_keeps_51 : decode cX8_keeps 51 = .ok (.getfield 7, 3) := by decide +kernel
theorem dX8_keeps_54 : decode cX8_keeps 54 = .ok (.iconst 0, 1) := by decide +kernel
theorem dX8_keeps_55 : decode cX8_keeps 55 = .ok (.aload_n 0, 1) := by decide +kernel
theorem dX8_keeps_56 : decode cX8_keeps 56 = .ok (.getfield 13, 3) := by decide +kernel
theorem dX8_keeps_59 : decode cX8_keeps 59 = .ok (.sipush 491, 3) := by decide +kernel
theorem dX8_keeps_62 : decode cX8_keeps 62 = .ok (.aload_n 0, 1) := by decide +kernel
theorem dX8_keeps_63 : decode cX8_keeps 63 = .ok (.getfield 100, 3) := by decide +kernel
theorem dX8_keeps_66 : decode cX8_keeps 66 = .ok (.imul, 1) := by decide +kernel
theorem dX8_keeps_67 : decode cX8_keeps 67 = .ok (.sipush 491, 3) := by decide +kernel
theorem dX8_keeps_70 : decode cX8_keeps 70 = .ok (.invokestatic 103, 3) := by decide +kernel
theorem dX8_keeps_73 : decode cX8_keeps 73 = .ok (.aload_n 0, 1) := by decide +kernel
theorem dX8_keeps_74 : decode cX8_keeps 74 = .ok (.dup, 1) := by decide +kernel
theorem dX8_keeps_75 : decode cX8_keeps 75 = .ok (.getfield 100, 3) := by decide +kernel
theorem dX8_keeps_78 : decode cX8_keeps 78 = .ok (.iconst 1, 1) := by decide +kernel
theorem dX8_keeps_79 : decode cX8_keeps 79 = .ok (.iadd, 1) := by decide +kernel
theorem dX8_keeps_80 : decode cX8_keeps 80 = .ok (.putfield 100, 3) := by decide +kernel
theorem dX8_keeps_83 : decode cX8_keeps 83 = .ok (.return_, 1) := by decide +kernel
theorem tf_X8_100 : Cond.fieldLink RX8 100 "TableMoveModel" (TX8 3).2.1 (TX8 3).2.2.1 ∈ TMW := tm_in 1554 (by decide +kernel) (by decide +kernel)
theorem tf_X8_13 : Cond.fieldLink RX8 13 "TableMoveModel" (TX8 2).2.1 (TX8 2).2.2.1 ∈ TMW := tm_in 1553 (by decide +kernel) (by decide +kernel)
theorem tc_X8_copies : Cond.code yX8_copies cX8_copies 6 none ∈ TMW := tm_in 1657 (by decide +kernel) (by decide +kernel)
theorem tl_X8_103 : Cond.methodLink RX8 103 yX8_copies ∈ TMW := tm_in 1655 (by decide +kernel) (by decide +kernel)
theorem tst_X8_copies : Cond.static yX8_copies ∈ TMW := tm_in 1656 (by decide +kernel) (by decide +kernel)
def f_X8_keeps_50 (v : tmM) : Option (Unit × tmM) := tm_cl (f_X8_copies 1 491 2 4910 0 (491 * (v 0 3)) 491 v) fun _ v1 => tm_lt (tm_up v1 0 3 ((v1 0 3) + 1)) fun v3 => some ((), v3)
set_option maxRecDepth 100000 in
set_option maxHeartbeats 4000000 in
theorem w_X8_keeps_50 {p : Program} {l : Launch} {e : Env} {s : State} {m : MethodId} {args : Array Value} {below : List Frame} {meth : Method} {c : Code} {D : va_G} {cy : Nat → ClassId} {ad : Nat → Nat} {A : Nat → Prop} {z : (Unit × tmM)} (C0 : tmC p s m args meth c cX8_keeps 2 none RX8 TMW tm_NWR D cy tm_shR ad 13 [] A) (v : tmM) : tmG p l e ({ frames := 1, cells := 0, slots := 0, locals := 25 } : Room) s m args below meth c 0 0 (MQ below (va_Qv (fun u => z = ((), u)) (tmAt tm_shR 13 D cy ad A) A) args s 0 0 A) 2 D cy tm_shR ad 13 [] A z 50 [(0, .ref (ad 0))] [] v (f_X8_keeps_50 v) := by
  unfold f_X8_keeps_50
  refine tg_aload_n 0 C0 dX8_keeps_50 rfl rfl ?_
  refine tg_get 0 1 C0 dX8_keeps_51 (by decide) rfl rfl tu_X8 (by decide) tf_X8_7 rfl rfl rfl ?_
  refine tg_iconst (x := 0) C0 dX8_keeps_54 (by decide) ?_
  refine tg_aload_n 0 C0 dX8_keeps_55 rfl rfl ?_
  refine tg_get 0 2 C0 dX8_keeps_56 (by decide) rfl rfl tu_X8 (by decide) tf_X8_13 rfl rfl rfl ?_
  refine tg_sipush (x := 491) C0 dX8_keeps_59 (by decide) ?_
  refine tg_aload_n 0 C0 dX8_keeps_62 rfl rfl ?_
  refine tg_get 0 3 C0 dX8_keeps_63 (by decide) rfl rfl tu_X8 (by decide) tf_X8_100 rfl rfl rfl ?_
  refine tg_imul C0 dX8_keeps_66 ?_
  refine tg_sipush (x := 491) C0 dX8_keeps_67 (by decide) ?_
  refine tg_callSv (As := [.ref (ad 1), .int 0, .ref (ad 2), .int (491 * (v 0 3)), .int 491]) 5 C0 dX8_keeps_70 (c_X8_copies l 1 491 2 4910 ⟨rfl, (by decide)⟩ ⟨rfl, (by decide)⟩ 0 (491 * (v 0 3)) 491 v) rfl rfl (tm_gc tc_X8_copies) tl_X8_103 tn_X8 tst_X8_copies  rfl rfl rfl rfl (by decide +kernel) ⟨by decide, by decide⟩ (Nat.le_of_ble_eq_true rfl) ⟨by decide, by decide⟩ (fun v1 _ => ?_)
  refine tg_aload_n 0 C0 dX8_keeps_73 rfl rfl ?_
  refine tg_dup C0 dX8_keeps_74 rfl ?_
  refine tg_get 0 3 C0 dX8_keeps_75 (by decide) rfl rfl tu_X8 (by decide) tf_X8_100 rfl rfl rfl ?_
  refine tg_iconst (x := 1) C0 dX8_keeps_78 (by decide) ?_
  refine tg_iadd C0 dX8_keeps_79 ?_
  refine tg_put 0 3 C0 dX8_keeps_80 (by decide) rfl rfl tu_X8 tyX8_ok nmX8 (by decide) tf_X8_100 rfl rfl rfl rfl rfl rfl ?_
  refine tg_letm (fun v3 _ => ?_)
  exact tg_vret C0 dX8_keeps_83
def f_X8_keeps_11b (K0 : tmM → Option (Unit × tmM)) (L : Int32 → tmM → Option (Unit × tmM)) (x1 : Int32) (v : tmM) : Option (Unit × tmM) := (if 4419 ≤ x1 then K0 v else tm_g (tm_ix (x1 + 491) 4910) (tm_g (tm_ix x1 4910) (tm_lt (tm_up v 2 x1.toNatClampNeg (v 2 (x1 + 491).toNatClampNeg)) fun v4 => L (x1 + 1) v4)))
set_option maxRecDepth 100000 in
set_option maxHeartbeats 4000000 in
theorem w_X8_keeps_11b {p : Program} {l : Launch} {e : Env} {s : State} {m : MethodId} {args : Array Value} {below : List Frame} {meth : Method} {c : Code} {D : va_G} {cy : Nat → ClassId} {ad : Nat → Nat} {A : Nat → Prop} {z : (Unit × tmM)} {K0 : tmM → Option (Unit × tmM)} {L : Int32 → tmM → Option (Unit × tmM)} (C0 : tmC p s m args meth c cX8_keeps 2 none RX8 TMW tm_NWR D cy tm_shR ad 13 [] A) (hK0 : ∀ (w : tmM), tmG p l e ({ frames := 1, cells := 0, slots := 0, locals := 25 } : Room) s m args below meth c 0 0 (MQ below (va_Qv (fun u => z = ((), u)) (tmAt tm_shR 13 D cy ad A) A) args s 0 0 A) 2 D cy tm_shR ad 13 [] A z 40 [(0, .ref (ad 0))] [] w (K0 w)) (hL : ∀ (a1 : Int32) (w : tmM), tmG p l e ({ frames := 1, cells := 0, slots := 0, locals := 25 } : Room) s m args below meth c 0 0 (MQ below (va_Qv (fun u => z = ((), u)) (tmAt tm_shR 13 D cy ad A) A) args s 0 0 A) 2 D cy tm_shR ad 13 [] A z 11 [(0, .ref (ad 0)), (1, .int a1)] [] w (L a1 w)) (x1 : Int32) (v : tmM) : tmG p l e ({ frames := 1, cells := 0, slots := 0, locals := 25 } : Room) s m args below meth c 0 0 (MQ below (va_Qv (fun u => z = ((), u)) (tmAt tm_shR 13 D cy ad A) A) args s 0 0 A) 2 D cy tm_shR ad 13 [] A z 11 [(0, .ref (ad 0)), (1, .int x1)] [] v (f_X8_keeps_11b K0 L x1 v) := by
  unfold f_X8_keeps_11b
  refine tg_iload_n 1 C0 dX8_keeps_11 rfl rfl ?_
  refine tg_sipush (x := 4419) C0 dX8_keeps_12 (by decide) ?_
  refine tg_icmp_ge 40 C0 dX8_keeps_15 (by decide) (fun _ => ?_) (fun _ => ?_)
  · refine tg_sub [0] rfl ?_
    exact hK0 v
  · refine tg_aload_n 0 C0 dX8_keeps_18 rfl rfl ?_
    refine tg_get 0 2 C0 dX8_keeps_19 (by decide) rfl rfl tu_X8 (by decide) tf_X8_13 rfl rfl rfl ?_
    refine tg_iload_n 1 C0 dX8_keeps_22 rfl rfl ?_
    refine tg_aload_n 0 C0 dX8_keeps_23 rfl rfl ?_
    refine tg_get 0 2 C0 dX8_keeps_24 (by decide) rfl rfl tu_X8 (by decide) tf_X8_13 rfl rfl rfl ?_
    refine tg_iload_n 1 C0 dX8_keeps_27 rfl rfl ?_
    refine tg_sipush (x := 491) C0 dX8_keeps_28 (by decide) ?_
    refine tg_iadd C0 dX8_keeps_31 ?_
    refine tg_iald 2 C0 dX8_keeps_32 (by decide) rfl (fun _ => ?_)
    refine tg_iast 2 C0 dX8_keeps_33 (by decide) rfl (fun _ => ?_)
    refine tg_letm (fun v4 _ => ?_)
    refine tg_iinc [(1, .int (x1 + 1)), (0, .ref (ad 0))] 1 C0 dX8_keeps_34 rfl rfl (by decide) rfl ?_
    refine tg_goto 11 C0 dX8_keeps_37 (by decide) ?_
    refine tg_sub [1, 0] rfl ?_
    exact hL (x1 + 1) v4
def f_X8_keeps_11 (K0 : tmM → Option (Unit × tmM)) : Nat → Int32 → tmM → Option (Unit × tmM)
  | 0 => fun _ _ => none
  | n + 1 => f_X8_keeps_11b K0 (f_X8_keeps_11 K0 n)
theorem w_X8_keeps_11 {p : Program} {l : Launch} {e : Env} {s : State} {m : MethodId} {args : Array Value} {below : List Frame} {meth : Method} {c : Code} {D : va_G} {cy : Nat → ClassId} {ad : Nat → Nat} {A : Nat → Prop} {z : (Unit × tmM)} {K0 : tmM → Option (Unit × tmM)} (C0 : tmC p s m args meth c cX8_keeps 2 none RX8 TMW tm_NWR D cy tm_shR ad 13 [] A) (hK0 : ∀ (w : tmM), tmG p l e ({ frames := 1, cells := 0, slots := 0, locals := 25 } : Room) s m args below meth c 0 0 (MQ below (va_Qv (fun u => z = ((), u)) (tmAt tm_shR 13 D cy ad A) A) args s 0 0 A) 2 D cy tm_shR ad 13 [] A z 40 [(0, .ref (ad 0))] [] w (K0 w)) (nn : Nat) : ∀ (x1 : Int32) (v : tmM), tmG p l e ({ frames := 1, cells := 0, slots := 0, locals := 25 } : Room) s m args below meth c 0 0 (MQ below (va_Qv (fun u => z = ((), u)) (tmAt tm_shR 13 D cy ad A) A) args s 0 0 A) 2 D cy tm_shR ad 13 [] A z 11 [(0, .ref (ad 0)), (1, .int x1)] [] v (f_X8_keeps_11 K0 nn x1 v) := by
  induction nn with
  | zero => intro _ _; exact tg_none
  | succ n ih => intro x1 v; exact w_X8_keeps_11b C0 hK0 ih x1 v
def f_X8_keeps (v : tmM) : Option (Unit × tmM) := (if (v 0 3) = 10 then f_X8_keeps_11 (fun v5 => tm_lt (tm_up v5 0 3 ((v5 0 3) - 1)) fun v6 => f_X8_keeps_50 v6) 10000 0 v else f_X8_keeps_50 v)
set_option maxRecDepth 100000 in
set_option maxHeartbeats 4000000 in
theorem w_X8_keeps {p : Program} {l : Launch} {e : Env} {s : State} {m : MethodId} {args : Array Value} {below : List Frame} {meth : Method} {c : Code} {D : va_G} {cy : Nat → ClassId} {ad : Nat → Nat} {A : Nat → Prop} {z : (Unit × tmM)} (C0 : tmC p s m args meth c cX8_keeps 2 none RX8 TMW tm_NWR D cy tm_shR ad 13 [] A) (v : tmM) : tmG p l e ({ frames := 1, cells := 0, slots := 0, locals := 25 } : Room) s m args below meth c 0 0 (MQ below (va_Qv (fun u => z = ((), u)) (tmAt tm_shR 13 D cy ad A) A) args s 0 0 A) 2 D cy tm_shR ad 13 [] A z 0 [(0, .ref (ad 0))] [] v (f_X8_keeps v) := by
  unfold f_X8_keeps
  refine tg_aload_n 0 C0 dX8_keeps_0 rfl rfl ?_
  refine tg_get 0 3 C0 dX8_keeps_1 (by decide) rfl rfl tu_X8 (by decide) tf_X8_100 rfl rfl rfl ?_
  refine tg_bipush (x := 10) C0 dX8_keeps_4 (by decide) ?_
  refine tg_icmp_ne 50 C0 dX8_keeps_6 (by decide) (fun _ => ?_) (fun _ => ?_)
  · exact w_X8_keeps_50 C0 v
  · refine tg_iconst (x := 0) C0 dX8_keeps_9 (by decide) ?_
    refine tg_istore_n [(1, .int 0), (0, .ref (ad 0))] C0 dX8_keeps_10 rfl (by decide) rfl ?_
    refine tg_sub [1, 0] rfl ?_
    refine w_X8_keeps_11 C0 (fun v5 => ?_) 10000 0 v
    refine tg_aload_n 0 C0 dX8_keeps_40 rfl rfl ?_
    refine tg_dup C0 dX8_keeps_41 rfl ?_
    refine tg_get 0 3 C0 dX8_keeps_42 (by decide) rfl rfl tu_X8 (by decide) tf_X8_100 rfl rfl rfl ?_
    refine tg_iconst (x := 1) C0 dX8_keeps_45 (by decide) ?_
    refine tg_isub C0 dX8_keeps_46 ?_
    refine tg_put 0 3 C0 dX8_keeps_47 (by decide) rfl rfl tu_X8 tyX8_ok nmX8 (by decide) tf_X8_100 rfl rfl rfl rfl rfl rfl ?_
    refine tg_letm (fun v6 _ => ?_)
    exact w_X8_keeps_50 C0 v6
theorem c_X8_keeps (l : Launch) (v : tmM) : tmMv tm_NWR tm_shR 13 l yX8_keeps (Cond.code yX8_keeps cX8_keeps 2 none :: TMW) ({ frames := 1, cells := 0, slots := 0, locals := 25 } : Room) (fun ad => [.ref (ad 0)]) v (f_X8_keeps v) :=
  tmMv.of (cc := cX8_keeps) (nL := 2) (by decide +kernel) rfl tm_NWR_ok (fun _ => Nat.le_of_ble_eq_true rfl) (fun p e s m args below meth c A D cy ad z C0 => w_X8_keeps C0 v)
-- ----- X8_refuses
theorem dX8_refuses_0 : decode cX8_refuses 0 = .ok (.aload_n 0, 1) := by decide +kernel
theorem dX8_refuses_1 : decode cX8_refuses 1 = .ok (.getfield 23, 3) := by decide +kernel
theorem dX8_refuses_4 : decode cX8_refuses 4 = .ok (.iload_n 1, 1) := by decide +kernel
theorem dX8_refuses_5 : decode cX8_refuses 5 = .ok (.dup2, 1) := by decide +kernel
theorem dX8_refuses_6 : decode cX8_refuses 6 = .ok (.iaload, 1) := by decide +kernel
theorem dX8_refuses_7 : decode cX8_refuses 7 = .ok (.iconst 1, 1) := by decide +kernel
theorem dX8_refuses_8 : decode cX8_refuses 8 = .ok (.iadd, 1) := by decide +kernel
theorem dX8_refuses_9 : decode cX8_refuses 9 = .ok (.iastore, 1) := by decide +kernel
theorem dX8_refuses_10 : decode cX8_refuses 10 = .ok (.iload_n 1, 1) := by decide +kernel
theorem dX8_refuses_11 : decode cX8_refuses 11 = .ok (.ireturn, 1) := by decide +kernel
theorem tf_X8_23 : Cond.fieldLink RX8 23 "TableMoveModel" (TX8 6).2.1 (TX8 6).2.2.1 ∈ TMW := tm_in 1557 (by decide +kernel) (by decide +kernel)
def f_X8_refuses (x1 : Int32) (v : tmM) : Option (Int32 × tmM) := tm_g (tm_ix x1 10) (tm_g (tm_ix x1 10) (tm_lt (tm_up v 5 x1.toNatClampNeg ((v 5 x1.toNatClampNeg) + 1)) fun v1 => some (x1, v1)))
set_option maxRecDepth 100000 in
set_option maxHeartbeats 4000000 in
theorem w_X8_refuses {p : Program} {l : Launch} {e : Env} {s : State} {m : MethodId} {args : Array Value} {below : List Frame} {meth : Method} {c : Code} {D : va_G} {cy : Nat → ClassId} {ad : Nat → Nat} {A : Nat → Prop} {z : (Int32 × tmM)} (C0 : tmC p s m args meth c cX8_refuses 2 (some .int) RX8 TMW tm_NWR D cy tm_shR ad 13 [] A) (x1 : Int32) (v : tmM) : tmG p l e ({ frames := 0, cells := 0, slots := 0, locals := 0 } : Room) s m args below meth c 0 0 (MQ below (va_Qi (fun r u => z = (r, u)) (tmAt tm_shR 13 D cy ad A) A) args s 0 0 A) 2 D cy tm_shR ad 13 [] A z 0 [(0, .ref (ad 0)), (1, .int x1)] [] v (f_X8_refuses x1 v) := by
  unfold f_X8_refuses
  refine tg_aload_n 0 C0 dX8_refuses_0 rfl rfl ?_
  refine tg_get 0 6 C0 dX8_refuses_1 (by decide) rfl rfl tu_X8 (by decide) tf_X8_23 rfl rfl rfl ?_
  refine tg_iload_n 1 C0 dX8_refuses_4 rfl rfl ?_
  refine tg_dup2 C0 dX8_refuses_5 ⟨rfl, rfl⟩ ?_
  refine tg_iald 5 C0 dX8_refuses_6 (by decide) rfl (fun _ => ?_)
  refine tg_iconst (x := 1) C0 dX8_refuses_7 (by decide) ?_
  refine tg_iadd C0 dX8_refuses_8 ?_
  refine tg_iast 5 C0 dX8_refuses_9 (by decide) rfl (fun _ => ?_)
  refine tg_letm (fun v1 _ => ?_)
  refine tg_iload_n 1 C0 dX8_refuses_10 rfl rfl ?_
  exact tg_iret C0 dX8_refuses_11
theorem c_X8_refuses (l : Launch) (x1 : Int32) (v : tmM) : tmMi tm_NWR tm_shR 13 l yX8_refuses (Cond.code yX8_refuses cX8_refuses 2 (some .int) :: TMW) ({ frames := 0, cells := 0, slots := 0, locals := 0 } : Room) (fun ad => [.ref (ad 0), .int x1]) v (f_X8_refuses x1 v) :=
  tmMi.of (cc := cX8_refuses) (nL := 2) (by decide +kernel) rfl tm_NWR_ok (fun _ => Nat.le_of_ble_eq_true rfl) (fun p e s m args below meth c A D cy ad z C0 => w_X8_refuses C0 x1 v)
-- ----- X8_does
theorem dX8_does_0 : decode cX8_does 0 = .ok (.aload_n 0, 1) := by decide +kernel
theorem dX8_does_1 : decode cX8_does 1 = .ok (.invokevirtual 107, 3) := by decide +kernel
theorem dX8_does_4 : decode cX8_does 4 = .ok (.aload_n 0, 1) := by decide +kernel
theorem dX8_does_5 : decode cX8_does 5 = .ok (.getfield 23, 3) := by decide +kernel
theorem dX8_does_8 : decode cX8_does 8 = .ok (.iconst 0, 1) := by decide +kernel
theorem dX8_does_9 : decode cX8_does 9 = .ok (.dup2, 1) := by decide +kernel
theorem dX8_does_10 : decode cX8_does 10 = .ok (.iaload, 1) := by decide +kernel
theorem dX8_does_11 : decode cX8_does 11 = .ok (.iconst 1, 1) := by decide +kernel
theorem dX8_does_12 : decode cX8_does 12 = .ok (.iadd, 1) := by decide +kernel
theorem dX8_does_13 : decode cX8_does 13 = .ok (.iastore, 1) := by decide +kernel
theorem dX8_does_14 : decode cX8_does 14 = .ok (.iconst 0, 1) := by decide +kernel
theorem dX8_does_15 : decode cX8_does 15 = .ok (.ireturn, 1) := by decide +kernel
theorem tl_X8_107 : Cond.methodLink RX8 107 yX8_keeps ∈ TMW := tm_in 1651 (by decide +kernel) (by decide +kernel)
theorem ti_X8_keeps : Cond.instanceMethod yX8_keeps ∈ TMW := tm_in 1653 (by decide +kernel) (by decide +kernel)
theorem ts_X8_keeps : Cond.selects RX8 yX8_keeps yX8_keeps ∈ TMW := tm_in 41 (by decide +kernel) (by decide +kernel)
theorem tc_X8_keeps : Cond.code yX8_keeps cX8_keeps 2 none ∈ TMW := tm_in 1654 (by decide +kernel) (by decide +kernel)
def f_X8_does (v : tmM) : Option (Int32 × tmM) := tm_cl (f_X8_keeps v) fun _ v1 => tm_g (tm_ix 0 10) (tm_g (tm_ix 0 10) (tm_lt (tm_up v1 5 (0 : Int32).toNatClampNeg ((v1 5 (0 : Int32).toNatClampNeg) + 1)) fun v3 => some (0, v3)))
set_option maxRecDepth 100000 in
set_option maxHeartbeats 4000000 in
theorem w_X8_does {p : Program} {l : Launch} {e : Env} {s : State} {m : MethodId} {args : Array Value} {below : List Frame} {meth : Method} {c : Code} {D : va_G} {cy : Nat → ClassId} {ad : Nat → Nat} {A : Nat → Prop} {z : (Int32 × tmM)} (C0 : tmC p s m args meth c cX8_does 1 (some .int) RX8 TMW tm_NWR D cy tm_shR ad 13 [] A) (v : tmM) : tmG p l e ({ frames := 2, cells := 0, slots := 0, locals := 46 } : Room) s m args below meth c 0 0 (MQ below (va_Qi (fun r u => z = (r, u)) (tmAt tm_shR 13 D cy ad A) A) args s 0 0 A) 1 D cy tm_shR ad 13 [] A z 0 [(0, .ref (ad 0))] [] v (f_X8_does v) := by
  unfold f_X8_does
  refine tg_aload_n 0 C0 dX8_does_0 rfl rfl ?_
  refine tg_callVv (As := []) 0 0 C0 dX8_does_1 (c_X8_keeps l v) rfl rfl (by decide) rfl rfl (tm_gV tl_X8_107 ti_X8_keeps ts_X8_keeps tn_X8 tc_X8_keeps)  rfl rfl rfl rfl (by decide +kernel) ⟨by decide, by decide⟩ (Nat.le_of_ble_eq_true rfl) ⟨by decide, by decide⟩ (fun v1 _ => ?_)
  refine tg_aload_n 0 C0 dX8_does_4 rfl rfl ?_
  refine tg_get 0 6 C0 dX8_does_5 (by decide) rfl rfl tu_X8 (by decide) tf_X8_23 rfl rfl rfl ?_
  refine tg_iconst (x := 0) C0 dX8_does_8 (by decide) ?_
  refine tg_dup2 C0 dX8_does_9 ⟨rfl, rfl⟩ ?_
  refine tg_iald 5 C0 dX8_does_10 (by decide) rfl (fun _ => ?_)
  refine tg_iconst (x := 1) C0 dX8_does_11 (by decide) ?_
  refine tg_iadd C0 dX8_does_12 ?_
  refine tg_iast 5 C0 dX8_does_13 (by decide) rfl (fun _ => ?_)
  refine tg_letm (fun v3 _ => ?_)
  refine tg_iconst (x := 0) C0 dX8_does_14 (by decide) ?_
  exact tg_iret C0 dX8_does_15
theorem c_X8_does (l : Launch) (v : tmM) : tmMi tm_NWR tm_shR 13 l yX8_does (Cond.code yX8_does cX8_does 1 (some .int) :: TMW) ({ frames := 2, cells := 0, slots := 0, locals := 46 } : Room) (fun ad => [.ref (ad 0)]) v (f_X8_does v) :=
  tmMi.of (cc := cX8_does) (nL := 1) (by decide +kernel) rfl tm_NWR_ok (fun _ => Nat.le_of_ble_eq_true rfl) (fun p e s m args below meth c A D cy ad z C0 => w_X8_does C0 v)
-- ----- X8_isForm
theorem dX8_isForm_0 : decode cX8_isForm 0 = .ok (.iload_n 0, 1) := by decide +kernel
theorem dX8_isForm_1 : decode cX8_isForm 1 = .ok (.iconst 1, 1) := by decide +kernel
theorem dX8_isForm_2 : decode cX8_isForm 2 = .ok (.if_icmp .ne 14, 3) := by decide +kernel
theorem dX8_isForm_5 : decode cX8_isForm 5 = .ok (.iload_n 1, 1) := by decide +kernel
theorem dX8_isForm_6 : decode cX8_isForm 6 = .ok (.iconst 0, 1) := by decide +kernel
theorem dX8_isForm_7 : decode cX8_isForm 7 = .ok (.sipush 999, 3) := by decide +kernel
theorem dX8_isForm_10 : decode cX8_isForm 10 = .ok (.invokestatic 63, 3) := by decide +kernel
theorem dX8_isForm_13 : decode cX8_isForm 13 = .ok (.goto 36, 3) := by decide +kernel
theorem dX8_isForm_16 : decode cX8_isForm 16 = .ok (.iload_n 0, 1) := by decide +kernel
theorem dX8_isForm_17 : decode cX8_isForm 17 = .ok (.iconst 2, 1) := by decide +kernel
theorem dX8_isForm_18 : decode cX8_isForm 18 = .ok (.if_icmp .ne 13, 3) := by decide +kernel
theorem dX8_isForm_21 : decode cX8_isForm 21 = .ok (.iload_n 1, 1) := by decide +kernel
theorem dX8_isForm_22 : decode cX8_isForm 22 = .ok (.iconst 1, 1) := by decide +kernel
theorem dX8_isForm_23 : decode cX8_isForm 23 = .ok (.bipush 9, 2) := by decide +kernel
theorem dX8_isForm_25 : decode cX8_isForm 25 = .ok (.invokestatic 63, 3) := by decide +kernel
theorem dX8_isForm_28 : decode cX8_isForm 28 = .ok (.goto 21, 3) := by decide +kernel
theorem dX8_isForm_31 : decode cX8_isForm 31 = .ok (.iload_n 0, 1) := by decide +kernel
theorem dX8_isForm_32 : decode cX8_isForm 32 = .ok (.iconst 0, 1) := by decide +kernel
theorem dX8_isForm_33 : decode cX8_isForm 33 = .ok (.iconst 3, 1) := by decide +kernel
theorem dX8_isForm_34 : decode cX8_isForm 34 = .ok (.invokestatic 63, 3) := by decide +kernel
theorem dX8_isForm_37 : decode cX8_isForm 37 = .ok (.ifCond .eq 11, 3) := by decide +kernel
theorem dX8_isForm_40 : decode cX8_isForm 40 = .ok (.iload_n 1, 1) := by decide +kernel
theorem dX8_isForm_41 : decode cX8_isForm 41 = .ok (.ifCond .ne 7, 3) := by decide +kernel
theorem dX8_isForm_44 : decode cX8_isForm 44 = .ok (.iconst 1, 1) := by decide +kernel
theorem dX8_isForm_45 : decode cX8_isForm 45 = .ok (.goto 4, 3) := by decide +kernel
theorem dX8_isForm_48 : decode cX8_isForm 48 = .ok (.iconst 0, 1) := by decide +kernel
theorem dX8_isForm_49 : decode cX8_isForm 49 = .ok (.ireturn, 1) := by decide +kernel
def f_X8_isForm (x0 x1 : Int32) (v : tmM) : Option (Int32 × tmM) := (if x0 = 1 then tm_cl (f_X8_in x1 0 999 v) fun r6 v5 => tm_g (tm_bi r6) (some (r6, v5)) else (if x0 = 2 then tm_cl (f_X8_in x1 1 9 v) fun r4 v3 => tm_g (tm_bi r4) (some (r4, v3)) else tm_cl (f_X8_in x0 0 3 v) fun r2 v1 => (if r2 = 0 then some (0, v1) else (if x1 = 0 then some (1, v1) else some (0, v1)))))
set_option maxRecDepth 100000 in
set_option maxHeartbeats 4000000 in
theorem w_X8_isForm {p : Program} {l : Launch} {e : Env} {s : State} {m : MethodId} {args : Array Value} {below : List Frame} {meth : Method} {c : Code} {D : va_G} {cy : Nat → ClassId} {ad : Nat → Nat} {A : Nat → Prop} {z : (Int32 × tmM)} (C0 : tmC p s m args meth c cX8_isForm 2 (some .boolean) RX8 TMW tm_NWR D cy tm_shR ad 13 [] A) (x0 x1 : Int32) (v : tmM) : tmG p l e ({ frames := 1, cells := 0, slots := 0, locals := 22 } : Room) s m args below meth c 0 0 (MQ below (va_Qi (fun r u => z = (r, u)) (tmAt tm_shR 13 D cy ad A) A) args s 0 0 A) 2 D cy tm_shR ad 13 [] A z 0 [(0, .int x0), (1, .int x1)] [] v (f_X8_isForm x0 x1 v) := by
  unfold f_X8_isForm
  refine tg_iload_n 0 C0 dX8_isForm_0 rfl rfl ?_
  refine tg_iconst (x := 1) C0 dX8_isForm_1 (by decide) ?_
  refine tg_icmp_ne 16 C0 dX8_isForm_2 (by decide) (fun _ => ?_) (fun _ => ?_)
  · refine tg_iload_n 0 C0 dX8_isForm_16 rfl rfl ?_
    refine tg_iconst (x := 2) C0 dX8_isForm_17 (by decide) ?_
    refine tg_icmp_ne 31 C0 dX8_isForm_18 (by decide) (fun _ => ?_) (fun _ => ?_)
    · refine tg_iload_n 0 C0 dX8_isForm_31 rfl rfl ?_
      refine tg_iconst (x := 0) C0 dX8_isForm_32 (by decide) ?_
      refine tg_iconst (x := 3) C0 dX8_isForm_33 (by decide) ?_
      refine tg_callSi (As := [.int x0, .int 0, .int 3]) 3 C0 dX8_isForm_34 (c_X8_in l x0 0 3 v) rfl rfl (tm_gc tc_X8_in) tl_X8_63 tn_X8 tst_X8_in  rfl rfl rfl rfl (by decide +kernel) ⟨by decide, by decide⟩ (Nat.le_of_ble_eq_true rfl) ⟨by decide, by decide⟩ (fun r2 v1 _ => ?_)
      refine tg_if_eq 48 C0 dX8_isForm_37 (by decide) (fun _ => ?_) (fun _ => ?_)
      · refine tg_iconst (x := 0) C0 dX8_isForm_48 (by decide) ?_
        exact tg_zret C0 dX8_isForm_49 rfl
      · refine tg_iload_n 1 C0 dX8_isForm_40 rfl rfl ?_
        refine tg_if_ne 48 C0 dX8_isForm_41 (by decide) (fun _ => ?_) (fun _ => ?_)
        · refine tg_iconst (x := 0) C0 dX8_isForm_48 (by decide) ?_
          exact tg_zret C0 dX8_isForm_49 rfl
        · refine tg_iconst (x := 1) C0 dX8_isForm_44 (by decide) ?_
          refine tg_goto 49 C0 dX8_isForm_45 (by decide) ?_
          exact tg_zret C0 dX8_isForm_49 rfl
    · refine tg_iload_n 1 C0 dX8_isForm_21 rfl rfl ?_
      refine tg_iconst (x := 1) C0 dX8_isForm_22 (by decide) ?_
      refine tg_bipush (x := 9) C0 dX8_isForm_23 (by decide) ?_
      refine tg_callSi (As := [.int x1, .int 1, .int 9]) 3 C0 dX8_isForm_25 (c_X8_in l x1 1 9 v) rfl rfl (tm_gc tc_X8_in) tl_X8_63 tn_X8 tst_X8_in  rfl rfl rfl rfl (by decide +kernel) ⟨by decide, by decide⟩ (Nat.le_of_ble_eq_true rfl) ⟨by decide, by decide⟩ (fun r4 v3 _ => ?_)
      refine tg_goto 49 C0 dX8_isForm_28 (by decide) ?_
      exact tg_bret C0 dX8_isForm_49
  · refine tg_iload_n 1 C0 dX8_isForm_5 rfl rfl ?_
    refine tg_iconst (x := 0) C0 dX8_isForm_6 (by decide) ?_
    refine tg_sipush (x := 999) C0 dX8_isForm_7 (by decide) ?_
    refine tg_callSi (As := [.int x1, .int 0, .int 999]) 3 C0 dX8_isForm_10 (c_X8_in l x1 0 999 v) rfl rfl (tm_gc tc_X8_in) tl_X8_63 tn_X8 tst_X8_in  rfl rfl rfl rfl (by decide +kernel) ⟨by decide, by decide⟩ (Nat.le_of_ble_eq_true rfl) ⟨by decide, by decide⟩ (fun r6 v5 _ => ?_)
    refine tg_goto 49 C0 dX8_isForm_13 (by decide) ?_
    exact tg_bret C0 dX8_isForm_49
theorem c_X8_isForm (l : Launch) (x0 x1 : Int32) (v : tmM) : tmMi tm_NWR tm_shR 13 l yX8_isForm (Cond.code yX8_isForm cX8_isForm 2 (some .boolean) :: TMW) ({ frames := 1, cells := 0, slots := 0, locals := 22 } : Room) (fun ad => [.int x0, .int x1]) v (f_X8_isForm x0 x1 v) :=
  tmMi.of (cc := cX8_isForm) (nL := 2) (by decide +kernel) rfl tm_NWR_ok (fun _ => Nat.le_of_ble_eq_true rfl) (fun p e s m args below meth c A D cy ad z C0 => w_X8_isForm C0 x0 x1 v)
-- ----- X8_setForm
theorem dX8_setForm_0 : decode cX8_setForm 0 = .ok (.aload_n 0, 1) := by decide +kernel
theorem dX8_setForm_1 : decode cX8_setForm 1 = .ok (.iload_n 1, 1) := by decide +kernel
theorem dX8_setForm_2 : decode cX8_setForm 2 = .ok (.iload_n 2, 1) := by decide +kernel
theorem dX8_setForm_3 : decode cX8_setForm 3 = .ok (.invokestatic 110, 3) := by decide +kernel
theorem dX8_setForm_6 : decode cX8_setForm 6 = .ok (.ifCond .ne 7, 3) := by decide +kernel
theorem dX8_setForm_9 : decode cX8_setForm 9 = .ok (.iconst 1, 1) := by decide +kernel
theorem dX8_setForm_10 : decode cX8_setForm 10 = .ok (.goto 17, 3) := by decide +kernel
theorem dX8_setForm_13 : decode cX8_setForm 13 = .ok (.aload_n 0, 1) := by decide +kernel
theorem dX8_setForm_14 : decode cX8_setForm 14 = .ok (.getfield 7, 3) := by decide +kernel
theorem dX8_setForm_17 : decode cX8_setForm 17 = .ok (.iconst 0, 1) := by decide +kernel
theorem dX8_setForm_18 : decode cX8_setForm 18 = .ok (.iaload, 1) := by decide +kernel
theorem dX8_setForm_19 : decode cX8_setForm 19 = .ok (.ifCond .eq 7, 3) := by decide +kernel
theorem dX8_setForm_22 : decode cX8_setForm 22 = .ok (.iconst 2, 1) := by decide +kernel
theorem dX8_setForm_23 : decode cX8_setForm 23 = .ok (.goto 4, 3) := by decide +kernel
theorem dX8_setForm_26 : decode cX8_setForm 26 = .ok (.iconst 0, 1) := by decide +kernel
theorem dX8_setForm_27 : decode cX8_setForm 27 = .ok (.putfield 56, 3) := by decide +kernel
theorem dX8_setForm_30 : decode cX8_setForm 30 = .ok (.aload_n 0, 1) := by decide +kernel
theorem dX8_setForm_31 : decode cX8_setForm 31 = .ok (.getfield 56, 3) := by decide +kernel
theorem dX8_setForm_34 : decode cX8_setForm 34 = .ok (.ifCond .le 4, 3) := by decide +kernel
theorem dX8_setForm_37 : decode cX8_setForm 37 = .ok (.return_, 1) := by decide +kernel
theorem dX8_setForm_38 : decode cX8_setForm 38 = .ok (.aload_n 0, 1) := by decide +kernel
theorem dX8_setForm_39 : decode cX8_setForm 39 = .ok (.invokevirtual 107, 3) := by decide +kernel
theorem dX8_setForm_42 : decode cX8_setForm 42 = .ok (.aload_n 0, 1) := by decide +kernel
theorem dX8_setForm_43 : decode cX8_setForm 43 = .ok (.getfield 7, 3) := by decide +kernel
theorem dX8_setForm_46 : decode cX8_setForm 46 = .ok (.iconst 1, 1) := by decide +kernel
theorem dX8_setForm_47 : decode cX8_setForm 47 = .ok (.iload_n 1, 1) := by decide +kernel
theorem dX8_setForm_48 : decode cX8_setForm 48 = .ok (.iastore, 1) := by decide +kernel
theorem dX8_setForm_49 : decode cX8_setForm 49 = .ok (.aload_n 0, 1) := by decide +kernel
theorem dX8_setForm_50 : decode cX8_setForm 50 = .ok (.getfield 7, 3) := by decide +kernel
theorem dX8_setForm_53 : decode cX8_setForm 53 = .ok (.iconst 2, 1) := by decide +kernel
theorem dX8_setForm_54 : decode cX8_setForm 54 = .ok (.iload_n 2, 1) := by decide +kernel
theorem dX8_setForm_55 : decode cX8_setForm 55 = .ok (.iastore, 1) := by decide +kernel
theorem dX8_setForm_56 : decode cX8_setForm 56 = .ok (.return_, 1) := by decide +kernel
theorem tc_X8_isForm : Cond.code yX8_isForm cX8_isForm 2 (some .boolean) ∈ TMW := tm_in 1647 (by decide +kernel) (by decide +kernel)
theorem tl_X8_110 : Cond.methodLink RX8 110 yX8_isForm ∈ TMW := tm_in 1645 (by decide +kernel) (by decide +kernel)
theorem tst_X8_isForm : Cond.static yX8_isForm ∈ TMW := tm_in 1646 (by decide +kernel) (by decide +kernel)
theorem tf_X8_56 : Cond.fieldLink RX8 56 "TableMoveModel" (TX8 0).2.1 (TX8 0).2.2.1 ∈ TMW := tm_in 1551 (by decide +kernel) (by decide +kernel)
def f_X8_setForm_27 (x1 x2 s0 : Int32) (v : tmM) : Option (Unit × tmM) := tm_lt (tm_up v 0 0 s0) fun v3 => (if (v3 0 0) ≤ 0 then tm_cl (f_X8_keeps v3) fun _ v4 => tm_g (tm_ix 1 491) (tm_lt (tm_up v4 1 (1 : Int32).toNatClampNeg x1) fun v6 => tm_g (tm_ix 2 491) (tm_lt (tm_up v6 1 (2 : Int32).toNatClampNeg x2) fun v7 => some ((), v7))) else some ((), v3))
set_option maxRecDepth 100000 in
set_option maxHeartbeats 4000000 in
theorem w_X8_setForm_27 {p : Program} {l : Launch} {e : Env} {s : State} {m : MethodId} {args : Array Value} {below : List Frame} {meth : Method} {c : Code} {D : va_G} {cy : Nat → ClassId} {ad : Nat → Nat} {A : Nat → Prop} {z : (Unit × tmM)} (C0 : tmC p s m args meth c cX8_setForm 3 none RX8 TMW tm_NWR D cy tm_shR ad 13 [] A) (x1 x2 s0 : Int32) (v : tmM) : tmG p l e ({ frames := 2, cells := 0, slots := 0, locals := 46 } : Room) s m args below meth c 0 0 (MQ below (va_Qv (fun u => z = ((), u)) (tmAt tm_shR 13 D cy ad A) A) args s 0 0 A) 3 D cy tm_shR ad 13 [] A z 27 [(0, .ref (ad 0)), (1, .int x1), (2, .int x2)] [.int s0, .ref (ad 0)] v (f_X8_setForm_27 x1 x2 s0 v) := by
  unfold f_X8_setForm_27
  refine tg_put 0 0 C0 dX8_setForm_27 (by decide) rfl rfl tu_X8 tyX8_ok nmX8 (by decide) tf_X8_56 rfl rfl rfl rfl rfl rfl ?_
  refine tg_letm (fun v3 _ => ?_)
  refine tg_aload_n 0 C0 dX8_setForm_30 rfl rfl ?_
  refine tg_get 0 0 C0 dX8_setForm_31 (by decide) rfl rfl tu_X8 (by decide) tf_X8_56 rfl rfl rfl ?_
  refine tg_if_le 38 C0 dX8_setForm_34 (by decide) (fun _ => ?_) (fun _ => ?_)
  · refine tg_aload_n 0 C0 dX8_setForm_38 rfl rfl ?_
    refine tg_callVv (As := []) 0 0 C0 dX8_setForm_39 (c_X8_keeps l v3) rfl rfl (by decide) rfl rfl (tm_gV tl_X8_107 ti_X8_keeps ts_X8_keeps tn_X8 tc_X8_keeps)  rfl rfl rfl rfl (by decide +kernel) ⟨by decide, by decide⟩ (Nat.le_of_ble_eq_true rfl) ⟨by decide, by decide⟩ (fun v4 _ => ?_)
    refine tg_aload_n 0 C0 dX8_setForm_42 rfl rfl ?_
    refine tg_get 0 1 C0 dX8_setForm_43 (by decide) rfl rfl tu_X8 (by decide) tf_X8_7 rfl rfl rfl ?_
    refine tg_iconst (x := 1) C0 dX8_setForm_46 (by decide) ?_
    refine tg_iload_n 1 C0 dX8_setForm_47 rfl rfl ?_
    refine tg_iast 1 C0 dX8_setForm_48 (by decide) rfl (fun _ => ?_)
    refine tg_letm (fun v6 _ => ?_)
    refine tg_aload_n 0 C0 dX8_setForm_49 rfl rfl ?_
    refine tg_get 0 1 C0 dX8_setForm_50 (by decide) rfl rfl tu_X8 (by decide) tf_X8_7 rfl rfl rfl ?_
    refine tg_iconst (x := 2) C0 dX8_setForm_53 (by decide) ?_
    refine tg_iload_n 2 C0 dX8_setForm_54 rfl rfl ?_
    refine tg_iast 1 C0 dX8_setForm_55 (by decide) rfl (fun _ => ?_)
    refine tg_letm (fun v7 _ => ?_)
    exact tg_vret C0 dX8_setForm_56
  · exact tg_vret C0 dX8_setForm_37
def f_X8_setForm (x1 x2 : Int32) (v : tmM) : Option (Unit × tmM) := tm_cl (f_X8_isForm x1 x2 v) fun r2 v1 => (if r2 = 0 then f_X8_setForm_27 x1 x2 1 v1 else tm_g (tm_ix 0 491) ((if (v1 1 (0 : Int32).toNatClampNeg) = 0 then f_X8_setForm_27 x1 x2 0 v1 else f_X8_setForm_27 x1 x2 2 v1)))
set_option maxRecDepth 100000 in
set_option maxHeartbeats 4000000 in
theorem w_X8_setForm {p : Program} {l : Launch} {e : Env} {s : State} {m : MethodId} {args : Array Value} {below : List Frame} {meth : Method} {c : Code} {D : va_G} {cy : Nat → ClassId} {ad : Nat → Nat} {A : Nat → Prop} {z : (Unit × tmM)} (C0 : tmC p s m args meth c cX8_setForm 3 none RX8 TMW tm_NWR D cy tm_shR ad 13 [] A) (x1 x2 : Int32) (v : tmM) : tmG p l e ({ frames := 2, cells := 0, slots := 0, locals := 46 } : Room) s m args below meth c 0 0 (MQ below (va_Qv (fun u => z = ((), u)) (tmAt tm_shR 13 D cy ad A) A) args s 0 0 A) 3 D cy tm_shR ad 13 [] A z 0 [(0, .ref (ad 0)), (1, .int x1), (2, .int x2)] [] v (f_X8_setForm x1 x2 v) := by
  unfold f_X8_setForm
  refine tg_aload_n 0 C0 dX8_setForm_0 rfl rfl ?_
  refine tg_iload_n 1 C0 dX8_setForm_1 rfl rfl ?_
  refine tg_iload_n 2 C0 dX8_setForm_2 rfl rfl ?_
  refine tg_callSi (As := [.int x1, .int x2]) 2 C0 dX8_setForm_3 (c_X8_isForm l x1 x2 v) rfl rfl (tm_gc tc_X8_isForm) tl_X8_110 tn_X8 tst_X8_isForm  rfl rfl rfl rfl (by decide +kernel) ⟨by decide, by decide⟩ (Nat.le_of_ble_eq_true rfl) ⟨by decide, by decide⟩ (fun r2 v1 _ => ?_)
  refine tg_if_ne 13 C0 dX8_setForm_6 (by decide) (fun _ => ?_) (fun _ => ?_)
  · refine tg_aload_n 0 C0 dX8_setForm_13 rfl rfl ?_
    refine tg_get 0 1 C0 dX8_setForm_14 (by decide) rfl rfl tu_X8 (by decide) tf_X8_7 rfl rfl rfl ?_
    refine tg_iconst (x := 0) C0 dX8_setForm_17 (by decide) ?_
    refine tg_iald 1 C0 dX8_setForm_18 (by decide) rfl (fun _ => ?_)
    refine tg_if_eq 26 C0 dX8_setForm_19 (by decide) (fun _ => ?_) (fun _ => ?_)
    · refine tg_iconst (x := 0) C0 dX8_setForm_26 (by decide) ?_
      exact w_X8_setForm_27 C0 x1 x2 0 v1
    · refine tg_iconst (x := 2) C0 dX8_setForm_22 (by decide) ?_
      refine tg_goto 27 C0 dX8_setForm_23 (by decide) ?_
      exact w_X8_setForm_27 C0 x1 x2 2 v1
  · refine tg_iconst (x := 1) C0 dX8_setForm_9 (by decide) ?_
    refine tg_goto 27 C0 dX8_setForm_10 (by decide) ?_
    exact w_X8_setForm_27 C0 x1 x2 1 v1
theorem c_X8_setForm (l : Launch) (x1 x2 : Int32) (v : tmM) : tmMv tm_NWR tm_shR 13 l yX8_setForm (Cond.code yX8_setForm cX8_setForm 3 none :: TMW) ({ frames := 2, cells := 0, slots := 0, locals := 46 } : Room) (fun ad => [.ref (ad 0), .int x1, .int x2]) v (f_X8_setForm x1 x2 v) :=
  tmMv.of (cc := cX8_setForm) (nL := 3) (by decide +kernel) rfl tm_NWR_ok (fun _ => Nat.le_of_ble_eq_true rfl) (fun p e s m args below meth c A D cy ad z C0 => w_X8_setForm C0 x1 x2 v)
-- ----- X8_setUp
theorem dX8_setUp_0 : decode cX8_setUp 0 = .ok (.aload_n 0, 1) := by decide +kernel
theorem dX8_setUp_1 : decode cX8_setUp 1 = .ok (.iload_n 1, 1) := by decide +kernel
theorem dX8_setUp_2 : decode cX8_setUp 2 = .ok (.iconst 0, 1) := by decide +kernel
theorem dX8_setUp_3 : decode cX8_setUp 3 = .ok (.iconst 1, 1) := by decide +kernel
theorem dX8_setUp_4 : decode cX8_setUp 4 = .ok (.invokestatic 63, 3) := by decide +kernel
theorem dX8_setUp_7 : decode cX8_setUp 7 = .ok (.ifCond .eq 7, 3) := by decide +kernel
theorem dX8_setUp_10 : decode cX8_setUp 10 = .ok (.iconst 0, 1) := by decide +kernel
theorem dX8_setUp_11 : decode cX8_setUp 11 = .ok (.goto 4, 3) := by decide +kernel
theorem dX8_setUp_14 : decode cX8_setUp 14 = .ok (.iconst 1, 1) := by decide +kernel
theorem dX8_setUp_15 : decode cX8_setUp 15 = .ok (.putfield 56, 3) := by decide +kernel
theorem dX8_setUp_18 : decode cX8_setUp 18 = .ok (.aload_n 0, 1) := by decide +kernel
theorem dX8_setUp_19 : decode cX8_setUp 19 = .ok (.getfield 56, 3) := by decide +kernel
theorem dX8_setUp_22 : decode cX8_setUp 22 = .ok (.ifCond .le 5, 3) := by decide +kernel
theorem dX8_setUp_25 : decode cX8_setUp 25 = .ok (.iconst 0, 1) := by decide +kernel
theorem dX8_setUp_26 : decode cX8_setUp 26 = .ok (.ireturn, 1) := by decide +kernel
theorem dX8_setUp_27 : decode cX8_setUp 27 = .ok (.aload_n 0, 1) := by decide +kernel
theorem dX8_setUp_28 : decode cX8_setUp 28 = .ok (.invokevirtual 107, 3) := by decide +kernel
theorem dX8_setUp_31 : decode cX8_setUp 31 = .ok (.aload_n 0, 1) := by decide +kernel
theorem dX8_setUp_32 : decode cX8_setUp 32 = .ok (.iload_n 1, 1) := by decide +kernel
theorem dX8_setUp_33 : decode cX8_setUp 33 = .ok (.invokevirtual 113, 3) := by decide +kernel
theorem dX8_setUp_36 : decode cX8_setUp 36 = .ok (.istore_n 3, 1) := by decide +kernel
theorem dX8_setUp_37 : decode cX8_setUp 37 = .ok (.aload_n 0, 1) := by decide +kernel
theorem dX8_setUp_38 : decode cX8_setUp 38 = .ok (.getfield 7, 3) := by decide +kernel
theorem dX8_setUp_41 : decode cX8_setUp 41 = .ok (.bipush 6, 2) := by decide +kernel
theorem dX8_setUp_43 : decode cX8_setUp 43 = .ok (.iload_n 2, 1) := by decide +kernel
theorem dX8_setUp_44 : decode cX8_setUp 44 = .ok (.ifCond .eq 17, 3) := by decide +kernel
theorem dX8_setUp_47 : decode cX8_setUp 47 = .ok (.aload_n 0, 1) := by decide +kernel
theorem dX8_setUp_48 : decode cX8_setUp 48 = .ok (.getfield 7, 3) := by decide +kernel
theorem dX8_setUp_51 : decode cX8_setUp 51 = .ok (.bipush 6, 2) := by decide +kernel
theorem dX8_setUp_53 : decode cX8_setUp 53 = .ok (.iaload, 1) := by decide +kernel
theorem dX8_setUp_54 : decode cX8_setUp 54 = .ok (.iconst 1, 1) := by decide +kernel
theorem dX8_setUp_55 : decode cX8_setUp 55 = .ok (.iload_n 1, 1) := by decide +kernel
theorem dX8_setUp_56 : decode cX8_setUp 56 = .ok (.ishl, 1) := by decide +kernel
theorem dX8_setUp_57 : decode cX8_setUp 57 = .ok (.ior, 1) := by decide +kernel
theorem dX8_setUp_58 : decode cX8_setUp 58 = .ok (.goto 16, 3) := by decide +kernel
theorem dX8_setUp_61 : decode cX8_setUp 61 = .ok (.aload_n 0, 1) := by decide +kernel
theorem dX8_setUp_62 : decode cX8_setUp 62 = .ok (.getfield 7, 3) := by decide +kernel
theorem dX8_setUp_65 : decode cX8_setUp 65 = .ok (.bipush 6, 2) := by decide +kernel
theorem dX8_setUp_67 : decode cX8_setUp 67 = .ok (.iaload, 1) := by decide +kernel
theorem dX8_setUp_68 : decode cX8_setUp 68 = .ok (.iconst 1, 1) := by decide +kernel
theorem dX8_setUp_69 : decode cX8_setUp 69 = .ok (.iload_n 1, 1) := by decide +kernel
theorem dX8_setUp_70 : decode cX8_setUp 70 = .ok (.ishl, 1) := by decide +kernel
theorem dX8_setUp_71 : decode cX8_setUp 71 = .ok (.iconst (-1), 1) := by decide +kernel
theorem dX8_setUp_72 : decode cX8_setUp 72 = .ok (.ixor, 1) := by decide +kernel
theorem dX8_setUp_73 : decode cX8_setUp 73 = .ok (.iand, 1) := by decide +kernel
theorem dX8_setUp_74 : decode cX8_setUp 74 = .ok (.iastore, 1) := by decide +kernel
theorem dX8_setUp_75 : decode cX8_setUp 75 = .ok (.iload_n 3, 1) := by decide +kernel
theorem dX8_setUp_76 : decode cX8_setUp 76 = .ok (.ireturn, 1) := by decide +kernel
theorem tl_X8_113 : Cond.methodLink RX8 113 yX8_isUp ∈ TMW := tm_in 1662 (by decide +kernel) (by decide +kernel)
theorem ti_X8_isUp : Cond.instanceMethod yX8_isUp ∈ TMW := tm_in 1664 (by decide +kernel) (by decide +kernel)
theorem ts_X8_isUp : Cond.selects RX8 yX8_isUp yX8_isUp ∈ TMW := tm_in 42 (by decide +kernel) (by decide +kernel)
theorem tc_X8_isUp : Cond.code yX8_isUp cX8_isUp 2 (some .boolean) ∈ TMW := tm_in 1665 (by decide +kernel) (by decide +kernel)
def f_X8_setUp_15 (x1 x2 s0 : Int32) (v : tmM) : Option (Int32 × tmM) := tm_lt (tm_up v 0 0 s0) fun v3 => (if (v3 0 0) ≤ 0 then tm_cl (f_X8_keeps v3) fun _ v4 => tm_cl (f_X8_isUp x1 v4) fun r7 v6 => (if x2 = 0 then tm_g (tm_ix 6 491) (tm_g (tm_ix 6 491) (tm_lt (tm_up v6 1 (6 : Int32).toNatClampNeg ((v6 1 (6 : Int32).toNatClampNeg) &&& ((1 <<< (x1 &&& 31)) ^^^ (-1)))) fun v8 => tm_g (tm_bi r7) (some (r7, v8)))) else tm_g (tm_ix 6 491) (tm_g (tm_ix 6 491) (tm_lt (tm_up v6 1 (6 : Int32).toNatClampNeg ((v6 1 (6 : Int32).toNatClampNeg) ||| (1 <<< (x1 &&& 31)))) fun v9 => tm_g (tm_bi r7) (some (r7, v9))))) else some (0, v3))
set_option maxRecDepth 100000 in
set_option maxHeartbeats 4000000 in
theorem w_X8_setUp_15 {p : Program} {l : Launch} {e : Env} {s : State} {m : MethodId} {args : Array Value} {below : List Frame} {meth : Method} {c : Code} {D : va_G} {cy : Nat → ClassId} {ad : Nat → Nat} {A : Nat → Prop} {z : (Int32 × tmM)} (C0 : tmC p s m args meth c cX8_setUp 4 (some .boolean) RX8 TMW tm_NWR D cy tm_shR ad 13 [] A) (x1 x2 s0 : Int32) (v : tmM) : tmG p l e ({ frames := 2, cells := 0, slots := 0, locals := 46 } : Room) s m args below meth c 0 0 (MQ below (va_Qi (fun r u => z = (r, u)) (tmAt tm_shR 13 D cy ad A) A) args s 0 0 A) 4 D cy tm_shR ad 13 [] A z 15 [(0, .ref (ad 0)), (1, .int x1), (2, .int x2)] [.int s0, .ref (ad 0)] v (f_X8_setUp_15 x1 x2 s0 v) := by
  unfold f_X8_setUp_15
  refine tg_put 0 0 C0 dX8_setUp_15 (by decide) rfl rfl tu_X8 tyX8_ok nmX8 (by decide) tf_X8_56 rfl rfl rfl rfl rfl rfl ?_
  refine tg_letm (fun v3 _ => ?_)
  refine tg_aload_n 0 C0 dX8_setUp_18 rfl rfl ?_
  refine tg_get 0 0 C0 dX8_setUp_19 (by decide) rfl rfl tu_X8 (by decide) tf_X8_56 rfl rfl rfl ?_
  refine tg_if_le 27 C0 dX8_setUp_22 (by decide) (fun _ => ?_) (fun _ => ?_)
  · refine tg_aload_n 0 C0 dX8_setUp_27 rfl rfl ?_
    refine tg_callVv (As := []) 0 0 C0 dX8_setUp_28 (c_X8_keeps l v3) rfl rfl (by decide) rfl rfl (tm_gV tl_X8_107 ti_X8_keeps ts_X8_keeps tn_X8 tc_X8_keeps)  rfl rfl rfl rfl (by decide +kernel) ⟨by decide, by decide⟩ (Nat.le_of_ble_eq_true rfl) ⟨by decide, by decide⟩ (fun v4 _ => ?_)
    refine tg_aload_n 0 C0 dX8_setUp_31 rfl rfl ?_
    refine tg_iload_n 1 C0 dX8_setUp_32 rfl rfl ?_
    refine tg_callVi (As := [.int x1]) 0 1 C0 dX8_setUp_33 (c_X8_isUp l x1 v4) rfl rfl (by decide) rfl rfl (tm_gV tl_X8_113 ti_X8_isUp ts_X8_isUp tn_X8 tc_X8_isUp)  rfl rfl rfl rfl (by decide +kernel) ⟨by decide, by decide⟩ (Nat.le_of_ble_eq_true rfl) ⟨by decide, by decide⟩ (fun r7 v6 _ => ?_)
    refine tg_istore_n [(3, .int r7), (0, .ref (ad 0)), (1, .int x1), (2, .int x2)] C0 dX8_setUp_36 rfl (by decide) rfl ?_
    refine tg_aload_n 1 C0 dX8_setUp_37 rfl rfl ?_
    refine tg_get 0 1 C0 dX8_setUp_38 (by decide) rfl rfl tu_X8 (by decide) tf_X8_7 rfl rfl rfl ?_
    refine tg_bipush (x := 6) C0 dX8_setUp_41 (by decide) ?_
    refine tg_iload_n 3 C0 dX8_setUp_43 rfl rfl ?_
    refine tg_if_eq 61 C0 dX8_setUp_44 (by decide) (fun _ => ?_) (fun _ => ?_)
    · refine tg_aload_n 1 C0 dX8_setUp_61 rfl rfl ?_
      refine tg_get 0 1 C0 dX8_setUp_62 (by decide) rfl rfl tu_X8 (by decide) tf_X8_7 rfl rfl rfl ?_
      refine tg_bipush (x := 6) C0 dX8_setUp_65 (by decide) ?_
      refine tg_iald 1 C0 dX8_setUp_67 (by decide) rfl (fun _ => ?_)
      refine tg_iconst (x := 1) C0 dX8_setUp_68 (by decide) ?_
      refine tg_iload_n 2 C0 dX8_setUp_69 rfl rfl ?_
      refine tg_ishl C0 dX8_setUp_70 ?_
      refine tg_iconst (x := (-1)) C0 dX8_setUp_71 (by decide) ?_
      refine tg_ixor C0 dX8_setUp_72 ?_
      refine tg_iand C0 dX8_setUp_73 ?_
      refine tg_iast 1 C0 dX8_setUp_74 (by decide) rfl (fun _ => ?_)
      refine tg_letm (fun v8 _ => ?_)
      refine tg_iload_n 0 C0 dX8_setUp_75 rfl rfl ?_
      exact tg_bret C0 dX8_setUp_76
    · refine tg_aload_n 1 C0 dX8_setUp_47 rfl rfl ?_
      refine tg_get 0 1 C0 dX8_setUp_48 (by decide) rfl rfl tu_X8 (by decide) tf_X8_7 rfl rfl rfl ?_
      refine tg_bipush (x := 6) C0 dX8_setUp_51 (by decide) ?_
      refine tg_iald 1 C0 dX8_setUp_53 (by decide) rfl (fun _ => ?_)
      refine tg_iconst (x := 1) C0 dX8_setUp_54 (by decide) ?_
      refine tg_iload_n 2 C0 dX8_setUp_55 rfl rfl ?_
      refine tg_ishl C0 dX8_setUp_56 ?_
      refine tg_ior C0 dX8_setUp_57 ?_
      refine tg_goto 74 C0 dX8_setUp_58 (by decide) ?_
      refine tg_iast 1 C0 dX8_setUp_74 (by decide) rfl (fun _ => ?_)
      refine tg_letm (fun v9 _ => ?_)
      refine tg_iload_n 0 C0 dX8_setUp_75 rfl rfl ?_
      exact tg_bret C0 dX8_setUp_76
  · refine tg_iconst (x := 0) C0 dX8_setUp_25 (by decide) ?_
    exact tg_zret C0 dX8_setUp_26 rfl
def f_X8_setUp (x1 x2 : Int32) (v : tmM) : Option (Int32 × tmM) := tm_cl (f_X8_in x1 0 1 v) fun r2 v1 => (if r2 = 0 then f_X8_setUp_15 x1 x2 1 v1 else f_X8_setUp_15 x1 x2 0 v1)
set_option maxRecDepth 100000 in
set_option maxHeartbeats 4000000 in
theorem w_X8_setUp {p : Program} {l : Launch} {e : Env} {s : State} {m : MethodId} {args : Array Value} {below : List Frame} {meth : Method} {c : Code} {D : va_G} {cy : Nat → ClassId} {ad : Nat → Nat} {A : Nat → Prop} {z : (Int32 × tmM)} (C0 : tmC p s m args meth c cX8_setUp 4 (some .boolean) RX8 TMW tm_NWR D cy tm_shR ad 13 [] A) (x1 x2 : Int32) (v : tmM) : tmG p l e ({ frames := 2, cells := 0, slots := 0, locals := 46 } : Room) s m args below meth c 0 0 (MQ below (va_Qi (fun r u => z = (r, u)) (tmAt tm_shR 13 D cy ad A) A) args s 0 0 A) 4 D cy tm_shR ad 13 [] A z 0 [(0, .ref (ad 0)), (1, .int x1), (2, .int x2)] [] v (f_X8_setUp x1 x2 v) := by
  unfold f_X8_setUp
  refine tg_aload_n 0 C0 dX8_setUp_0 rfl rfl ?_
  refine tg_iload_n 1 C0 dX8_setUp_1 rfl rfl ?_
  refine tg_iconst (x := 0) C0 dX8_setUp_2 (by decide) ?_
  refine tg_iconst (x := 1) C0 dX8_setUp_3 (by decide) ?_
  refine tg_callSi (As := [.int x1, .int 0, .int 1]) 3 C0 dX8_setUp_4 (c_X8_in l x1 0 1 v) rfl rfl (tm_gc tc_X8_in) tl_X8_63 tn_X8 tst_X8_in  rfl rfl rfl rfl (by decide +kernel) ⟨by decide, by decide⟩ (Nat.le_of_ble_eq_true rfl) ⟨by decide, by decide⟩ (fun r2 v1 _ => ?_)
  refine tg_if_eq 14 C0 dX8_setUp_7 (by decide) (fun _ => ?_) (fun _ => ?_)
  · refine tg_iconst (x := 1) C0 dX8_setUp_14 (by decide) ?_
    exact w_X8_setUp_15 C0 x1 x2 1 v1
  · refine tg_iconst (x := 0) C0 dX8_setUp_10 (by decide) ?_
    refine tg_goto 15 C0 dX8_setUp_11 (by decide) ?_
    exact w_X8_setUp_15 C0 x1 x2 0 v1
theorem c_X8_setUp (l : Launch) (x1 x2 : Int32) (v : tmM) : tmMi tm_NWR tm_shR 13 l yX8_setUp (Cond.code yX8_setUp cX8_setUp 4 (some .boolean) :: TMW) ({ frames := 2, cells := 0, slots := 0, locals := 46 } : Room) (fun ad => [.ref (ad 0), .int x1, .int x2]) v (f_X8_setUp x1 x2 v) :=
  tmMi.of (cc := cX8_setUp) (nL := 4) (by decide +kernel) rfl tm_NWR_ok (fun _ => Nat.le_of_ble_eq_true rfl) (fun p e s m args below meth c A D cy ad z C0 => w_X8_setUp C0 x1 x2 v)
-- ----- X8_isKey
theorem dX8_isKey_0 : decode cX8_isKey 0 = .ok (.iload_n 0, 1) := by decide +kernel
theorem dX8_isKey_1 : decode cX8_isKey 1 = .ok (.iconst 0, 1) := by decide +kernel
theorem dX8_isKey_2 : decode cX8_isKey 2 = .ok (.bipush 59, 2) := by decide +kernel
theorem dX8_isKey_4 : decode cX8_isKey 4 = .ok (.invokestatic 63, 3) := by decide +kernel
theorem dX8_isKey_7 : decode cX8_isKey 7 = .ok (.ireturn, 1) := by decide +kernel
def f_X8_isKey (x0 : Int32) (v : tmM) : Option (Int32 × tmM) := tm_cl (f_X8_in x0 0 59 v) fun r2 v1 => tm_g (tm_bi r2) (some (r2, v1))
set_option maxRecDepth 100000 in
set_option maxHeartbeats 4000000 in
theorem w_X8_isKey {p : Program} {l : Launch} {e : Env} {s : State} {m : MethodId} {args : Array Value} {below : List Frame} {meth : Method} {c : Code} {D : va_G} {cy : Nat → ClassId} {ad : Nat → Nat} {A : Nat → Prop} {z : (Int32 × tmM)} (C0 : tmC p s m args meth c cX8_isKey 1 (some .boolean) RX8 TMW tm_NWR D cy tm_shR ad 13 [] A) (x0 : Int32) (v : tmM) : tmG p l e ({ frames := 1, cells := 0, slots := 0, locals := 22 } : Room) s m args below meth c 0 0 (MQ below (va_Qi (fun r u => z = (r, u)) (tmAt tm_shR 13 D cy ad A) A) args s 0 0 A) 1 D cy tm_shR ad 13 [] A z 0 [(0, .int x0)] [] v (f_X8_isKey x0 v) := by
  unfold f_X8_isKey
  refine tg_iload_n 0 C0 dX8_isKey_0 rfl rfl ?_
  refine tg_iconst (x := 0) C0 dX8_isKey_1 (by decide) ?_
  refine tg_bipush (x := 59) C0 dX8_isKey_2 (by decide) ?_
  refine tg_callSi (As := [.int x0, .int 0, .int 59]) 3 C0 dX8_isKey_4 (c_X8_in l x0 0 59 v) rfl rfl (tm_gc tc_X8_in) tl_X8_63 tn_X8 tst_X8_in  rfl rfl rfl rfl (by decide +kernel) ⟨by decide, by decide⟩ (Nat.le_of_ble_eq_true rfl) ⟨by decide, by decide⟩ (fun r2 v1 _ => ?_)
  exact tg_bret C0 dX8_isKey_7
theorem c_X8_isKey (l : Launch) (x0 : Int32) (v : tmM) : tmMi tm_NWR tm_shR 13 l yX8_isKey (Cond.code yX8_isKey cX8_isKey 1 (some .boolean) :: TMW) ({ frames := 1, cells := 0, slots := 0, locals := 22 } : Room) (fun ad => [.int x0]) v (f_X8_isKey x0 v) :=
  tmMi.of (cc := cX8_isKey) (nL := 1) (by decide +kernel) rfl tm_NWR_ok (fun _ => Nat.le_of_ble_eq_true rfl) (fun p e s m args below meth c A D cy ad z C0 => w_X8_isKey C0 x0 v)
-- ----- X8_damage
theorem dX8_damage_0 : decode cX8_damage 0 = .ok (.aload_n 0, 1) := by decide +kernel
theorem dX8_damage_1 : decode cX8_damage 1 = .ok (.iload_n 1, 1) := by decide +kernel
theorem dX8_damage_2 : decode cX8_damage 2 = .ok (.invokestatic 116, 3) := by decide +kernel
theorem dX8_damage_5 : decode cX8_damage 5 = .ok (.ifCond .ne 7, 3) := by decide +kernel
theorem dX8_damage_8 : decode cX8_damage 8 = .ok (.iconst 1, 1) := by decide +kernel
theorem dX8_damage_9 : decode cX8_damage 9 = .ok (.goto 32, 3) := by decide +kernel
theorem dX8_damage_12 : decode cX8_damage 12 = .ok (.iload_n 2, 1) := by decide +kernel
theorem dX8_damage_13 : decode cX8_damage 13 = .ok (.iconst (-1), 1) := by decide +kernel
theorem dX8_damage_14 : decode cX8_damage 14 = .ok (.sipush 9999, 3) := by decide +kernel
theorem dX8_damage_17 : decode cX8_damage 17 = .ok (.invokestatic 63, 3) := by decide +kernel
theorem dX8_damage_20 : decode cX8_damage 20 = .ok (.ifCond .ne 7, 3) := by decide +kernel
theorem dX8_damage_23 : decode cX8_damage 23 = .ok (.iconst 2, 1) := by decide +kernel
theorem dX8_damage_24 : decode cX8_damage 24 = .ok (.goto 17, 3) := by decide +kernel
theorem dX8_damage_27 : decode cX8_damage 27 = .ok (.aload_n 0, 1) := by decide +kernel
theorem dX8_damage_28 : decode cX8_damage 28 = .ok (.getfield 7, 3) := by decide +kernel
theorem dX8_damage_31 : decode cX8_damage 31 = .ok (.iconst 0, 1) := by decide +kernel
theorem dX8_damage_32 : decode cX8_damage 32 = .ok (.iaload, 1) := by decide +kernel
theorem dX8_damage_33 : decode cX8_damage 33 = .ok (.ifCond .ne 7, 3) := by decide +kernel
theorem dX8_damage_36 : decode cX8_damage 36 = .ok (.iconst 3, 1) := by decide +kernel
theorem dX8_damage_37 : decode cX8_damage 37 = .ok (.goto 4, 3) := by decide +kernel
theorem dX8_damage_40 : decode cX8_damage 40 = .ok (.iconst 0, 1) := by decide +kernel
theorem dX8_damage_41 : decode cX8_damage 41 = .ok (.putfield 56, 3) := by decide +kernel
theorem dX8_damage_44 : decode cX8_damage 44 = .ok (.aload_n 0, 1) := by decide +kernel
theorem dX8_damage_45 : decode cX8_damage 45 = .ok (.getfield 56, 3) := by decide +kernel
theorem dX8_damage_48 : decode cX8_damage 48 = .ok (.ifCond .le 5, 3) := by decide +kernel
theorem dX8_damage_51 : decode cX8_damage 51 = .ok (.iconst 0, 1) := by decide +kernel
theorem dX8_damage_52 : decode cX8_damage 52 = .ok (.ireturn, 1) := by decide +kernel
theorem dX8_damage_53 : decode cX8_damage 53 = .ok (.aload_n 0, 1) := by decide +kernel
theorem dX8_damage_54 : decode cX8_damage 54 = .ok (.invokevirtual 107, 3) := by decide +kernel
theorem dX8_damage_57 : decode cX8_damage 57 = .ok (.aload_n 0, 1) := by decide +kernel
theorem dX8_damage_58 : decode cX8_damage 58 = .ok (.getfield 7, 3) := by decide +kernel
theorem dX8_damage_61 : decode cX8_damage 61 = .ok (.bipush 71, 2) := by decide +kernel
theorem dX8_damage_63 : decode cX8_damage 63 = .ok (.iload_n 1, 1) := by decide +kernel
theorem dX8_damage_64 : decode cX8_damage 64 = .ok (.iadd, 1) := by decide +kernel
theorem dX8_damage_65 : decode cX8_damage 65 = .ok (.iaload, 1) := by decide +kernel
theorem dX8_damage_66 : decode cX8_damage 66 = .ok (.istore_n 3, 1) := by decide +kernel
theorem dX8_damage_67 : decode cX8_damage 67 = .ok (.aload_n 0, 1) := by decide +kernel
theorem dX8_damage_68 : decode cX8_damage 68 = .ok (.getfield 7, 3) := by decide +kernel
theorem dX8_damage_71 : decode cX8_damage 71 = .ok (.bipush 71, 2) := by decide +kernel
theorem dX8_damage_73 : decode cX8_damage 73 = .ok (.iload_n 1, 1) := by decide +kernel
theorem dX8_damage_74 : decode cX8_damage 74 = .ok (.iadd, 1) := by decide +kernel
theorem dX8_damage_75 : decode cX8_damage 75 = .ok (.iload_n 2, 1) := by decide +kernel
theorem dX8_damage_76 : decode cX8_damage 76 = .ok (.iastore, 1) := by decide +kernel
theorem dX8_damage_77 : decode cX8_damage 77 = .ok (.iload_n 3, 1) := by decide +kernel
theorem dX8_damage_78 : decode cX8_damage 78 = .ok (.ireturn, 1) := by decide +kernel
theorem tc_X8_isKey : Cond.code yX8_isKey cX8_isKey 1 (some .boolean) ∈ TMW := tm_in 1675 (by decide +kernel) (by decide +kernel)
theorem tl_X8_116 : Cond.methodLink RX8 116 yX8_isKey ∈ TMW := tm_in 1673 (by decide +kernel) (by decide +kernel)
theorem tst_X8_isKey : Cond.static yX8_isKey ∈ TMW := tm_in 1674 (by decide +kernel) (by decide +kernel)
def f_X8_damage_41 (x1 x2 s0 : Int32) (v : tmM) : Option (Int32 × tmM) := tm_lt (tm_up v 0 0 s0) fun v5 => (if (v5 0 0) ≤ 0 then tm_cl (f_X8_keeps v5) fun _ v6 => tm_g (tm_ix (71 + x1) 491) (tm_lt (v6 1 (71 + x1).toNatClampNeg) fun y8 => tm_g (tm_ix (71 + x1) 491) (tm_lt (tm_up v6 1 (71 + x1).toNatClampNeg x2) fun v9 => some (y8, v9))) else some (0, v5))
set_option maxRecDepth 100000 in
set_option maxHeartbeats 4000000 in
theorem w_X8_damage_41 {p : Program} {l : Launch} {e : Env} {s : State} {m : MethodId} {args : Array Value} {below : List Frame} {meth : Method} {c : Code} {D : va_G} {cy : Nat → ClassId} {ad : Nat → Nat} {A : Nat → Prop} {z : (Int32 × tmM)} (C0 : tmC p s m args meth c cX8_damage 4 (some .int) RX8 TMW tm_NWR D cy tm_shR ad 13 [] A) (x1 x2 s0 : Int32) (v : tmM) : tmG p l e ({ frames := 2, cells := 0, slots := 0, locals := 46 } : Room) s m args below meth c 0 0 (MQ below (va_Qi (fun r u => z = (r, u)) (tmAt tm_shR 13 D cy ad A) A) args s 0 0 A) 4 D cy tm_shR ad 13 [] A z 41 [(0, .ref (ad 0)), (1, .int x1), (2, .int x2)] [.int s0, .ref (ad 0)] v (f_X8_damage_41 x1 x2 s0 v) := by
  unfold f_X8_damage_41
  refine tg_put 0 0 C0 dX8_damage_41 (by decide) rfl rfl tu_X8 tyX8_ok nmX8 (by decide) tf_X8_56 rfl rfl rfl rfl rfl rfl ?_
  refine tg_letm (fun v5 _ => ?_)
  refine tg_aload_n 0 C0 dX8_damage_44 rfl rfl ?_
  refine tg_get 0 0 C0 dX8_damage_45 (by decide) rfl rfl tu_X8 (by decide) tf_X8_56 rfl rfl rfl ?_
  refine tg_if_le 53 C0 dX8_damage_48 (by decide) (fun _ => ?_) (fun _ => ?_)
  · refine tg_aload_n 0 C0 dX8_damage_53 rfl rfl ?_
    refine tg_callVv (As := []) 0 0 C0 dX8_damage_54 (c_X8_keeps l v5) rfl rfl (by decide) rfl rfl (tm_gV tl_X8_107 ti_X8_keeps ts_X8_keeps tn_X8 tc_X8_keeps)  rfl rfl rfl rfl (by decide +kernel) ⟨by decide, by decide⟩ (Nat.le_of_ble_eq_true rfl) ⟨by decide, by decide⟩ (fun v6 _ => ?_)
    refine tg_aload_n 0 C0 dX8_damage_57 rfl rfl ?_
    refine tg_get 0 1 C0 dX8_damage_58 (by decide) rfl rfl tu_X8 (by decide) tf_X8_7 rfl rfl rfl ?_
    refine tg_bipush (x := 71) C0 dX8_damage_61 (by decide) ?_
    refine tg_iload_n 1 C0 dX8_damage_63 rfl rfl ?_
    refine tg_iadd C0 dX8_damage_64 ?_
    refine tg_iald 1 C0 dX8_damage_65 (by decide) rfl (fun _ => ?_)
    refine tg_leti (fun y8 _ => ?_)
    refine tg_istore_n [(3, .int y8), (0, .ref (ad 0)), (1, .int x1), (2, .int x2)] C0 dX8_damage_66 rfl (by decide) rfl ?_
    refine tg_aload_n 1 C0 dX8_damage_67 rfl rfl ?_
    refine tg_get 0 1 C0 dX8_damage_68 (by decide) rfl rfl tu_X8 (by decide) tf_X8_7 rfl rfl rfl ?_
    refine tg_bipush (x := 71) C0 dX8_damage_71 (by decide) ?_
    refine tg_iload_n 2 C0 dX8_damage_73 rfl rfl ?_
    refine tg_iadd C0 dX8_damage_74 ?_
    refine tg_iload_n 3 C0 dX8_damage_75 rfl rfl ?_
    refine tg_iast 1 C0 dX8_damage_76 (by decide) rfl (fun _ => ?_)
    refine tg_letm (fun v9 _ => ?_)
    refine tg_iload_n 0 C0 dX8_damage_77 rfl rfl ?_
    exact tg_iret C0 dX8_damage_78
  · refine tg_iconst (x := 0) C0 dX8_damage_51 (by decide) ?_
    exact tg_iret C0 dX8_damage_52
def f_X8_damage (x1 x2 : Int32) (v : tmM) : Option (Int32 × tmM) := tm_cl (f_X8_isKey x1 v) fun r2 v1 => (if r2 = 0 then f_X8_damage_41 x1 x2 1 v1 else tm_cl (f_X8_in x2 (-1) 9999 v1) fun r4 v3 => (if r4 = 0 then f_X8_damage_41 x1 x2 2 v3 else tm_g (tm_ix 0 491) ((if (v3 1 (0 : Int32).toNatClampNeg) = 0 then f_X8_damage_41 x1 x2 3 v3 else f_X8_damage_41 x1 x2 0 v3))))
set_option maxRecDepth 100000 in
set_option maxHeartbeats 4000000 in
theorem w_X8_damage {p : Program} {l : Launch} {e : Env} {s : State} {m : MethodId} {args : Array Value} {below : List Frame} {meth : Method} {c : Code} {D : va_G} {cy : Nat → ClassId} {ad : Nat → Nat} {A : Nat → Prop} {z : (Int32 × tmM)} (C0 : tmC p s m args meth c cX8_damage 4 (some .int) RX8 TMW tm_NWR D cy tm_shR ad 13 [] A) (x1 x2 : Int32) (v : tmM) : tmG p l e ({ frames := 2, cells := 0, slots := 0, locals := 46 } : Room) s m args below meth c 0 0 (MQ below (va_Qi (fun r u => z = (r, u)) (tmAt tm_shR 13 D cy ad A) A) args s 0 0 A) 4 D cy tm_shR ad 13 [] A z 0 [(0, .ref (ad 0)), (1, .int x1), (2, .int x2)] [] v (f_X8_damage x1 x2 v) := by
  unfold f_X8_damage
  refine tg_aload_n 0 C0 dX8_damage_0 rfl rfl ?_
  refine tg_iload_n 1 C0 dX8_damage_1 rfl rfl ?_
  refine tg_callSi (As := [.int x1]) 1 C0 dX8_damage_2 (c_X8_isKey l x1 v) rfl rfl (tm_gc tc_X8_isKey) tl_X8_116 tn_X8 tst_X8_isKey  rfl rfl rfl rfl (by decide +kernel) ⟨by decide, by decide⟩ (Nat.le_of_ble_eq_true rfl) ⟨by decide, by decide⟩ (fun r2 v1 _ => ?_)
  refine tg_if_ne 12 C0 dX8_damage_5 (by decide) (fun _ => ?_) (fun _ => ?_)
  · refine tg_iload_n 2 C0 dX8_damage_12 rfl rfl ?_
    refine tg_iconst (x := (-1)) C0 dX8_damage_13 (by decide) ?_
    refine tg_sipush (x := 9999) C0 dX8_damage_14 (by decide) ?_
    refine tg_callSi (As := [.int x2, .int (-1), .int 9999]) 3 C0 dX8_damage_17 (c_X8_in l x2 (-1) 9999 v1) rfl rfl (tm_gc tc_X8_in) tl_X8_63 tn_X8 tst_X8_in  rfl rfl rfl rfl (by decide +kernel) ⟨by decide, by decide⟩ (Nat.le_of_ble_eq_true rfl) ⟨by decide, by decide⟩ (fun r4 v3 _ => ?_)
    refine tg_if_ne 27 C0 dX8_damage_20 (by decide) (fun _ => ?_) (fun _ => ?_)
    · refine tg_aload_n 0 C0 dX8_damage_27 rfl rfl ?_
      refine tg_get 0 1 C0 dX8_damage_28 (by decide) rfl rfl tu_X8 (by decide) tf_X8_7 rfl rfl rfl ?_
      refine tg_iconst (x := 0) C0 dX8_damage_31 (by decide) ?_
      refine tg_iald 1 C0 dX8_damage_32 (by decide) rfl (fun _ => ?_)
      refine tg_if_ne 40 C0 dX8_damage_33 (by decide) (fun _ => ?_) (fun _ => ?_)
      · refine tg_iconst (x := 0) C0 dX8_damage_40 (by decide) ?_
        exact w_X8_damage_41 C0 x1 x2 0 v3
      · refine tg_iconst (x := 3) C0 dX8_damage_36 (by decide) ?_
        refine tg_goto 41 C0 dX8_damage_37 (by decide) ?_
        exact w_X8_damage_41 C0 x1 x2 3 v3
    · refine tg_iconst (x := 2) C0 dX8_damage_23 (by decide) ?_
      refine tg_goto 41 C0 dX8_damage_24 (by decide) ?_
      exact w_X8_damage_41 C0 x1 x2 2 v3
  · refine tg_iconst (x := 1) C0 dX8_damage_8 (by decide) ?_
    refine tg_goto 41 C0 dX8_damage_9 (by decide) ?_
    exact w_X8_damage_41 C0 x1 x2 1 v1
theorem c_X8_damage (l : Launch) (x1 x2 : Int32) (v : tmM) : tmMi tm_NWR tm_shR 13 l yX8_damage (Cond.code yX8_damage cX8_damage 4 (some .int) :: TMW) ({ frames := 2, cells := 0, slots := 0, locals := 46 } : Room) (fun ad => [.ref (ad 0), .int x1, .int x2]) v (f_X8_damage x1 x2 v) :=
  tmMi.of (cc := cX8_damage) (nL := 4) (by decide +kernel) rfl tm_NWR_ok (fun _ => Nat.le_of_ble_eq_true rfl) (fun p e s m args below meth c A D cy ad z C0 => w_X8_damage C0 x1 x2 v)
-- ----- X8_count
theorem dX8_count_0 : decode cX8_count 0 = .ok (.aload_n 0, 1) := by decide +kernel
theorem dX8_count_1 : decode cX8_count 1 = .ok (.iload_n 1, 1) := by decide +kernel
theorem dX8_count_2 : decode cX8_count 2 = .ok (.iconst 0, 1) := by decide +kernel
theorem dX8_count_3 : decode cX8_count 3 = .ok (.bipush 14, 2) := by decide +kernel
theorem dX8_count_5 : decode cX8_count 5 = .ok (.invokestatic 63, 3) := by decide +kernel
theorem dX8_count_8 : decode cX8_count 8 = .ok (.ifCond .eq 7, 3) := by decide +kernel
theorem dX8_count_11 : decode cX8_count 11 = .ok (.iconst 0, 1) := by decide +kernel
theorem dX8_count_12 : decode cX8_count 12 = .ok (.goto 4, 3) := by decide +kernel
theorem dX8_count_15 : decode cX8_count 15 = .ok (.iconst 1, 1) := by decide +kernel
theorem dX8_count_16 : decode cX8_count 16 = .ok (.putfield 56, 3) := by decide +kernel
theorem dX8_count_19 : decode cX8_count 19 = .ok (.aload_n 0, 1) := by decide +kernel
theorem dX8_count_20 : decode cX8_count 20 = .ok (.getfield 56, 3) := by decide +kernel
theorem dX8_count_23 : decode cX8_count 23 = .ok (.ifCond .le 7, 3) := by decide +kernel
theorem dX8_count_26 : decode cX8_count 26 = .ok (.iconst (-1), 1) := by decide +kernel
theorem dX8_count_27 : decode cX8_count 27 = .ok (.goto 4, 3) := by decide +kernel
theorem dX8_count_30 : decode cX8_count 30 = .ok (.iload_n 1, 1) := by decide +kernel
theorem dX8_count_31 : decode cX8_count 31 = .ok (.tableswitch 199 (-1) 14 #[77, 199, 199, 199, 79, 86, 93, 103, 113, 121, 131, 153, 161, 166, 180, 194], 77) := by decide +kernel
theorem dX8_count_108 : decode cX8_count 108 = .ok (.iconst 0, 1) := by decide +kernel
theorem dX8_count_109 : decode cX8_count 109 = .ok (.ireturn, 1) := by decide +kernel
theorem dX8_count_110 : decode cX8_count 110 = .ok (.aload_n 0, 1) := by decide +kernel
theorem dX8_count_111 : decode cX8_count 111 = .ok (.bipush 11, 2) := by decide +kernel
theorem dX8_count_113 : decode cX8_count 113 = .ok (.invokevirtual 119, 3) := by decide +kernel
theorem dX8_count_116 : decode cX8_count 116 = .ok (.ireturn, 1) := by decide +kernel
theorem dX8_count_117 : decode cX8_count 117 = .ok (.aload_n 0, 1) := by decide +kernel
theorem dX8_count_118 : decode cX8_count 118 = .ok (.bipush 71, 2) := by decide +kernel
theorem dX8_count_120 : decode cX8_count 120 = .ok (.invokevirtual 119, 3) := by decide +kernel
theorem dX8_count_123 : decode cX8_count 123 = .ok (.ireturn, 1) := by decide +kernel
theorem dX8_count_124 : decode cX8_count 124 = .ok (.aload_n 0, 1) := by decide +kernel
theorem dX8_count_125 : decode cX8_count 125 = .ok (.getfield 7, 3) := by decide +kernel
theorem dX8_count_128 : decode cX8_count 128 = .ok (.iconst 3, 1) := by decide +kernel
theorem dX8_count_129 : decode cX8_count 129 = .ok (.iaload, 1) := by decide +kernel
theorem dX8_count_130 : decode cX8_count 130 = .ok (.invokestatic 122, 3) := by decide +kernel
theorem dX8_count_133 : decode cX8_count 133 = .ok (.ireturn, 1) := by decide +kernel
theorem dX8_count_134 : decode cX8_count 134 = .ok (.aload_n 0, 1) := by decide +kernel
theorem dX8_count_135 : decode cX8_count 135 = .ok (.getfield 7, 3) := by decide +kernel
theorem dX8_count_138 : decode cX8_count 138 = .ok (.iconst 4, 1) := by decide +kernel
theorem dX8_count_139 : decode cX8_count 139 = .ok (.iaload, 1) := by decide +kernel
theorem dX8_count_140 : decode cX8_count 140 = .ok (.invokestatic 122, 3) := by decide +kernel
theorem dX8_count_143 : decode cX8_count 143 = .ok (.ireturn, 1) := by decide +kernel
theorem dX8_count_144 : decode cX8_count 144 = .ok (.aload_n 0, 1) := by decide +kernel
theorem dX8_count_145 : decode cX8_count 145 = .ok (.getfield 7, 3) := by decide +kernel
theorem dX8_count_148 : decode cX8_count 148 = .ok (.bipush 7, 2) := by decide +kernel
theorem dX8_count_150 : decode cX8_count 150 = .ok (.iaload, 1) := by decide +kernel
theorem dX8_count_151 : decode cX8_count 151 = .ok (.ireturn, 1) := by decide +kernel
theorem dX8_count_152 : decode cX8_count 152 = .ok (.aload_n 0, 1) := by decide +kernel
theorem dX8_count_153 : decode cX8_count 153 = .ok (.getfield 7, 3) := by decide +kernel
theorem dX8_count_156 : decode cX8_count 156 = .ok (.iconst 5, 1) := by decide +kernel
theorem dX8_count_157 : decode cX8_count 157 = .ok (.iaload, 1) := by decide +kernel
theorem dX8_count_158 : decode cX8_count 158 = .ok (.invokestatic 122, 3) := by decide +kernel
theorem dX8_count_161 : decode cX8_count 161 = .ok (.ireturn, 1) := by decide +kernel
theorem dX8_count_162 : decode cX8_count 162 = .ok (.aload_n 0, 1) := by decide +kernel
theorem dX8_count_163 : decode cX8_count 163 = .ok (.getfield 7, 3) := by decide +kernel
theorem dX8_count_166 : decode cX8_count 166 = .ok (.iconst 0, 1) := by decide +kernel
theorem dX8_count_167 : decode cX8_count 167 = .ok (.iaload, 1) := by decide +kernel
theorem dX8_count_168 : decode cX8_count 168 = .ok (.iconst 2, 1) := by decide +kernel
theorem dX8_count_169 : decode cX8_count 169 = .ok (.if_icmp .ne 13, 3) := by decide +kernel
theorem dX8_count_172 : decode cX8_count 172 = .ok (.aload_n 0, 1) := by decide +kernel
theorem dX8_count_173 : decode cX8_count 173 = .ok (.getfield 7, 3) := by decide +kernel
theorem dX8_count_176 : decode cX8_count 176 = .ok (.bipush 8, 2) := by decide +kernel
theorem dX8_count_178 : decode cX8_count 178 = .ok (.iaload, 1) := by decide +kernel
theorem dX8_count_179 : decode cX8_count 179 = .ok (.goto 4, 3) := by decide +kernel
theorem dX8_count_182 : decode cX8_count 182 = .ok (.iconst 0, 1) := by decide +kernel
theorem dX8_count_183 : decode cX8_count 183 = .ok (.ireturn, 1) := by decide +kernel
theorem dX8_count_184 : decode cX8_count 184 = .ok (.aload_n 0, 1) := by decide +kernel
theorem dX8_count_185 : decode cX8_count 185 = .ok (.getfield 7, 3) := by decide +kernel
theorem dX8_count_188 : decode cX8_count 188 = .ok (.bipush 10, 2) := by decide +kernel
theorem dX8_count_190 : decode cX8_count 190 = .ok (.iaload, 1) := by decide +kernel
theorem dX8_count_191 : decode cX8_count 191 = .ok (.ireturn, 1) := by decide +kernel
theorem dX8_count_192 : decode cX8_count 192 = .ok (.aload_n 0, 1) := by decide +kernel
theorem dX8_count_193 : decode cX8_count 193 = .ok (.getfield 100, 3) := by decide +kernel
theorem dX8_count_196 : decode cX8_count 196 = .ok (.ireturn, 1) := by decide +kernel
theorem dX8_count_197 : decode cX8_count 197 = .ok (.aload_n 0, 1) := by decide +kernel
theorem dX8_count_198 : decode cX8_count 198 = .ok (.iconst 0, 1) := by decide +kernel
theorem dX8_count_199 : decode cX8_count 199 = .ok (.invokevirtual 113, 3) := by decide +kernel
theorem dX8_count_202 : decode cX8_count 202 = .ok (.ifCond .eq 7, 3) := by decide +kernel
theorem dX8_count_205 : decode cX8_count 205 = .ok (.iconst 1, 1) := by decide +kernel
theorem dX8_count_206 : decode cX8_count 206 = .ok (.goto 4, 3) := by decide +kernel
theorem dX8_count_209 : decode cX8_count 209 = .ok (.iconst 0, 1) := by decide +kernel
theorem dX8_count_210 : decode cX8_count 210 = .ok (.ireturn, 1) := by decide +kernel
theorem dX8_count_211 : decode cX8_count 211 = .ok (.aload_n 0, 1) := by decide +kernel
theorem dX8_count_212 : decode cX8_count 212 = .ok (.iconst 1, 1) := by decide +kernel
theorem dX8_count_213 : decode cX8_count 213 = .ok (.invokevirtual 113, 3) := by decide +kernel
theorem dX8_count_216 : decode cX8_count 216 = .ok (.ifCond .eq 7, 3) := by decide +kernel
theorem dX8_count_219 : decode cX8_count 219 = .ok (.iconst 1, 1) := by decide +kernel
theorem dX8_count_220 : decode cX8_count 220 = .ok (.goto 4, 3) := by decide +kernel
theorem dX8_count_223 : decode cX8_count 223 = .ok (.iconst 0, 1) := by decide +kernel
theorem dX8_count_224 : decode cX8_count 224 = .ok (.ireturn, 1) := by decide +kernel
theorem dX8_count_225 : decode cX8_count 225 = .ok (.aload_n 0, 1) := by decide +kernel
theorem dX8_count_226 : decode cX8_count 226 = .ok (.invokevirtual 89, 3) := by decide +kernel
theorem dX8_count_229 : decode cX8_count 229 = .ok (.ireturn, 1) := by decide +kernel
theorem dX8_count_230 : decode cX8_count 230 = .ok (.aload_n 0, 1) := by decide +kernel
theorem dX8_count_231 : decode cX8_count 231 = .ok (.getfield 7, 3) := by decide +kernel
theorem dX8_count_234 : decode cX8_count 234 = .ok (.iload_n 1, 1) := by decide +kernel
theorem dX8_count_235 : decode cX8_count 235 = .ok (.iaload, 1) := by decide +kernel
theorem dX8_count_236 : decode cX8_count 236 = .ok (.ireturn, 1) := by decide +kernel
theorem tl_X8_119 : Cond.methodLink RX8 119 yX8_rowsOf ∈ TMW := tm_in 1680 (by decide +kernel) (by decide +kernel)
theorem ti_X8_rowsOf : Cond.instanceMethod yX8_rowsOf ∈ TMW := tm_in 1682 (by decide +kernel) (by decide +kernel)
theorem ts_X8_rowsOf : Cond.selects RX8 yX8_rowsOf yX8_rowsOf ∈ TMW := tm_in 43 (by decide +kernel) (by decide +kernel)
theorem tc_X8_rowsOf : Cond.code yX8_rowsOf cX8_rowsOf 4 (some .int) ∈ TMW := tm_in 1683 (by decide +kernel) (by decide +kernel)
theorem tc_X8_ones : Cond.code yX8_ones cX8_ones 3 (some .int) ∈ TMW := tm_in 1686 (by decide +kernel) (by decide +kernel)
theorem tl_X8_122 : Cond.methodLink RX8 122 yX8_ones ∈ TMW := tm_in 1684 (by decide +kernel) (by decide +kernel)
theorem tst_X8_ones : Cond.static yX8_ones ∈ TMW := tm_in 1685 (by decide +kernel) (by decide +kernel)
def f_X8_count_31 (x1 s0 : Int32) (v : tmM) : Option (Int32 × tmM) := (if s0 = (-1) then some (0, v) else if s0 = 0 then tm_g (tm_ix x1 491) (some (v 1 x1.toNatClampNeg, v)) else if s0 = 1 then tm_g (tm_ix x1 491) (some (v 1 x1.toNatClampNeg, v)) else if s0 = 2 then tm_g (tm_ix x1 491) (some (v 1 x1.toNatClampNeg, v)) else if s0 = 3 then tm_cl (f_X8_rowsOf 11 v) fun r9 v8 => some (r9, v8) else if s0 = 4 then tm_cl (f_X8_rowsOf 71 v) fun r12 v11 => some (r12, v11) else if s0 = 5 then tm_g (tm_ix 3 491) (tm_cl (f_X8_ones (v 1 (3 : Int32).toNatClampNeg) v) fun r15 v14 => some (r15, v14)) else if s0 = 6 then tm_g (tm_ix 4 491) (tm_cl (f_X8_ones (v 1 (4 : Int32).toNatClampNeg) v) fun r18 v17 => some (r18, v17)) else if s0 = 7 then tm_g (tm_ix 7 491) (some (v 1 (7 : Int32).toNatClampNeg, v)) else if s0 = 8 then tm_g (tm_ix 5 491) (tm_cl (f_X8_ones (v 1 (5 : Int32).toNatClampNeg) v) fun r22 v21 => some (r22, v21)) else if s0 = 9 then tm_g (tm_ix 0 491) ((if (v 1 (0 : Int32).toNatClampNeg) = 2 then tm_g (tm_ix 8 491) (some (v 1 (8 : Int32).toNatClampNeg, v)) else some (0, v))) else if s0 = 10 then tm_g (tm_ix 10 491) (some (v 1 (10 : Int32).toNatClampNeg, v)) else if s0 = 11 then some (v 0 3, v) else if s0 = 12 then tm_cl (f_X8_isUp 0 v) fun r28 v27 => (if r28 = 0 then some (0, v27) else some (1, v27)) else if s0 = 13 then tm_cl (f_X8_isUp 1 v) fun r31 v30 => (if r31 = 0 then some (0, v30) else some (1, v30)) else if s0 = 14 then tm_cl (f_X8_leads v) fun r34 v33 => some (r34, v33) else tm_g (tm_ix x1 491) (some (v 1 x1.toNatClampNeg, v)))
set_option maxRecDepth 100000 in
set_option maxHeartbeats 4000000 in
theorem w_X8_count_31 {p : Program} {l : Launch} {e : Env} {s : State} {m : MethodId} {args : Array Value} {below : List Frame} {meth : Method} {c : Code} {D : va_G} {cy : Nat → ClassId} {ad : Nat → Nat} {A : Nat → Prop} {z : (Int32 × tmM)} (C0 : tmC p s m args meth c cX8_count 2 (some .int) RX8 TMW tm_NWR D cy tm_shR ad 13 [] A) (x1 s0 : Int32) (v : tmM) : tmG p l e ({ frames := 2, cells := 0, slots := 0, locals := 42 } : Room) s m args below meth c 0 0 (MQ below (va_Qi (fun r u => z = (r, u)) (tmAt tm_shR 13 D cy ad A) A) args s 0 0 A) 2 D cy tm_shR ad 13 [] A z 31 [(0, .ref (ad 0)), (1, .int x1)] [.int s0] v (f_X8_count_31 x1 s0 v) := by
  unfold f_X8_count_31
  refine tg_tab 0 (cst := (-1)) 108 tg_tab0 C0 dX8_count_31 (by decide) rfl (by decide) (by decide) (fun _ => ?_) (fun h4 => ?_)
  · refine tg_iconst (x := 0) C0 dX8_count_108 (by decide) ?_
    exact tg_iret C0 dX8_count_109
  refine tg_tab 1 (cst := 0) 230 h4 C0 dX8_count_31 (by decide) rfl (by decide) (by decide) (fun _ => ?_) (fun h5 => ?_)
  · refine tg_aload_n 0 C0 dX8_count_230 rfl rfl ?_
    refine tg_get 0 1 C0 dX8_count_231 (by decide) rfl rfl tu_X8 (by decide) tf_X8_7 rfl rfl rfl ?_
    refine tg_iload_n 1 C0 dX8_count_234 rfl rfl ?_
    refine tg_iald 1 C0 dX8_count_235 (by decide) rfl (fun _ => ?_)
    exact tg_iret C0 dX8_count_236
  refine tg_tab 2 (cst := 1) 230 h5 C0 dX8_count_31 (by decide) rfl (by decide) (by decide) (fun _ => ?_) (fun h6 => ?_)
  · refine tg_aload_n 0 C0 dX8_count_230 rfl rfl ?_
    refine tg_get 0 1 C0 dX8_count_231 (by decide) rfl rfl tu_X8 (by decide) tf_X8_7 rfl rfl rfl ?_
    refine tg_iload_n 1 C0 dX8_count_234 rfl rfl ?_
    refine tg_iald 1 C0 dX8_count_235 (by decide) rfl (fun _ => ?_)
    exact tg_iret C0 dX8_count_236
  refine tg_tab 3 (cst := 2) 230 h6 C0 dX8_count_31 (by decide) rfl (by decide) (by decide) (fun _ => ?_) (fun h7 => ?_)
  · refine tg_aload_n 0 C0 dX8_count_230 rfl rfl ?_
    refine tg_get 0 1 C0 dX8_count_231 (by decide) rfl rfl tu_X8 (by decide) tf_X8_7 rfl rfl rfl ?_
    refine tg_iload_n 1 C0 dX8_count_234 rfl rfl ?_
    refine tg_iald 1 C0 dX8_count_235 (by decide) rfl (fun _ => ?_)
    exact tg_iret C0 dX8_count_236
  refine tg_tab 4 (cst := 3) 110 h7 C0 dX8_count_31 (by decide) rfl (by decide) (by decide) (fun _ => ?_) (fun h10 => ?_)
  · refine tg_aload_n 0 C0 dX8_count_110 rfl rfl ?_
    refine tg_bipush (x := 11) C0 dX8_count_111 (by decide) ?_
    refine tg_callVi (As := [.int 11]) 0 1 C0 dX8_count_113 (c_X8_rowsOf l 11 v) rfl rfl (by decide) rfl rfl (tm_gV tl_X8_119 ti_X8_rowsOf ts_X8_rowsOf tn_X8 tc_X8_rowsOf)  rfl rfl rfl rfl (by decide +kernel) ⟨by decide, by decide⟩ (Nat.le_of_ble_eq_true rfl) ⟨by decide, by decide⟩ (fun r9 v8 _ => ?_)
    exact tg_iret C0 dX8_count_116
  refine tg_tab 5 (cst := 4) 117 h10 C0 dX8_count_31 (by decide) rfl (by decide) (by decide) (fun _ => ?_) (fun h13 => ?_)
  · refine tg_aload_n 0 C0 dX8_count_117 rfl rfl ?_
    refine tg_bipush (x := 71) C0 dX8_count_118 (by decide) ?_
    refine tg_callVi (As := [.int 71]) 0 1 C0 dX8_count_120 (c_X8_rowsOf l 71 v) rfl rfl (by decide) rfl rfl (tm_gV tl_X8_119 ti_X8_rowsOf ts_X8_rowsOf tn_X8 tc_X8_rowsOf)  rfl rfl rfl rfl (by decide +kernel) ⟨by decide, by decide⟩ (Nat.le_of_ble_eq_true rfl) ⟨by decide, by decide⟩ (fun r12 v11 _ => ?_)
    exact tg_iret C0 dX8_count_123
  refine tg_tab 6 (cst := 5) 124 h13 C0 dX8_count_31 (by decide) rfl (by decide) (by decide) (fun _ => ?_) (fun h16 => ?_)
  · refine tg_aload_n 0 C0 dX8_count_124 rfl rfl ?_
    refine tg_get 0 1 C0 dX8_count_125 (by decide) rfl rfl tu_X8 (by decide) tf_X8_7 rfl rfl rfl ?_
    refine tg_iconst (x := 3) C0 dX8_count_128 (by decide) ?_
    refine tg_iald 1 C0 dX8_count_129 (by decide) rfl (fun _ => ?_)
    refine tg_callSi (As := [.int (v 1 (3 : Int32).toNatClampNeg)]) 1 C0 dX8_count_130 (c_X8_ones l (v 1 (3 : Int32).toNatClampNeg) v) rfl rfl (tm_gc tc_X8_ones) tl_X8_122 tn_X8 tst_X8_ones  rfl rfl rfl rfl (by decide +kernel) ⟨by decide, by decide⟩ (Nat.le_of_ble_eq_true rfl) ⟨by decide, by decide⟩ (fun r15 v14 _ => ?_)
    exact tg_iret C0 dX8_count_133
  refine tg_tab 7 (cst := 6) 134 h16 C0 dX8_count_31 (by decide) rfl (by decide) (by decide) (fun _ => ?_) (fun h19 => ?_)
  · refine tg_aload_n 0 C0 dX8_count_134 rfl rfl ?_
    refine tg_get 0 1 C0 dX8_count_135 (by decide) rfl rfl tu_X8 (by decide) tf_X8_7 rfl rfl rfl ?_
    refine tg_iconst (x := 4) C0 dX8_count_138 (by decide) ?_
    refine tg_iald 1 C0 dX8_count_139 (by decide) rfl (fun _ => ?_)
    refine tg_callSi (As := [.int (v 1 (4 : Int32).toNatClampNeg)]) 1 C0 dX8_count_140 (c_X8_ones l (v 1 (4 : Int32).toNatClampNeg) v) rfl rfl (tm_gc tc_X8_ones) tl_X8_122 tn_X8 tst_X8_ones  rfl rfl rfl rfl (by decide +kernel) ⟨by decide, by decide⟩ (Nat.le_of_ble_eq_true rfl) ⟨by decide, by decide⟩ (fun r18 v17 _ => ?_)
    exact tg_iret C0 dX8_count_143
  refine tg_tab 8 (cst := 7) 144 h19 C0 dX8_count_31 (by decide) rfl (by decide) (by decide) (fun _ => ?_) (fun h20 => ?_)
  · refine tg_aload_n 0 C0 dX8_count_144 rfl rfl ?_
    refine tg_get 0 1 C0 dX8_count_145 (by decide) rfl rfl tu_X8 (by decide) tf_X8_7 rfl rfl rfl ?_
    refine tg_bipush (x := 7) C0 dX8_count_148 (by decide) ?_
    refine tg_iald 1 C0 dX8_count_150 (by decide) rfl (fun _ => ?_)
    exact tg_iret C0 dX8_count_151
  refine tg_tab 9 (cst := 8) 152 h20 C0 dX8_count_31 (by decide) rfl (by decide) (by decide) (fun _ => ?_) (fun h23 => ?_)
  · refine tg_aload_n 0 C0 dX8_count_152 rfl rfl ?_
    refine tg_get 0 1 C0 dX8_count_153 (by decide) rfl rfl tu_X8 (by decide) tf_X8_7 rfl rfl rfl ?_
    refine tg_iconst (x := 5) C0 dX8_count_156 (by decide) ?_
    refine tg_iald 1 C0 dX8_count_157 (by decide) rfl (fun _ => ?_)
    refine tg_callSi (As := [.int (v 1 (5 : Int32).toNatClampNeg)]) 1 C0 dX8_count_158 (c_X8_ones l (v 1 (5 : Int32).toNatClampNeg) v) rfl rfl (tm_gc tc_X8_ones) tl_X8_122 tn_X8 tst_X8_ones  rfl rfl rfl rfl (by decide +kernel) ⟨by decide, by decide⟩ (Nat.le_of_ble_eq_true rfl) ⟨by decide, by decide⟩ (fun r22 v21 _ => ?_)
    exact tg_iret C0 dX8_count_161
  refine tg_tab 10 (cst := 9) 162 h23 C0 dX8_count_31 (by decide) rfl (by decide) (by decide) (fun _ => ?_) (fun h24 => ?_)
  · refine tg_aload_n 0 C0 dX8_count_162 rfl rfl ?_
    refine tg_get 0 1 C0 dX8_count_163 (by decide) rfl rfl tu_X8 (by decide) tf_X8_7 rfl rfl rfl ?_
    refine tg_iconst (x := 0) C0 dX8_count_166 (by decide) ?_
    refine tg_iald 1 C0 dX8_count_167 (by decide) rfl (fun _ => ?_)
    refine tg_iconst (x := 2) C0 dX8_count_168 (by decide) ?_
    refine tg_icmp_ne 182 C0 dX8_count_169 (by decide) (fun _ => ?_) (fun _ => ?_)
    · refine tg_iconst (x := 0) C0 dX8_count_182 (by decide) ?_
      exact tg_iret C0 dX8_count_183
    · refine tg_aload_n 0 C0 dX8_count_172 rfl rfl ?_
      refine tg_get 0 1 C0 dX8_count_173 (by decide) rfl rfl tu_X8 (by decide) tf_X8_7 rfl rfl rfl ?_
      refine tg_bipush (x := 8) C0 dX8_count_176 (by decide) ?_
      refine tg_iald 1 C0 dX8_count_178 (by decide) rfl (fun _ => ?_)
      refine tg_goto 183 C0 dX8_count_179 (by decide) ?_
      exact tg_iret C0 dX8_count_183
  refine tg_tab 11 (cst := 10) 184 h24 C0 dX8_count_31 (by decide) rfl (by decide) (by decide) (fun _ => ?_) (fun h25 => ?_)
  · refine tg_aload_n 0 C0 dX8_count_184 rfl rfl ?_
    refine tg_get 0 1 C0 dX8_count_185 (by decide) rfl rfl tu_X8 (by decide) tf_X8_7 rfl rfl rfl ?_
    refine tg_bipush (x := 10) C0 dX8_count_188 (by decide) ?_
    refine tg_iald 1 C0 dX8_count_190 (by decide) rfl (fun _ => ?_)
    exact tg_iret C0 dX8_count_191
  refine tg_tab 12 (cst := 11) 192 h25 C0 dX8_count_31 (by decide) rfl (by decide) (by decide) (fun _ => ?_) (fun h26 => ?_)
  · refine tg_aload_n 0 C0 dX8_count_192 rfl rfl ?_
    refine tg_get 0 3 C0 dX8_count_193 (by decide) rfl rfl tu_X8 (by decide) tf_X8_100 rfl rfl rfl ?_
    exact tg_iret C0 dX8_count_196
  refine tg_tab 13 (cst := 12) 197 h26 C0 dX8_count_31 (by decide) rfl (by decide) (by decide) (fun _ => ?_) (fun h29 => ?_)
  · refine tg_aload_n 0 C0 dX8_count_197 rfl rfl ?_
    refine tg_iconst (x := 0) C0 dX8_count_198 (by decide) ?_
    refine tg_callVi (As := [.int 0]) 0 1 C0 dX8_count_199 (c_X8_isUp l 0 v) rfl rfl (by decide) rfl rfl (tm_gV tl_X8_113 ti_X8_isUp ts_X8_isUp tn_X8 tc_X8_isUp)  rfl rfl rfl rfl (by decide +kernel) ⟨by decide, by decide⟩ (Nat.le_of_ble_eq_true rfl) ⟨by decide, by decide⟩ (fun r28 v27 _ => ?_)
    refine tg_if_eq 209 C0 dX8_count_202 (by decide) (fun _ => ?_) (fun _ => ?_)
    · refine tg_iconst (x := 0) C0 dX8_count_209 (by decide) ?_
      exact tg_iret C0 dX8_count_210
    · refine tg_iconst (x := 1) C0 dX8_count_205 (by decide) ?_
      refine tg_goto 210 C0 dX8_count_206 (by decide) ?_
      exact tg_iret C0 dX8_count_210
  refine tg_tab 14 (cst := 13) 211 h29 C0 dX8_count_31 (by decide) rfl (by decide) (by decide) (fun _ => ?_) (fun h32 => ?_)
  · refine tg_aload_n 0 C0 dX8_count_211 rfl rfl ?_
    refine tg_iconst (x := 1) C0 dX8_count_212 (by decide) ?_
    refine tg_callVi (As := [.int 1]) 0 1 C0 dX8_count_213 (c_X8_isUp l 1 v) rfl rfl (by decide) rfl rfl (tm_gV tl_X8_113 ti_X8_isUp ts_X8_isUp tn_X8 tc_X8_isUp)  rfl rfl rfl rfl (by decide +kernel) ⟨by decide, by decide⟩ (Nat.le_of_ble_eq_true rfl) ⟨by decide, by decide⟩ (fun r31 v30 _ => ?_)
    refine tg_if_eq 223 C0 dX8_count_216 (by decide) (fun _ => ?_) (fun _ => ?_)
    · refine tg_iconst (x := 0) C0 dX8_count_223 (by decide) ?_
      exact tg_iret C0 dX8_count_224
    · refine tg_iconst (x := 1) C0 dX8_count_219 (by decide) ?_
      refine tg_goto 224 C0 dX8_count_220 (by decide) ?_
      exact tg_iret C0 dX8_count_224
  refine tg_tab 15 (cst := 14) 225 h32 C0 dX8_count_31 (by decide) rfl (by decide) (by decide) (fun _ => ?_) (fun h35 => ?_)
  · refine tg_aload_n 0 C0 dX8_count_225 rfl rfl ?_
    refine tg_callVi (As := []) 0 0 C0 dX8_count_226 (c_X8_leads l v) rfl rfl (by decide) rfl rfl (tm_gV tl_X8_89 ti_X8_leads ts_X8_leads tn_X8 tc_X8_leads)  rfl rfl rfl rfl (by decide +kernel) ⟨by decide, by decide⟩ (Nat.le_of_ble_eq_true rfl) ⟨by decide, by decide⟩ (fun r34 v33 _ => ?_)
    exact tg_iret C0 dX8_count_229
  refine tg_tabO 16 230 h35 C0 dX8_count_31 (by decide) (by decide) ?_
  refine tg_aload_n 0 C0 dX8_count_230 rfl rfl ?_
  refine tg_get 0 1 C0 dX8_count_231 (by decide) rfl rfl tu_X8 (by decide) tf_X8_7 rfl rfl rfl ?_
  refine tg_iload_n 1 C0 dX8_count_234 rfl rfl ?_
  refine tg_iald 1 C0 dX8_count_235 (by decide) rfl (fun _ => ?_)
  exact tg_iret C0 dX8_count_236
def f_X8_count_16 (x1 s0 : Int32) (v : tmM) : Option (Int32 × tmM) := tm_lt (tm_up v 0 0 s0) fun v3 => (if (v3 0 0) ≤ 0 then f_X8_count_31 x1 x1 v3 else f_X8_count_31 x1 (-1) v3)
set_option maxRecDepth 100000 in
set_option maxHeartbeats 4000000 in
theorem w_X8_count_16 {p : Program} {l : Launch} {e : Env} {s : State} {m : MethodId} {args : Array Value} {below : List Frame} {meth : Method} {c : Code} {D : va_G} {cy : Nat → ClassId} {ad : Nat → Nat} {A : Nat → Prop} {z : (Int32 × tmM)} (C0 : tmC p s m args meth c cX8_count 2 (some .int) RX8 TMW tm_NWR D cy tm_shR ad 13 [] A) (x1 s0 : Int32) (v : tmM) : tmG p l e ({ frames := 2, cells := 0, slots := 0, locals := 42 } : Room) s m args below meth c 0 0 (MQ below (va_Qi (fun r u => z = (r, u)) (tmAt tm_shR 13 D cy ad A) A) args s 0 0 A) 2 D cy tm_shR ad 13 [] A z 16 [(0, .ref (ad 0)), (1, .int x1)] [.int s0, .ref (ad 0)] v (f_X8_count_16 x1 s0 v) := by
  unfold f_X8_count_16
  refine tg_put 0 0 C0 dX8_count_16 (by decide) rfl rfl tu_X8 tyX8_ok nmX8 (by decide) tf_X8_56 rfl rfl rfl rfl rfl rfl ?_
  refine tg_letm (fun v3 _ => ?_)
  refine tg_aload_n 0 C0 dX8_count_19 rfl rfl ?_
  refine tg_get 0 0 C0 dX8_count_20 (by decide) rfl rfl tu_X8 (by decide) tf_X8_56 rfl rfl rfl ?_
  refine tg_if_le 30 C0 dX8_count_23 (by decide) (fun _ => ?_) (fun _ => ?_)
  · refine tg_iload_n 1 C0 dX8_count_30 rfl rfl ?_
    exact w_X8_count_31 C0 x1 x1 v3
  · refine tg_iconst (x := (-1)) C0 dX8_count_26 (by decide) ?_
    refine tg_goto 31 C0 dX8_count_27 (by decide) ?_
    exact w_X8_count_31 C0 x1 (-1) v3
def f_X8_count (x1 : Int32) (v : tmM) : Option (Int32 × tmM) := tm_cl (f_X8_in x1 0 14 v) fun r2 v1 => (if r2 = 0 then f_X8_count_16 x1 1 v1 else f_X8_count_16 x1 0 v1)
set_option maxRecDepth 100000 in
set_option maxHeartbeats 4000000 in
theorem w_X8_count {p : Program} {l : Launch} {e : Env} {s : State} {m : MethodId} {args : Array Value} {below : List Frame} {meth : Method} {c : Code} {D : va_G} {cy : Nat → ClassId} {ad : Nat → Nat} {A : Nat → Prop} {z : (Int32 × tmM)} (C0 : tmC p s m args meth c cX8_count 2 (some .int) RX8 TMW tm_NWR D cy tm_shR ad 13 [] A) (x1 : Int32) (v : tmM) : tmG p l e ({ frames := 2, cells := 0, slots := 0, locals := 42 } : Room) s m args below meth c 0 0 (MQ below (va_Qi (fun r u => z = (r, u)) (tmAt tm_shR 13 D cy ad A) A) args s 0 0 A) 2 D cy tm_shR ad 13 [] A z 0 [(0, .ref (ad 0)), (1, .int x1)] [] v (f_X8_count x1 v) := by
  unfold f_X8_count
  refine tg_aload_n 0 C0 dX8_count_0 rfl rfl ?_
  refine tg_iload_n 1 C0 dX8_count_1 rfl rfl ?_
  refine tg_iconst (x := 0) C0 dX8_count_2 (by decide) ?_
  refine tg_bipush (x := 14) C0 dX8_count_3 (by decide) ?_
  refine tg_callSi (As := [.int x1, .int 0, .int 14]) 3 C0 dX8_count_5 (c_X8_in l x1 0 14 v) rfl rfl (tm_gc tc_X8_in) tl_X8_63 tn_X8 tst_X8_in  rfl rfl rfl rfl (by decide +kernel) ⟨by decide, by decide⟩ (Nat.le_of_ble_eq_true rfl) ⟨by decide, by decide⟩ (fun r2 v1 _ => ?_)
  refine tg_if_eq 15 C0 dX8_count_8 (by decide) (fun _ => ?_) (fun _ => ?_)
  · refine tg_iconst (x := 1) C0 dX8_count_15 (by decide) ?_
    exact w_X8_count_16 C0 x1 1 v1
  · refine tg_iconst (x := 0) C0 dX8_count_11 (by decide) ?_
    refine tg_goto 16 C0 dX8_count_12 (by decide) ?_
    exact w_X8_count_16 C0 x1 0 v1
theorem c_X8_count (l : Launch) (x1 : Int32) (v : tmM) : tmMi tm_NWR tm_shR 13 l yX8_count (Cond.code yX8_count cX8_count 2 (some .int) :: TMW) ({ frames := 2, cells := 0, slots := 0, locals := 42 } : Room) (fun ad => [.ref (ad 0), .int x1]) v (f_X8_count x1 v) :=
  tmMi.of (cc := cX8_count) (nL := 2) (by decide +kernel) rfl tm_NWR_ok (fun _ => Nat.le_of_ble_eq_true rfl) (fun p e s m args below meth c A D cy ad z C0 => w_X8_count C0 x1 v)
-- ----- X8_stored
theorem dX8_stored_0 : decode cX8_stored 0 = .ok (.aload_n 0, 1) := by decide +kernel
theorem dX8_stored_1 : decode cX8_stored 1 = .ok (.iload_n 1, 1) := by decide +kernel
theorem dX8_stored_2 : decode cX8_stored 2 = .ok (.iconst 0, 1) := by decide +kernel
theorem dX8_stored_3 : decode cX8_stored 3 = .ok (.iconst 1, 1) := by decide +kernel
theorem dX8_stored_4 : decode cX8_stored 4 = .ok (.invokestatic 63, 3) := by decide +kernel
theorem dX8_stored_7 : decode cX8_stored 7 = .ok (.ifCond .eq 14, 3) := by decide +kernel
theorem dX8_stored_10 : decode cX8_stored 10 = .ok (.iload_n 2, 1) := by decide +kernel
theorem dX8_stored_11 : decode cX8_stored 11 = .ok (.invokestatic 116, 3) := by decide +kernel
theorem dX8_stored_14 : decode cX8_stored 14 = .ok (.ifCond .eq 7, 3) := by decide +kernel
theorem dX8_stored_17 : decode cX8_stored 17 = .ok (.iconst 0, 1) := by decide +kernel
theorem dX8_stored_18 : decode cX8_stored 18 = .ok (.goto 4, 3) := by decide +kernel
theorem dX8_stored_21 : decode cX8_stored 21 = .ok (.iconst 1, 1) := by decide +kernel
theorem dX8_stored_22 : decode cX8_stored 22 = .ok (.putfield 56, 3) := by decide +kernel
theorem dX8_stored_25 : decode cX8_stored 25 = .ok (.aload_n 0, 1) := by decide +kernel
theorem dX8_stored_26 : decode cX8_stored 26 = .ok (.getfield 56, 3) := by decide +kernel
theorem dX8_stored_29 : decode cX8_stored 29 = .ok (.ifCond .le 7, 3) := by decide +kernel
theorem dX8_stored_32 : decode cX8_stored 32 = .ok (.iconst 0, 1) := by decide +kernel
theorem dX8_stored_33 : decode cX8_stored 33 = .ok (.goto 21, 3) := by decide +kernel
theorem dX8_stored_36 : decode cX8_stored 36 = .ok (.aload_n 0, 1) := by decide +kernel
theorem dX8_stored_37 : decode cX8_stored 37 = .ok (.getfield 7, 3) := by decide +kernel
theorem dX8_stored_40 : decode cX8_stored 40 = .ok (.iload_n 1, 1) := by decide +kernel
theorem dX8_stored_41 : decode cX8_stored 41 = .ok (.ifCond .ne 8, 3) := by decide +kernel
theorem dX8_stored_44 : decode cX8_stored 44 = .ok (.bipush 11, 2) := by decide +kernel
theorem dX8_stored_46 : decode cX8_stored 46 = .ok (.goto 5, 3) := by decide +kernel
theorem dX8_stored_49 : decode cX8_stored 49 = .ok (.bipush 71, 2) := by decide +kernel
theorem dX8_stored_51 : decode cX8_stored 51 = .ok (.iload_n 2, 1) := by decide +kernel
theorem dX8_stored_52 : decode cX8_stored 52 = .ok (.iadd, 1) := by decide +kernel
theorem dX8_stored_53 : decode cX8_stored 53 = .ok (.iaload, 1) := by decide +kernel
theorem dX8_stored_54 : decode cX8_stored 54 = .ok (.ireturn, 1) := by decide +kernel
def f_X8_stored_22 (x1 x2 s0 : Int32) (v : tmM) : Option (Int32 × tmM) := tm_lt (tm_up v 0 0 s0) fun v3 => (if (v3 0 0) ≤ 0 then (if x1 = 0 then tm_g (tm_ix (11 + x2) 491) (some (v3 1 (11 + x2).toNatClampNeg, v3)) else tm_g (tm_ix (71 + x2) 491) (some (v3 1 (71 + x2).toNatClampNeg, v3))) else some (0, v3))
set_option maxRecDepth 100000 in
set_option maxHeartbeats 4000000 in
theorem w_X8_stored_22 {p : Program} {l : Launch} {e : Env} {s : State} {m : MethodId} {args : Array Value} {below : List Frame} {meth : Method} {c : Code} {D : va_G} {cy : Nat → ClassId} {ad : Nat → Nat} {A : Nat → Prop} {z : (Int32 × tmM)} (C0 : tmC p s m args meth c cX8_stored 3 (some .int) RX8 TMW tm_NWR D cy tm_shR ad 13 [] A) (x1 x2 s0 : Int32) (v : tmM) : tmG p l e ({ frames := 2, cells := 0, slots := 0, locals := 42 } : Room) s m args below meth c 0 0 (MQ below (va_Qi (fun r u => z = (r, u)) (tmAt tm_shR 13 D cy ad A) A) args s 0 0 A) 3 D cy tm_shR ad 13 [] A z 22 [(0, .ref (ad 0)), (1, .int x1), (2, .int x2)] [.int s0, .ref (ad 0)] v (f_X8_stored_22 x1 x2 s0 v) := by
  unfold f_X8_stored_22
  refine tg_put 0 0 C0 dX8_stored_22 (by decide) rfl rfl tu_X8 tyX8_ok nmX8 (by decide) tf_X8_56 rfl rfl rfl rfl rfl rfl ?_
  refine tg_letm (fun v3 _ => ?_)
  refine tg_aload_n 0 C0 dX8_stored_25 rfl rfl ?_
  refine tg_get 0 0 C0 dX8_stored_26 (by decide) rfl rfl tu_X8 (by decide) tf_X8_56 rfl rfl rfl ?_
  refine tg_if_le 36 C0 dX8_stored_29 (by decide) (fun _ => ?_) (fun _ => ?_)
  · refine tg_aload_n 0 C0 dX8_stored_36 rfl rfl ?_
    refine tg_get 0 1 C0 dX8_stored_37 (by decide) rfl rfl tu_X8 (by decide) tf_X8_7 rfl rfl rfl ?_
    refine tg_iload_n 1 C0 dX8_stored_40 rfl rfl ?_
    refine tg_if_ne 49 C0 dX8_stored_41 (by decide) (fun _ => ?_) (fun _ => ?_)
    · refine tg_bipush (x := 71) C0 dX8_stored_49 (by decide) ?_
      refine tg_iload_n 2 C0 dX8_stored_51 rfl rfl ?_
      refine tg_iadd C0 dX8_stored_52 ?_
      refine tg_iald 1 C0 dX8_stored_53 (by decide) rfl (fun _ => ?_)
      exact tg_iret C0 dX8_stored_54
    · refine tg_bipush (x := 11) C0 dX8_stored_44 (by decide) ?_
      refine tg_goto 51 C0 dX8_stored_46 (by decide) ?_
      refine tg_iload_n 2 C0 dX8_stored_51 rfl rfl ?_
      refine tg_iadd C0 dX8_stored_52 ?_
      refine tg_iald 1 C0 dX8_stored_53 (by decide) rfl (fun _ => ?_)
      exact tg_iret C0 dX8_stored_54
  · refine tg_iconst (x := 0) C0 dX8_stored_32 (by decide) ?_
    refine tg_goto 54 C0 dX8_stored_33 (by decide) ?_
    exact tg_iret C0 dX8_stored_54
def f_X8_stored_21 (x1 x2 : Int32) (v : tmM) : Option (Int32 × tmM) := f_X8_stored_22 x1 x2 1 v
set_option maxRecDepth 100000 in
set_option maxHeartbeats 4000000 in
theorem w_X8_stored_21 {p : Program} {l : Launch} {e : Env} {s : State} {m : MethodId} {args : Array Value} {below : List Frame} {meth : Method} {c : Code} {D : va_G} {cy : Nat → ClassId} {ad : Nat → Nat} {A : Nat → Prop} {z : (Int32 × tmM)} (C0 : tmC p s m args meth c cX8_stored 3 (some .int) RX8 TMW tm_NWR D cy tm_shR ad 13 [] A) (x1 x2 : Int32) (v : tmM) : tmG p l e ({ frames := 2, cells := 0, slots := 0, locals := 42 } : Room) s m args below meth c 0 0 (MQ below (va_Qi (fun r u => z = (r, u)) (tmAt tm_shR 13 D cy ad A) A) args s 0 0 A) 3 D cy tm_shR ad 13 [] A z 21 [(0, .ref (ad 0)), (1, .int x1), (2, .int x2)] [.ref (ad 0)] v (f_X8_stored_21 x1 x2 v) := by
  unfold f_X8_stored_21
  refine tg_iconst (x := 1) C0 dX8_stored_21 (by decide) ?_
  exact w_X8_stored_22 C0 x1 x2 1 v
def f_X8_stored (x1 x2 : Int32) (v : tmM) : Option (Int32 × tmM) := tm_cl (f_X8_in x1 0 1 v) fun r2 v1 => (if r2 = 0 then f_X8_stored_21 x1 x2 v1 else tm_cl (f_X8_isKey x2 v1) fun r5 v4 => (if r5 = 0 then f_X8_stored_21 x1 x2 v4 else f_X8_stored_22 x1 x2 0 v4))
set_option maxRecDepth 100000 in
set_option maxHeartbeats 4000000 in
theorem w_X8_stored {p : Program} {l : Launch} {e : Env} {s : State} {m : MethodId} {args : Array Value} {below : List Frame} {meth : Method} {c : Code} {D : va_G} {cy : Nat → ClassId} {ad : Nat → Nat} {A : Nat → Prop} {z : (Int32 × tmM)} (C0 : tmC p s m args meth c cX8_stored 3 (some .int) RX8 TMW tm_NWR D cy tm_shR ad 13 [] A) (x1 x2 : Int32) (v : tmM) : tmG p l e ({ frames := 2, cells := 0, slots := 0, locals := 42 } : Room) s m args below meth c 0 0 (MQ below (va_Qi (fun r u => z = (r, u)) (tmAt tm_shR 13 D cy ad A) A) args s 0 0 A) 3 D cy tm_shR ad 13 [] A z 0 [(0, .ref (ad 0)), (1, .int x1), (2, .int x2)] [] v (f_X8_stored x1 x2 v) := by
  unfold f_X8_stored
  refine tg_aload_n 0 C0 dX8_stored_0 rfl rfl ?_
  refine tg_iload_n 1 C0 dX8_stored_1 rfl rfl ?_
  refine tg_iconst (x := 0) C0 dX8_stored_2 (by decide) ?_
  refine tg_iconst (x := 1) C0 dX8_stored_3 (by decide) ?_
  refine tg_callSi (As := [.int x1, .int 0, .int 1]) 3 C0 dX8_stored_4 (c_X8_in l x1 0 1 v) rfl rfl (tm_gc tc_X8_in) tl_X8_63 tn_X8 tst_X8_in  rfl rfl rfl rfl (by decide +kernel) ⟨by decide, by decide⟩ (Nat.le_of_ble_eq_true rfl) ⟨by decide, by decide⟩ (fun r2 v1 _ => ?_)
  refine tg_if_eq 21 C0 dX8_stored_7 (by decide) (fun _ => ?_) (fun _ => ?_)
  · exact w_X8_stored_21 C0 x1 x2 v1
  · refine tg_iload_n 2 C0 dX8_stored_10 rfl rfl ?_
    refine tg_callSi (As := [.int x2]) 1 C0 dX8_stored_11 (c_X8_isKey l x2 v1) rfl rfl (tm_gc tc_X8_isKey) tl_X8_116 tn_X8 tst_X8_isKey  rfl rfl rfl rfl (by decide +kernel) ⟨by decide, by decide⟩ (Nat.le_of_ble_eq_true rfl) ⟨by decide, by decide⟩ (fun r5 v4 _ => ?_)
    refine tg_if_eq 21 C0 dX8_stored_14 (by decide) (fun _ => ?_) (fun _ => ?_)
    · exact w_X8_stored_21 C0 x1 x2 v4
    · refine tg_iconst (x := 0) C0 dX8_stored_17 (by decide) ?_
      refine tg_goto 22 C0 dX8_stored_18 (by decide) ?_
      exact w_X8_stored_22 C0 x1 x2 0 v4
theorem c_X8_stored (l : Launch) (x1 x2 : Int32) (v : tmM) : tmMi tm_NWR tm_shR 13 l yX8_stored (Cond.code yX8_stored cX8_stored 3 (some .int) :: TMW) ({ frames := 2, cells := 0, slots := 0, locals := 42 } : Room) (fun ad => [.ref (ad 0), .int x1, .int x2]) v (f_X8_stored x1 x2 v) :=
  tmMi.of (cc := cX8_stored) (nL := 3) (by decide +kernel) rfl tm_NWR_ok (fun _ => Nat.le_of_ble_eq_true rfl) (fun p e s m args below meth c A D cy ad z C0 => w_X8_stored C0 x1 x2 v)
-- ----- X8_isReader
theorem dX8_isReader_0 : decode cX8_isReader 0 = .ok (.iload_n 0, 1) := by decide +kernel
theorem dX8_isReader_1 : decode cX8_isReader 1 = .ok (.iconst 0, 1) := by decide +kernel
theorem dX8_isReader_2 : decode cX8_isReader 2 = .ok (.bipush 7, 2) := by decide +kernel
theorem dX8_isReader_4 : decode cX8_isReader 4 = .ok (.invokestatic 63, 3) := by decide +kernel
theorem dX8_isReader_7 : decode cX8_isReader 7 = .ok (.ireturn, 1) := by decide +kernel
def f_X8_isReader (x0 : Int32) (v : tmM) : Option (Int32 × tmM) := tm_cl (f_X8_in x0 0 7 v) fun r2 v1 => tm_g (tm_bi r2) (some (r2, v1))
set_option maxRecDepth 100000 in
set_option maxHeartbeats 4000000 in
theorem w_X8_isReader {p : Program} {l : Launch} {e : Env} {s : State} {m : MethodId} {args : Array Value} {below : List Frame} {meth : Method} {c : Code} {D : va_G} {cy : Nat → ClassId} {ad : Nat → Nat} {A : Nat → Prop} {z : (Int32 × tmM)} (C0 : tmC p s m args meth c cX8_isReader 1 (some .boolean) RX8 TMW tm_NWR D cy tm_shR ad 13 [] A) (x0 : Int32) (v : tmM) : tmG p l e ({ frames := 1, cells := 0, slots := 0, locals := 22 } : Room) s m args below meth c 0 0 (MQ below (va_Qi (fun r u => z = (r, u)) (tmAt tm_shR 13 D cy ad A) A) args s 0 0 A) 1 D cy tm_shR ad 13 [] A z 0 [(0, .int x0)] [] v (f_X8_isReader x0 v) := by
  unfold f_X8_isReader
  refine tg_iload_n 0 C0 dX8_isReader_0 rfl rfl ?_
  refine tg_iconst (x := 0) C0 dX8_isReader_1 (by decide) ?_
  refine tg_bipush (x := 7) C0 dX8_isReader_2 (by decide) ?_
  refine tg_callSi (As := [.int x0, .int 0, .int 7]) 3 C0 dX8_isReader_4 (c_X8_in l x0 0 7 v) rfl rfl (tm_gc tc_X8_in) tl_X8_63 tn_X8 tst_X8_in  rfl rfl rfl rfl (by decide +kernel) ⟨by decide, by decide⟩ (Nat.le_of_ble_eq_true rfl) ⟨by decide, by decide⟩ (fun r2 v1 _ => ?_)
  exact tg_bret C0 dX8_isReader_7
theorem c_X8_isReader (l : Launch) (x0 : Int32) (v : tmM) : tmMi tm_NWR tm_shR 13 l yX8_isReader (Cond.code yX8_isReader cX8_isReader 1 (some .boolean) :: TMW) ({ frames := 1, cells := 0, slots := 0, locals := 22 } : Room) (fun ad => [.int x0]) v (f_X8_isReader x0 v) :=
  tmMi.of (cc := cX8_isReader) (nL := 1) (by decide +kernel) rfl tm_NWR_ok (fun _ => Nat.le_of_ble_eq_true rfl) (fun p e s m args below meth c A D cy ad z C0 => w_X8_isReader C0 x0 v)
-- ----- X8_sideOf
theorem dX8_sideOf_0 : decode cX8_sideOf 0 = .ok (.aload_n 0, 1) := by decide +kernel
theorem dX8_sideOf_1 : decode cX8_sideOf 1 = .ok (.getfield 7, 3) := by decide +kernel
theorem dX8_sideOf_4 : decode cX8_sideOf 4 = .ok (.iconst 5, 1) := by decide +kernel
theorem dX8_sideOf_5 : decode cX8_sideOf 5 = .ok (.iaload, 1) := by decide +kernel
theorem dX8_sideOf_6 : decode cX8_sideOf 6 = .ok (.iload_n 1, 1) := by decide +kernel
theorem dX8_sideOf_7 : decode cX8_sideOf 7 = .ok (.invokestatic 59, 3) := by decide +kernel
theorem dX8_sideOf_10 : decode cX8_sideOf 10 = .ok (.ifCond .eq 7, 3) := by decide +kernel
theorem dX8_sideOf_13 : decode cX8_sideOf 13 = .ok (.iconst 1, 1) := by decide +kernel
theorem dX8_sideOf_14 : decode cX8_sideOf 14 = .ok (.goto 4, 3) := by decide +kernel
theorem dX8_sideOf_17 : decode cX8_sideOf 17 = .ok (.iconst 0, 1) := by decide +kernel
theorem dX8_sideOf_18 : decode cX8_sideOf 18 = .ok (.ireturn, 1) := by decide +kernel
def f_X8_sideOf (x1 : Int32) (v : tmM) : Option (Int32 × tmM) := tm_g (tm_ix 5 491) (tm_cl (f_X8_has (v 1 (5 : Int32).toNatClampNeg) x1 v) fun r2 v1 => (if r2 = 0 then some (0, v1) else some (1, v1)))
set_option maxRecDepth 100000 in
set_option maxHeartbeats 4000000 in
theorem w_X8_sideOf {p : Program} {l : Launch} {e : Env} {s : State} {m : MethodId} {args : Array Value} {below : List Frame} {meth : Method} {c : Code} {D : va_G} {cy : Nat → ClassId} {ad : Nat → Nat} {A : Nat → Prop} {z : (Int32 × tmM)} (C0 : tmC p s m args meth c cX8_sideOf 2 (some .int) RX8 TMW tm_NWR D cy tm_shR ad 13 [] A) (x1 : Int32) (v : tmM) : tmG p l e ({ frames := 1, cells := 0, slots := 0, locals := 21 } : Room) s m args below meth c 0 0 (MQ below (va_Qi (fun r u => z = (r, u)) (tmAt tm_shR 13 D cy ad A) A) args s 0 0 A) 2 D cy tm_shR ad 13 [] A z 0 [(0, .ref (ad 0)), (1, .int x1)] [] v (f_X8_sideOf x1 v) := by
  unfold f_X8_sideOf
  refine tg_aload_n 0 C0 dX8_sideOf_0 rfl rfl ?_
  refine tg_get 0 1 C0 dX8_sideOf_1 (by decide) rfl rfl tu_X8 (by decide) tf_X8_7 rfl rfl rfl ?_
  refine tg_iconst (x := 5) C0 dX8_sideOf_4 (by decide) ?_
  refine tg_iald 1 C0 dX8_sideOf_5 (by decide) rfl (fun _ => ?_)
  refine tg_iload_n 1 C0 dX8_sideOf_6 rfl rfl ?_
  refine tg_callSi (As := [.int (v 1 (5 : Int32).toNatClampNeg), .int x1]) 2 C0 dX8_sideOf_7 (c_X8_has l (v 1 (5 : Int32).toNatClampNeg) x1 v) rfl rfl (tm_gc tc_X8_has) tl_X8_59 tn_X8 tst_X8_has  rfl rfl rfl rfl (by decide +kernel) ⟨by decide, by decide⟩ (Nat.le_of_ble_eq_true rfl) ⟨by decide, by decide⟩ (fun r2 v1 _ => ?_)
  refine tg_if_eq 17 C0 dX8_sideOf_10 (by decide) (fun _ => ?_) (fun _ => ?_)
  · refine tg_iconst (x := 0) C0 dX8_sideOf_17 (by decide) ?_
    exact tg_iret C0 dX8_sideOf_18
  · refine tg_iconst (x := 1) C0 dX8_sideOf_13 (by decide) ?_
    refine tg_goto 18 C0 dX8_sideOf_14 (by decide) ?_
    exact tg_iret C0 dX8_sideOf_18
theorem c_X8_sideOf (l : Launch) (x1 : Int32) (v : tmM) : tmMi tm_NWR tm_shR 13 l yX8_sideOf (Cond.code yX8_sideOf cX8_sideOf 2 (some .int) :: TMW) ({ frames := 1, cells := 0, slots := 0, locals := 21 } : Room) (fun ad => [.ref (ad 0), .int x1]) v (f_X8_sideOf x1 v) :=
  tmMi.of (cc := cX8_sideOf) (nL := 2) (by decide +kernel) rfl tm_NWR_ok (fun _ => Nat.le_of_ble_eq_true rfl) (fun p e s m args below meth c A D cy ad z C0 => w_X8_sideOf C0 x1 v)
-- ----- X8_read
theorem dX8_read_0 : decode cX8_read 0 = .ok (.aload_n 0, 1) := by decide +kernel
theorem dX8_read_1 : decode cX8_read 1 = .ok (.iload_n 1, 1) := by decide +kernel
theorem dX8_read_2 : decode cX8_read 2 = .ok (.invokestatic 125, 3) := by decide +kernel
theorem dX8_read_5 : decode cX8_read 5 = .ok (.ifCond .eq 14, 3) := by decide +kernel
theorem dX8_read_8 : decode cX8_read 8 = .ok (.iload_n 2, 1) := by decide +kernel
theorem dX8_read_9 : decode cX8_read 9 = .ok (.invokestatic 116, 3) := by decide +kernel
theorem dX8_read_12 : decode cX8_read 12 = .ok (.ifCond .eq 7, 3) := by decide +kernel
theorem dX8_read_15 : decode cX8_read 15 = .ok (.iconst 0, 1) := by decide +kernel
theorem dX8_read_16 : decode cX8_read 16 = .ok (.goto 4, 3) := by decide +kernel
theorem dX8_read_19 : decode cX8_read 19 = .ok (.iconst 1, 1) := by decide +kernel
theorem dX8_read_20 : decode cX8_read 20 = .ok (.putfield 56, 3) := by decide +kernel
theorem dX8_read_23 : decode cX8_read 23 = .ok (.aload_n 0, 1) := by decide +kernel
theorem dX8_read_24 : decode cX8_read 24 = .ok (.getfield 56, 3) := by decide +kernel
theorem dX8_read_27 : decode cX8_read 27 = .ok (.ifCond .le 5, 3) := by decide +kernel
theorem dX8_read_30 : decode cX8_read 30 = .ok (.iconst 0, 1) := by decide +kernel
theorem dX8_read_31 : decode cX8_read 31 = .ok (.ireturn, 1) := by decide +kernel
theorem dX8_read_32 : decode cX8_read 32 = .ok (.aload_n 0, 1) := by decide +kernel
theorem dX8_read_33 : decode cX8_read 33 = .ok (.aload_n 0, 1) := by decide +kernel
theorem dX8_read_34 : decode cX8_read 34 = .ok (.iload_n 1, 1) := by decide +kernel
theorem dX8_read_35 : decode cX8_read 35 = .ok (.invokevirtual 128, 3) := by decide +kernel
theorem dX8_read_38 : decode cX8_read 38 = .ok (.invokevirtual 113, 3) := by decide +kernel
theorem dX8_read_41 : decode cX8_read 41 = .ok (.ifCond .eq 16, 3) := by decide +kernel
theorem dX8_read_44 : decode cX8_read 44 = .ok (.aload_n 0, 1) := by decide +kernel
theorem dX8_read_45 : decode cX8_read 45 = .ok (.aload_n 0, 1) := by decide +kernel
theorem dX8_read_46 : decode cX8_read 46 = .ok (.iload_n 1, 1) := by decide +kernel
theorem dX8_read_47 : decode cX8_read 47 = .ok (.invokevirtual 128, 3) := by decide +kernel
theorem dX8_read_50 : decode cX8_read 50 = .ok (.iload_n 2, 1) := by decide +kernel
theorem dX8_read_51 : decode cX8_read 51 = .ok (.invokevirtual 74, 3) := by decide +kernel
theorem dX8_read_54 : decode cX8_read 54 = .ok (.goto 5, 3) := by decide +kernel
theorem dX8_read_57 : decode cX8_read 57 = .ok (.bipush (-2), 2) := by decide +kernel
theorem dX8_read_59 : decode cX8_read 59 = .ok (.ireturn, 1) := by decide +kernel
theorem tc_X8_isReader : Cond.code yX8_isReader cX8_isReader 1 (some .boolean) ∈ TMW := tm_in 1701 (by decide +kernel) (by decide +kernel)
theorem tl_X8_125 : Cond.methodLink RX8 125 yX8_isReader ∈ TMW := tm_in 1699 (by decide +kernel) (by decide +kernel)
theorem tst_X8_isReader : Cond.static yX8_isReader ∈ TMW := tm_in 1700 (by decide +kernel) (by decide +kernel)
theorem tl_X8_128 : Cond.methodLink RX8 128 yX8_sideOf ∈ TMW := tm_in 1702 (by decide +kernel) (by decide +kernel)
theorem ti_X8_sideOf : Cond.instanceMethod yX8_sideOf ∈ TMW := tm_in 1704 (by decide +kernel) (by decide +kernel)
theorem ts_X8_sideOf : Cond.selects RX8 yX8_sideOf yX8_sideOf ∈ TMW := tm_in 45 (by decide +kernel) (by decide +kernel)
theorem tc_X8_sideOf : Cond.code yX8_sideOf cX8_sideOf 2 (some .int) ∈ TMW := tm_in 1705 (by decide +kernel) (by decide +kernel)
def f_X8_read_20 (x1 x2 s0 : Int32) (v : tmM) : Option (Int32 × tmM) := tm_lt (tm_up v 0 0 s0) fun v3 => (if (v3 0 0) ≤ 0 then tm_cl (f_X8_sideOf x1 v3) fun r5 v4 => tm_cl (f_X8_isUp r5 v4) fun r7 v6 => (if r7 = 0 then some ((-2), v6) else tm_cl (f_X8_sideOf x1 v6) fun r9 v8 => tm_cl (f_X8_valueIn r9 x2 v8) fun r11 v10 => some (r11, v10)) else some (0, v3))
set_option maxRecDepth 100000 in
set_option maxHeartbeats 4000000 in
theorem w_X8_read_20 {p : Program} {l : Launch} {e : Env} {s : State} {m : MethodId} {args : Array Value} {below : List Frame} {meth : Method} {c : Code} {D : va_G} {cy : Nat → ClassId} {ad : Nat → Nat} {A : Nat → Prop} {z : (Int32 × tmM)} (C0 : tmC p s m args meth c cX8_read 3 (some .int) RX8 TMW tm_NWR D cy tm_shR ad 13 [] A) (x1 x2 s0 : Int32) (v : tmM) : tmG p l e ({ frames := 3, cells := 0, slots := 0, locals := 67 } : Room) s m args below meth c 0 0 (MQ below (va_Qi (fun r u => z = (r, u)) (tmAt tm_shR 13 D cy ad A) A) args s 0 0 A) 3 D cy tm_shR ad 13 [] A z 20 [(0, .ref (ad 0)), (1, .int x1), (2, .int x2)] [.int s0, .ref (ad 0)] v (f_X8_read_20 x1 x2 s0 v) := by
  unfold f_X8_read_20
  refine tg_put 0 0 C0 dX8_read_20 (by decide) rfl rfl tu_X8 tyX8_ok nmX8 (by decide) tf_X8_56 rfl rfl rfl rfl rfl rfl ?_
  refine tg_letm (fun v3 _ => ?_)
  refine tg_aload_n 0 C0 dX8_read_23 rfl rfl ?_
  refine tg_get 0 0 C0 dX8_read_24 (by decide) rfl rfl tu_X8 (by decide) tf_X8_56 rfl rfl rfl ?_
  refine tg_if_le 32 C0 dX8_read_27 (by decide) (fun _ => ?_) (fun _ => ?_)
  · refine tg_aload_n 0 C0 dX8_read_32 rfl rfl ?_
    refine tg_aload_n 0 C0 dX8_read_33 rfl rfl ?_
    refine tg_iload_n 1 C0 dX8_read_34 rfl rfl ?_
    refine tg_callVi (As := [.int x1]) 0 1 C0 dX8_read_35 (c_X8_sideOf l x1 v3) rfl rfl (by decide) rfl rfl (tm_gV tl_X8_128 ti_X8_sideOf ts_X8_sideOf tn_X8 tc_X8_sideOf)  rfl rfl rfl rfl (by decide +kernel) ⟨by decide, by decide⟩ (Nat.le_of_ble_eq_true rfl) ⟨by decide, by decide⟩ (fun r5 v4 _ => ?_)
    refine tg_callVi (As := [.int r5]) 0 1 C0 dX8_read_38 (c_X8_isUp l r5 v4) rfl rfl (by decide) rfl rfl (tm_gV tl_X8_113 ti_X8_isUp ts_X8_isUp tn_X8 tc_X8_isUp)  rfl rfl rfl rfl (by decide +kernel) ⟨by decide, by decide⟩ (Nat.le_of_ble_eq_true rfl) ⟨by decide, by decide⟩ (fun r7 v6 _ => ?_)
    refine tg_if_eq 57 C0 dX8_read_41 (by decide) (fun _ => ?_) (fun _ => ?_)
    · refine tg_bipush (x := (-2)) C0 dX8_read_57 (by decide) ?_
      exact tg_iret C0 dX8_read_59
    · refine tg_aload_n 0 C0 dX8_read_44 rfl rfl ?_
      refine tg_aload_n 0 C0 dX8_read_45 rfl rfl ?_
      refine tg_iload_n 1 C0 dX8_read_46 rfl rfl ?_
      refine tg_callVi (As := [.int x1]) 0 1 C0 dX8_read_47 (c_X8_sideOf l x1 v6) rfl rfl (by decide) rfl rfl (tm_gV tl_X8_128 ti_X8_sideOf ts_X8_sideOf tn_X8 tc_X8_sideOf)  rfl rfl rfl rfl (by decide +kernel) ⟨by decide, by decide⟩ (Nat.le_of_ble_eq_true rfl) ⟨by decide, by decide⟩ (fun r9 v8 _ => ?_)
      refine tg_iload_n 2 C0 dX8_read_50 rfl rfl ?_
      refine tg_callVi (As := [.int r9, .int x2]) 0 2 C0 dX8_read_51 (c_X8_valueIn l r9 x2 v8) rfl rfl (by decide) rfl rfl (tm_gV tl_X8_74 ti_X8_valueIn ts_X8_valueIn tn_X8 tc_X8_valueIn)  rfl rfl rfl rfl (by decide +kernel) ⟨by decide, by decide⟩ (Nat.le_of_ble_eq_true rfl) ⟨by decide, by decide⟩ (fun r11 v10 _ => ?_)
      refine tg_goto 59 C0 dX8_read_54 (by decide) ?_
      exact tg_iret C0 dX8_read_59
  · refine tg_iconst (x := 0) C0 dX8_read_30 (by decide) ?_
    exact tg_iret C0 dX8_read_31
def f_X8_read_19 (x1 x2 : Int32) (v : tmM) : Option (Int32 × tmM) := f_X8_read_20 x1 x2 1 v
set_option maxRecDepth 100000 in
set_option maxHeartbeats 4000000 in
theorem w_X8_read_19 {p : Program} {l : Launch} {e : Env} {s : State} {m : MethodId} {args : Array Value} {below : List Frame} {meth : Method} {c : Code} {D : va_G} {cy : Nat → ClassId} {ad : Nat → Nat} {A : Nat → Prop} {z : (Int32 × tmM)} (C0 : tmC p s m args meth c cX8_read 3 (some .int) RX8 TMW tm_NWR D cy tm_shR ad 13 [] A) (x1 x2 : Int32) (v : tmM) : tmG p l e ({ frames := 3, cells := 0, slots := 0, locals := 67 } : Room) s m args below meth c 0 0 (MQ below (va_Qi (fun r u => z = (r, u)) (tmAt tm_shR 13 D cy ad A) A) args s 0 0 A) 3 D cy tm_shR ad 13 [] A z 19 [(0, .ref (ad 0)), (1, .int x1), (2, .int x2)] [.ref (ad 0)] v (f_X8_read_19 x1 x2 v) := by
  unfold f_X8_read_19
  refine tg_iconst (x := 1) C0 dX8_read_19 (by decide) ?_
  exact w_X8_read_20 C0 x1 x2 1 v
def f_X8_read (x1 x2 : Int32) (v : tmM) : Option (Int32 × tmM) := tm_cl (f_X8_isReader x1 v) fun r2 v1 => (if r2 = 0 then f_X8_read_19 x1 x2 v1 else tm_cl (f_X8_isKey x2 v1) fun r13 v12 => (if r13 = 0 then f_X8_read_19 x1 x2 v12 else f_X8_read_20 x1 x2 0 v12))
set_option maxRecDepth 100000 in
set_option maxHeartbeats 4000000 in
theorem w_X8_read {p : Program} {l : Launch} {e : Env} {s : State} {m : MethodId} {args : Array Value} {below : List Frame} {meth : Method} {c : Code} {D : va_G} {cy : Nat → ClassId} {ad : Nat → Nat} {A : Nat → Prop} {z : (Int32 × tmM)} (C0 : tmC p s m args meth c cX8_read 3 (some .int) RX8 TMW tm_NWR D cy tm_shR ad 13 [] A) (x1 x2 : Int32) (v : tmM) : tmG p l e ({ frames := 3, cells := 0, slots := 0, locals := 67 } : Room) s m args below meth c 0 0 (MQ below (va_Qi (fun r u => z = (r, u)) (tmAt tm_shR 13 D cy ad A) A) args s 0 0 A) 3 D cy tm_shR ad 13 [] A z 0 [(0, .ref (ad 0)), (1, .int x1), (2, .int x2)] [] v (f_X8_read x1 x2 v) := by
  unfold f_X8_read
  refine tg_aload_n 0 C0 dX8_read_0 rfl rfl ?_
  refine tg_iload_n 1 C0 dX8_read_1 rfl rfl ?_
  refine tg_callSi (As := [.int x1]) 1 C0 dX8_read_2 (c_X8_isReader l x1 v) rfl rfl (tm_gc tc_X8_isReader) tl_X8_125 tn_X8 tst_X8_isReader  rfl rfl rfl rfl (by decide +kernel) ⟨by decide, by decide⟩ (Nat.le_of_ble_eq_true rfl) ⟨by decide, by decide⟩ (fun r2 v1 _ => ?_)
  refine tg_if_eq 19 C0 dX8_read_5 (by decide) (fun _ => ?_) (fun _ => ?_)
  · exact w_X8_read_19 C0 x1 x2 v1
  · refine tg_iload_n 2 C0 dX8_read_8 rfl rfl ?_
    refine tg_callSi (As := [.int x2]) 1 C0 dX8_read_9 (c_X8_isKey l x2 v1) rfl rfl (tm_gc tc_X8_isKey) tl_X8_116 tn_X8 tst_X8_isKey  rfl rfl rfl rfl (by decide +kernel) ⟨by decide, by decide⟩ (Nat.le_of_ble_eq_true rfl) ⟨by decide, by decide⟩ (fun r13 v12 _ => ?_)
    refine tg_if_eq 19 C0 dX8_read_12 (by decide) (fun _ => ?_) (fun _ => ?_)
    · exact w_X8_read_19 C0 x1 x2 v12
    · refine tg_iconst (x := 0) C0 dX8_read_15 (by decide) ?_
      refine tg_goto 20 C0 dX8_read_16 (by decide) ?_
      exact w_X8_read_20 C0 x1 x2 0 v12
theorem c_X8_read (l : Launch) (x1 x2 : Int32) (v : tmM) : tmMi tm_NWR tm_shR 13 l yX8_read (Cond.code yX8_read cX8_read 3 (some .int) :: TMW) ({ frames := 3, cells := 0, slots := 0, locals := 67 } : Room) (fun ad => [.ref (ad 0), .int x1, .int x2]) v (f_X8_read x1 x2 v) :=
  tmMi.of (cc := cX8_read) (nL := 3) (by decide +kernel) rfl tm_NWR_ok (fun _ => Nat.le_of_ble_eq_true rfl) (fun p e s m args below meth c A D cy ad z C0 => w_X8_read C0 x1 x2 v)
-- ----- X8_isSwitched
theorem dX8_isSwitched_0 : decode cX8_isSwitched 0 = .ok (.aload_n 0, 1) := by decide +kernel
theorem dX8_isSwitched_1 : decode cX8_isSwitched 1 = .ok (.iload_n 1, 1) := by decide +kernel
theorem dX8_isSwitched_2 : decode cX8_isSwitched 2 = .ok (.invokestatic 125, 3) := by decide +kernel
theorem dX8_isSwitched_5 : decode cX8_isSwitched 5 = .ok (.ifCond .eq 7, 3) := by decide +kernel
theorem dX8_isSwitched_8 : decode cX8_isSwitched 8 = .ok (.iconst 0, 1) := by decide +kernel
theorem dX8_isSwitched_9 : decode cX8_isSwitched 9 = .ok (.goto 4, 3) := by decide +kernel
theorem dX8_isSwitched_12 : decode cX8_isSwitched 12 = .ok (.iconst 1, 1) := by decide +kernel
theorem dX8_isSwitched_13 : decode cX8_isSwitched 13 = .ok (.putfield 56, 3) := by decide +kernel
theorem dX8_isSwitched_16 : decode cX8_isSwitched 16 = .ok (.aload_n 0, 1) := by decide +kernel
theorem dX8_isSwitched_17 : decode cX8_isSwitched 17 = .ok (.getfield 56, 3) := by decide +kernel
theorem dX8_isSwitched_20 : decode cX8_isSwitched 20 = .ok (.ifCond .ne 20, 3) := by decide +kernel
theorem dX8_isSwitched_23 : decode cX8_isSwitched 23 = .ok (.aload_n 0, 1) := by decide +kernel
theorem dX8_isSwitched_24 : decode cX8_isSwitched 24 = .ok (.getfield 7, 3) := by decide +kernel
theorem dX8_isSwitched_27 : decode cX8_isSwitched 27 = .ok (.iconst 5, 1) := by decide +kernel
theorem dX8_isSwitched_28 : decode cX8_isSwitched 28 = .ok (.iaload, 1) := by decide +kernel
theorem dX8_isSwitched_29 : decode cX8_isSwitched 29 = .ok (.iload_n 1, 1) := by decide +kernel
theorem dX8_isSwitched_30 : decode cX8_isSwitched 30 = .ok (.invokestatic 59, 3) := by decide +kernel
theorem dX8_isSwitched_33 : decode cX8_isSwitched 33 = .ok (.ifCond .eq 7, 3) := by decide +kernel
theorem dX8_isSwitched_36 : decode cX8_isSwitched 36 = .ok (.iconst 1, 1) := by decide +kernel
theorem dX8_isSwitched_37 : decode cX8_isSwitched 37 = .ok (.goto 4, 3) := by decide +kernel
theorem dX8_isSwitched_40 : decode cX8_isSwitched 40 = .ok (.iconst 0, 1) := by decide +kernel
theorem dX8_isSwitched_41 : decode cX8_isSwitched 41 = .ok (.ireturn, 1) := by decide +kernel
def f_X8_isSwitched_13 (x1 s0 : Int32) (v : tmM) : Option (Int32 × tmM) := tm_lt (tm_up v 0 0 s0) fun v3 => (if (v3 0 0) = 0 then tm_g (tm_ix 5 491) (tm_cl (f_X8_has (v3 1 (5 : Int32).toNatClampNeg) x1 v3) fun r5 v4 => (if r5 = 0 then some (0, v4) else some (1, v4))) else some (0, v3))
set_option maxRecDepth 100000 in
set_option maxHeartbeats 4000000 in
theorem w_X8_isSwitched_13 {p : Program} {l : Launch} {e : Env} {s : State} {m : MethodId} {args : Array Value} {below : List Frame} {meth : Method} {c : Code} {D : va_G} {cy : Nat → ClassId} {ad : Nat → Nat} {A : Nat → Prop} {z : (Int32 × tmM)} (C0 : tmC p s m args meth c cX8_isSwitched 2 (some .boolean) RX8 TMW tm_NWR D cy tm_shR ad 13 [] A) (x1 s0 : Int32) (v : tmM) : tmG p l e ({ frames := 2, cells := 0, slots := 0, locals := 42 } : Room) s m args below meth c 0 0 (MQ below (va_Qi (fun r u => z = (r, u)) (tmAt tm_shR 13 D cy ad A) A) args s 0 0 A) 2 D cy tm_shR ad 13 [] A z 13 [(0, .ref (ad 0)), (1, .int x1)] [.int s0, .ref (ad 0)] v (f_X8_isSwitched_13 x1 s0 v) := by
  unfold f_X8_isSwitched_13
  refine tg_put 0 0 C0 dX8_isSwitched_13 (by decide) rfl rfl tu_X8 tyX8_ok nmX8 (by decide) tf_X8_56 rfl rfl rfl rfl rfl rfl ?_
  refine tg_letm (fun v3 _ => ?_)
  refine tg_aload_n 0 C0 dX8_isSwitched_16 rfl rfl ?_
  refine tg_get 0 0 C0 dX8_isSwitched_17 (by decide) rfl rfl tu_X8 (by decide) tf_X8_56 rfl rfl rfl ?_
  refine tg_if_ne 40 C0 dX8_isSwitched_20 (by decide) (fun _ => ?_) (fun _ => ?_)
  · refine tg_iconst (x := 0) C0 dX8_isSwitched_40 (by decide) ?_
    exact tg_zret C0 dX8_isSwitched_41 rfl
  · refine tg_aload_n 0 C0 dX8_isSwitched_23 rfl rfl ?_
    refine tg_get 0 1 C0 dX8_isSwitched_24 (by decide) rfl rfl tu_X8 (by decide) tf_X8_7 rfl rfl rfl ?_
    refine tg_iconst (x := 5) C0 dX8_isSwitched_27 (by decide) ?_
    refine tg_iald 1 C0 dX8_isSwitched_28 (by decide) rfl (fun _ => ?_)
    refine tg_iload_n 1 C0 dX8_isSwitched_29 rfl rfl ?_
    refine tg_callSi (As := [.int (v3 1 (5 : Int32).toNatClampNeg), .int x1]) 2 C0 dX8_isSwitched_30 (c_X8_has l (v3 1 (5 : Int32).toNatClampNeg) x1 v3) rfl rfl (tm_gc tc_X8_has) tl_X8_59 tn_X8 tst_X8_has  rfl rfl rfl rfl (by decide +kernel) ⟨by decide, by decide⟩ (Nat.le_of_ble_eq_true rfl) ⟨by decide, by decide⟩ (fun r5 v4 _ => ?_)
    refine tg_if_eq 40 C0 dX8_isSwitched_33 (by decide) (fun _ => ?_) (fun _ => ?_)
    · refine tg_iconst (x := 0) C0 dX8_isSwitched_40 (by decide) ?_
      exact tg_zret C0 dX8_isSwitched_41 rfl
    · refine tg_iconst (x := 1) C0 dX8_isSwitched_36 (by decide) ?_
      refine tg_goto 41 C0 dX8_isSwitched_37 (by decide) ?_
      exact tg_zret C0 dX8_isSwitched_41 rfl
def f_X8_isSwitched (x1 : Int32) (v : tmM) : Option (Int32 × tmM) := tm_cl (f_X8_isReader x1 v) fun r2 v1 => (if r2 = 0 then f_X8_isSwitched_13 x1 1 v1 else f_X8_isSwitched_13 x1 0 v1)
set_option maxRecDepth 100000 in
set_option maxHeartbeats 4000000 in
theorem w_X8_isSwitched {p : Program} {l : Launch} {e : Env} {s : State} {m : MethodId} {args : Array Value} {below : List Frame} {meth : Method} {c : Code} {D : va_G} {cy : Nat → ClassId} {ad : Nat → Nat} {A : Nat → Prop} {z : (Int32 × tmM)} (C0 : tmC p s m args meth c cX8_isSwitched 2 (some .boolean) RX8 TMW tm_NWR D cy tm_shR ad 13 [] A) (x1 : Int32) (v : tmM) : tmG p l e ({ frames := 2, cells := 0, slots := 0, locals := 42 } : Room) s m args below meth c 0 0 (MQ below (va_Qi (fun r u => z = (r, u)) (tmAt tm_shR 13 D cy ad A) A) args s 0 0 A) 2 D cy tm_shR ad 13 [] A z 0 [(0, .ref (ad 0)), (1, .int x1)] [] v (f_X8_isSwitched x1 v) := by
  unfold f_X8_isSwitched
  refine tg_aload_n 0 C0 dX8_isSwitched_0 rfl rfl ?_
  refine tg_iload_n 1 C0 dX8_isSwitched_1 rfl rfl ?_
  refine tg_callSi (As := [.int x1]) 1 C0 dX8_isSwitched_2 (c_X8_isReader l x1 v) rfl rfl (tm_gc tc_X8_isReader) tl_X8_125 tn_X8 tst_X8_isReader  rfl rfl rfl rfl (by decide +kernel) ⟨by decide, by decide⟩ (Nat.le_of_ble_eq_true rfl) ⟨by decide, by decide⟩ (fun r2 v1 _ => ?_)
  refine tg_if_eq 12 C0 dX8_isSwitched_5 (by decide) (fun _ => ?_) (fun _ => ?_)
  · refine tg_iconst (x := 1) C0 dX8_isSwitched_12 (by decide) ?_
    exact w_X8_isSwitched_13 C0 x1 1 v1
  · refine tg_iconst (x := 0) C0 dX8_isSwitched_8 (by decide) ?_
    refine tg_goto 13 C0 dX8_isSwitched_9 (by decide) ?_
    exact w_X8_isSwitched_13 C0 x1 0 v1
theorem c_X8_isSwitched (l : Launch) (x1 : Int32) (v : tmM) : tmMi tm_NWR tm_shR 13 l yX8_isSwitched (Cond.code yX8_isSwitched cX8_isSwitched 2 (some .boolean) :: TMW) ({ frames := 2, cells := 0, slots := 0, locals := 42 } : Room) (fun ad => [.ref (ad 0), .int x1]) v (f_X8_isSwitched x1 v) :=
  tmMi.of (cc := cX8_isSwitched) (nL := 2) (by decide +kernel) rfl tm_NWR_ok (fun _ => Nat.le_of_ble_eq_true rfl) (fun p e s m args below meth c A D cy ad z C0 => w_X8_isSwitched C0 x1 v)
-- ----- X8_isChunk
theorem dX8_isChunk_0 : decode cX8_isChunk 0 = .ok (.iload_n 0, 1) := by decide +kernel
theorem dX8_isChunk_1 : decode cX8_isChunk 1 = .ok (.iconst 0, 1) := by decide +kernel
theorem dX8_isChunk_2 : decode cX8_isChunk 2 = .ok (.bipush 14, 2) := by decide +kernel
theorem dX8_isChunk_4 : decode cX8_isChunk 4 = .ok (.invokestatic 63, 3) := by decide +kernel
theorem dX8_isChunk_7 : decode cX8_isChunk 7 = .ok (.ireturn, 1) := by decide +kernel
def f_X8_isChunk (x0 : Int32) (v : tmM) : Option (Int32 × tmM) := tm_cl (f_X8_in x0 0 14 v) fun r2 v1 => tm_g (tm_bi r2) (some (r2, v1))
set_option maxRecDepth 100000 in
set_option maxHeartbeats 4000000 in
theorem w_X8_isChunk {p : Program} {l : Launch} {e : Env} {s : State} {m : MethodId} {args : Array Value} {below : List Frame} {meth : Method} {c : Code} {D : va_G} {cy : Nat → ClassId} {ad : Nat → Nat} {A : Nat → Prop} {z : (Int32 × tmM)} (C0 : tmC p s m args meth c cX8_isChunk 1 (some .boolean) RX8 TMW tm_NWR D cy tm_shR ad 13 [] A) (x0 : Int32) (v : tmM) : tmG p l e ({ frames := 1, cells := 0, slots := 0, locals := 22 } : Room) s m args below meth c 0 0 (MQ below (va_Qi (fun r u => z = (r, u)) (tmAt tm_shR 13 D cy ad A) A) args s 0 0 A) 1 D cy tm_shR ad 13 [] A z 0 [(0, .int x0)] [] v (f_X8_isChunk x0 v) := by
  unfold f_X8_isChunk
  refine tg_iload_n 0 C0 dX8_isChunk_0 rfl rfl ?_
  refine tg_iconst (x := 0) C0 dX8_isChunk_1 (by decide) ?_
  refine tg_bipush (x := 14) C0 dX8_isChunk_2 (by decide) ?_
  refine tg_callSi (As := [.int x0, .int 0, .int 14]) 3 C0 dX8_isChunk_4 (c_X8_in l x0 0 14 v) rfl rfl (tm_gc tc_X8_in) tl_X8_63 tn_X8 tst_X8_in  rfl rfl rfl rfl (by decide +kernel) ⟨by decide, by decide⟩ (Nat.le_of_ble_eq_true rfl) ⟨by decide, by decide⟩ (fun r2 v1 _ => ?_)
  exact tg_bret C0 dX8_isChunk_7
theorem c_X8_isChunk (l : Launch) (x0 : Int32) (v : tmM) : tmMi tm_NWR tm_shR 13 l yX8_isChunk (Cond.code yX8_isChunk cX8_isChunk 1 (some .boolean) :: TMW) ({ frames := 1, cells := 0, slots := 0, locals := 22 } : Room) (fun ad => [.int x0]) v (f_X8_isChunk x0 v) :=
  tmMi.of (cc := cX8_isChunk) (nL := 1) (by decide +kernel) rfl tm_NWR_ok (fun _ => Nat.le_of_ble_eq_true rfl) (fun p e s m args below meth c A D cy ad z C0 => w_X8_isChunk C0 x0 v)
-- ----- X8_chunk
theorem dX8_chunk_0 : decode cX8_chunk 0 = .ok (.aload_n 0, 1) := by decide +kernel
theorem dX8_chunk_1 : decode cX8_chunk 1 = .ok (.iload_n 1, 1) := by decide +kernel
theorem dX8_chunk_2 : decode cX8_chunk 2 = .ok (.invokestatic 131, 3) := by decide +kernel
theorem dX8_chunk_5 : decode cX8_chunk 5 = .ok (.ifCond .ne 7, 3) := by decide +kernel
theorem dX8_chunk_8 : decode cX8_chunk 8 = .ok (.iconst 1, 1) := by decide +kernel
theorem dX8_chunk_9 : decode cX8_chunk 9 = .ok (.goto 17, 3) := by decide +kernel
theorem dX8_chunk_12 : decode cX8_chunk 12 = .ok (.iload_n 2, 1) := by decide +kernel
theorem dX8_chunk_13 : decode cX8_chunk 13 = .ok (.iconst 0, 1) := by decide +kernel
theorem dX8_chunk_14 : decode cX8_chunk 14 = .ok (.iconst 5, 1) := by decide +kernel
theorem dX8_chunk_15 : decode cX8_chunk 15 = .ok (.invokestatic 63, 3) := by decide +kernel
theorem dX8_chunk_18 : decode cX8_chunk 18 = .ok (.ifCond .eq 7, 3) := by decide +kernel
theorem dX8_chunk_21 : decode cX8_chunk 21 = .ok (.iconst 0, 1) := by decide +kernel
theorem dX8_chunk_22 : decode cX8_chunk 22 = .ok (.goto 4, 3) := by decide +kernel
theorem dX8_chunk_25 : decode cX8_chunk 25 = .ok (.iconst 2, 1) := by decide +kernel
theorem dX8_chunk_26 : decode cX8_chunk 26 = .ok (.putfield 56, 3) := by decide +kernel
theorem dX8_chunk_29 : decode cX8_chunk 29 = .ok (.aload_n 0, 1) := by decide +kernel
theorem dX8_chunk_30 : decode cX8_chunk 30 = .ok (.getfield 56, 3) := by decide +kernel
theorem dX8_chunk_33 : decode cX8_chunk 33 = .ok (.ifCond .le 7, 3) := by decide +kernel
theorem dX8_chunk_36 : decode cX8_chunk 36 = .ok (.iconst (-1), 1) := by decide +kernel
theorem dX8_chunk_37 : decode cX8_chunk 37 = .ok (.goto 4, 3) := by decide +kernel
theorem dX8_chunk_40 : decode cX8_chunk 40 = .ok (.iload_n 2, 1) := by decide +kernel
theorem dX8_chunk_41 : decode cX8_chunk 41 = .ok (.tableswitch 99 (-1) 4 #[39, 41, 60, 79, 86, 93], 39) := by decide +kernel
theorem dX8_chunk_80 : decode cX8_chunk 80 = .ok (.iconst 0, 1) := by decide +kernel
theorem dX8_chunk_81 : decode cX8_chunk 81 = .ok (.ireturn, 1) := by decide +kernel
theorem dX8_chunk_82 : decode cX8_chunk 82 = .ok (.aload_n 0, 1) := by decide +kernel
theorem dX8_chunk_83 : decode cX8_chunk 83 = .ok (.getfield 7, 3) := by decide +kernel
theorem dX8_chunk_86 : decode cX8_chunk 86 = .ok (.iconst 3, 1) := by decide +kernel
theorem dX8_chunk_87 : decode cX8_chunk 87 = .ok (.iaload, 1) := by decide +kernel
theorem dX8_chunk_88 : decode cX8_chunk 88 = .ok (.iload_n 1, 1) := by decide +kernel
theorem dX8_chunk_89 : decode cX8_chunk 89 = .ok (.invokestatic 59, 3) := by decide +kernel
theorem dX8_chunk_92 : decode cX8_chunk 92 = .ok (.ifCond .eq 7, 3) := by decide +kernel
theorem dX8_chunk_95 : decode cX8_chunk 95 = .ok (.iconst 1, 1) := by decide +kernel
theorem dX8_chunk_96 : decode cX8_chunk 96 = .ok (.goto 4, 3) := by decide +kernel
theorem dX8_chunk_99 : decode cX8_chunk 99 = .ok (.iconst 0, 1) := by decide +kernel
theorem dX8_chunk_100 : decode cX8_chunk 100 = .ok (.ireturn, 1) := by decide +kernel
theorem dX8_chunk_101 : decode cX8_chunk 101 = .ok (.aload_n 0, 1) := by decide +kernel
theorem dX8_chunk_102 : decode cX8_chunk 102 = .ok (.getfield 7, 3) := by decide +kernel
theorem dX8_chunk_105 : decode cX8_chunk 105 = .ok (.iconst 4, 1) := by decide +kernel
theorem dX8_chunk_106 : decode cX8_chunk 106 = .ok (.iaload, 1) := by decide +kernel
theorem dX8_chunk_107 : decode cX8_chunk 107 = .ok (.iload_n 1, 1) := by decide +kernel
theorem dX8_chunk_108 : decode cX8_chunk 108 = .ok (.invokestatic 59, 3) := by decide +kernel
theorem dX8_chunk_111 : decode cX8_chunk 111 = .ok (.ifCond .eq 7, 3) := by decide +kernel
theorem dX8_chunk_114 : decode cX8_chunk 114 = .ok (.iconst 1, 1) := by decide +kernel
theorem dX8_chunk_115 : decode cX8_chunk 115 = .ok (.goto 4, 3) := by decide +kernel
theorem dX8_chunk_118 : decode cX8_chunk 118 = .ok (.iconst 0, 1) := by decide +kernel
theorem dX8_chunk_119 : decode cX8_chunk 119 = .ok (.ireturn, 1) := by decide +kernel
theorem dX8_chunk_120 : decode cX8_chunk 120 = .ok (.aload_n 0, 1) := by decide +kernel
theorem dX8_chunk_121 : decode cX8_chunk 121 = .ok (.iconst 0, 1) := by decide +kernel
theorem dX8_chunk_122 : decode cX8_chunk 122 = .ok (.iload_n 1, 1) := by decide +kernel
theorem dX8_chunk_123 : decode cX8_chunk 123 = .ok (.invokevirtual 134, 3) := by decide +kernel
theorem dX8_chunk_126 : decode cX8_chunk 126 = .ok (.ireturn, 1) := by decide +kernel
theorem dX8_chunk_127 : decode cX8_chunk 127 = .ok (.aload_n 0, 1) := by decide +kernel
theorem dX8_chunk_128 : decode cX8_chunk 128 = .ok (.iconst 1, 1) := by decide +kernel
theorem dX8_chunk_129 : decode cX8_chunk 129 = .ok (.iload_n 1, 1) := by decide +kernel
theorem dX8_chunk_130 : decode cX8_chunk 130 = .ok (.invokevirtual 134, 3) := by decide +kernel
theorem dX8_chunk_133 : decode cX8_chunk 133 = .ok (.ireturn, 1) := by decide +kernel
theorem dX8_chunk_134 : decode cX8_chunk 134 = .ok (.aload_n 0, 1) := by decide +kernel
theorem dX8_chunk_135 : decode cX8_chunk 135 = .ok (.iload_n 1, 1) := by decide +kernel
theorem dX8_chunk_136 : decode cX8_chunk 136 = .ok (.invokevirtual 137, 3) := by decide +kernel
theorem dX8_chunk_139 : decode cX8_chunk 139 = .ok (.ireturn, 1) := by decide +kernel
theorem dX8_chunk_140 : decode cX8_chunk 140 = .ok (.aload_n 0, 1) := by decide +kernel
theorem dX8_chunk_141 : decode cX8_chunk 141 = .ok (.invokevirtual 140, 3) := by decide +kernel
theorem dX8_chunk_144 : decode cX8_chunk 144 = .ok (.ifCond .eq 11, 3) := by decide +kernel
theorem dX8_chunk_147 : decode cX8_chunk 147 = .ok (.aload_n 0, 1) := by decide +kernel
theorem dX8_chunk_148 : decode cX8_chunk 148 = .ok (.iload_n 1, 1) := by decide +kernel
theorem dX8_chunk_149 : decode cX8_chunk 149 = .ok (.invokevirtual 144, 3) := by decide +kernel
theorem dX8_chunk_152 : decode cX8_chunk 152 = .ok (.goto 4, 3) := by decide +kernel
theorem dX8_chunk_155 : decode cX8_chunk 155 = .ok (.iconst (-1), 1) := by decide +kernel
theorem dX8_chunk_156 : decode cX8_chunk 156 = .ok (.ireturn, 1) := by decide +kernel
theorem tc_X8_isChunk : Cond.code yX8_isChunk cX8_isChunk 1 (some .boolean) ∈ TMW := tm_in 1724 (by decide +kernel) (by decide +kernel)
theorem tl_X8_131 : Cond.methodLink RX8 131 yX8_isChunk ∈ TMW := tm_in 1722 (by decide +kernel) (by decide +kernel)
theorem tst_X8_isChunk : Cond.static yX8_isChunk ∈ TMW := tm_in 1723 (by decide +kernel) (by decide +kernel)
theorem tl_X8_134 : Cond.methodLink RX8 134 yX8_sumOf ∈ TMW := tm_in 1725 (by decide +kernel) (by decide +kernel)
theorem ti_X8_sumOf : Cond.instanceMethod yX8_sumOf ∈ TMW := tm_in 1727 (by decide +kernel) (by decide +kernel)
theorem ts_X8_sumOf : Cond.selects RX8 yX8_sumOf yX8_sumOf ∈ TMW := tm_in 48 (by decide +kernel) (by decide +kernel)
theorem tc_X8_sumOf : Cond.code yX8_sumOf cX8_sumOf 6 (some .int) ∈ TMW := tm_in 1728 (by decide +kernel) (by decide +kernel)
theorem tl_X8_137 : Cond.methodLink RX8 137 yX8_staleIn ∈ TMW := tm_in 1729 (by decide +kernel) (by decide +kernel)
theorem ti_X8_staleIn : Cond.instanceMethod yX8_staleIn ∈ TMW := tm_in 1731 (by decide +kernel) (by decide +kernel)
theorem ts_X8_staleIn : Cond.selects RX8 yX8_staleIn yX8_staleIn ∈ TMW := tm_in 49 (by decide +kernel) (by decide +kernel)
theorem tc_X8_staleIn : Cond.code yX8_staleIn cX8_staleIn 4 (some .int) ∈ TMW := tm_in 1732 (by decide +kernel) (by decide +kernel)
theorem tl_X8_140 : Cond.methodLink RX8 140 yX8_isBoth ∈ TMW := tm_in 1733 (by decide +kernel) (by decide +kernel)
theorem ti_X8_isBoth : Cond.instanceMethod yX8_isBoth ∈ TMW := tm_in 1735 (by decide +kernel) (by decide +kernel)
theorem ts_X8_isBoth : Cond.selects RX8 yX8_isBoth yX8_isBoth ∈ TMW := tm_in 50 (by decide +kernel) (by decide +kernel)
theorem tc_X8_isBoth : Cond.code yX8_isBoth cX8_isBoth 1 (some .boolean) ∈ TMW := tm_in 1736 (by decide +kernel) (by decide +kernel)
theorem tl_X8_144 : Cond.methodLink RX8 144 yX8_firstUnlike ∈ TMW := tm_in 1737 (by decide +kernel) (by decide +kernel)
theorem ti_X8_firstUnlike : Cond.instanceMethod yX8_firstUnlike ∈ TMW := tm_in 1739 (by decide +kernel) (by decide +kernel)
theorem ts_X8_firstUnlike : Cond.selects RX8 yX8_firstUnlike yX8_firstUnlike ∈ TMW := tm_in 51 (by decide +kernel) (by decide +kernel)
theorem tc_X8_firstUnlike : Cond.code yX8_firstUnlike cX8_firstUnlike 3 (some .int) ∈ TMW := tm_in 1740 (by decide +kernel) (by decide +kernel)
def f_X8_chunk_41 (x1 s0 : Int32) (v : tmM) : Option (Int32 × tmM) := (if s0 = (-1) then some (0, v) else if s0 = 0 then tm_g (tm_ix 3 491) (tm_cl (f_X8_has (v 1 (3 : Int32).toNatClampNeg) x1 v) fun r8 v7 => (if r8 = 0 then some (0, v7) else some (1, v7))) else if s0 = 1 then tm_g (tm_ix 4 491) (tm_cl (f_X8_has (v 1 (4 : Int32).toNatClampNeg) x1 v) fun r11 v10 => (if r11 = 0 then some (0, v10) else some (1, v10))) else if s0 = 2 then tm_cl (f_X8_sumOf 0 x1 v) fun r14 v13 => some (r14, v13) else if s0 = 3 then tm_cl (f_X8_sumOf 1 x1 v) fun r17 v16 => some (r17, v16) else if s0 = 4 then tm_cl (f_X8_staleIn x1 v) fun r20 v19 => some (r20, v19) else tm_cl (f_X8_isBoth v) fun r23 v22 => (if r23 = 0 then some ((-1), v22) else tm_cl (f_X8_firstUnlike x1 v22) fun r25 v24 => some (r25, v24)))
set_option maxRecDepth 100000 in
set_option maxHeartbeats 4000000 in
theorem w_X8_chunk_41 {p : Program} {l : Launch} {e : Env} {s : State} {m : MethodId} {args : Array Value} {below : List Frame} {meth : Method} {c : Code} {D : va_G} {cy : Nat → ClassId} {ad : Nat → Nat} {A : Nat → Prop} {z : (Int32 × tmM)} (C0 : tmC p s m args meth c cX8_chunk 3 (some .int) RX8 TMW tm_NWR D cy tm_shR ad 13 [] A) (x1 s0 : Int32) (v : tmM) : tmG p l e ({ frames := 5, cells := 0, slots := 0, locals := 110 } : Room) s m args below meth c 0 0 (MQ below (va_Qi (fun r u => z = (r, u)) (tmAt tm_shR 13 D cy ad A) A) args s 0 0 A) 3 D cy tm_shR ad 13 [] A z 41 [(0, .ref (ad 0)), (1, .int x1)] [.int s0] v (f_X8_chunk_41 x1 s0 v) := by
  unfold f_X8_chunk_41
  refine tg_tab 0 (cst := (-1)) 80 tg_tab0 C0 dX8_chunk_41 (by decide) rfl (by decide) (by decide) (fun _ => ?_) (fun h6 => ?_)
  · refine tg_iconst (x := 0) C0 dX8_chunk_80 (by decide) ?_
    exact tg_iret C0 dX8_chunk_81
  refine tg_tab 1 (cst := 0) 82 h6 C0 dX8_chunk_41 (by decide) rfl (by decide) (by decide) (fun _ => ?_) (fun h9 => ?_)
  · refine tg_aload_n 0 C0 dX8_chunk_82 rfl rfl ?_
    refine tg_get 0 1 C0 dX8_chunk_83 (by decide) rfl rfl tu_X8 (by decide) tf_X8_7 rfl rfl rfl ?_
    refine tg_iconst (x := 3) C0 dX8_chunk_86 (by decide) ?_
    refine tg_iald 1 C0 dX8_chunk_87 (by decide) rfl (fun _ => ?_)
    refine tg_iload_n 1 C0 dX8_chunk_88 rfl rfl ?_
    refine tg_callSi (As := [.int (v 1 (3 : Int32).toNatClampNeg), .int x1]) 2 C0 dX8_chunk_89 (c_X8_has l (v 1 (3 : Int32).toNatClampNeg) x1 v) rfl rfl (tm_gc tc_X8_has) tl_X8_59 tn_X8 tst_X8_has  rfl rfl rfl rfl (by decide +kernel) ⟨by decide, by decide⟩ (Nat.le_of_ble_eq_true rfl) ⟨by decide, by decide⟩ (fun r8 v7 _ => ?_)
    refine tg_if_eq 99 C0 dX8_chunk_92 (by decide) (fun _ => ?_) (fun _ => ?_)
    · refine tg_iconst (x := 0) C0 dX8_chunk_99 (by decide) ?_
      exact tg_iret C0 dX8_chunk_100
    · refine tg_iconst (x := 1) C0 dX8_chunk_95 (by decide) ?_
      refine tg_goto 100 C0 dX8_chunk_96 (by decide) ?_
      exact tg_iret C0 dX8_chunk_100
  refine tg_tab 2 (cst := 1) 101 h9 C0 dX8_chunk_41 (by decide) rfl (by decide) (by decide) (fun _ => ?_) (fun h12 => ?_)
  · refine tg_aload_n 0 C0 dX8_chunk_101 rfl rfl ?_
    refine tg_get 0 1 C0 dX8_chunk_102 (by decide) rfl rfl tu_X8 (by decide) tf_X8_7 rfl rfl rfl ?_
    refine tg_iconst (x := 4) C0 dX8_chunk_105 (by decide) ?_
    refine tg_iald 1 C0 dX8_chunk_106 (by decide) rfl (fun _ => ?_)
    refine tg_iload_n 1 C0 dX8_chunk_107 rfl rfl ?_
    refine tg_callSi (As := [.int (v 1 (4 : Int32).toNatClampNeg), .int x1]) 2 C0 dX8_chunk_108 (c_X8_has l (v 1 (4 : Int32).toNatClampNeg) x1 v) rfl rfl (tm_gc tc_X8_has) tl_X8_59 tn_X8 tst_X8_has  rfl rfl rfl rfl (by decide +kernel) ⟨by decide, by decide⟩ (Nat.le_of_ble_eq_true rfl) ⟨by decide, by decide⟩ (fun r11 v10 _ => ?_)
    refine tg_if_eq 118 C0 dX8_chunk_111 (by decide) (fun _ => ?_) (fun _ => ?_)
    · refine tg_iconst (x := 0) C0 dX8_chunk_118 (by decide) ?_
      exact tg_iret C0 dX8_chunk_119
    · refine tg_iconst (x := 1) C0 dX8_chunk_114 (by decide) ?_
      refine tg_goto 119 C0 dX8_chunk_115 (by decide) ?_
      exact tg_iret C0 dX8_chunk_119
  refine tg_tab 3 (cst := 2) 120 h12 C0 dX8_chunk_41 (by decide) rfl (by decide) (by decide) (fun _ => ?_) (fun h15 => ?_)
  · refine tg_aload_n 0 C0 dX8_chunk_120 rfl rfl ?_
    refine tg_iconst (x := 0) C0 dX8_chunk_121 (by decide) ?_
    refine tg_iload_n 1 C0 dX8_chunk_122 rfl rfl ?_
    refine tg_callVi (As := [.int 0, .int x1]) 0 2 C0 dX8_chunk_123 (c_X8_sumOf l 0 x1 v) rfl rfl (by decide) rfl rfl (tm_gV tl_X8_134 ti_X8_sumOf ts_X8_sumOf tn_X8 tc_X8_sumOf)  rfl rfl rfl rfl (by decide +kernel) ⟨by decide, by decide⟩ (Nat.le_of_ble_eq_true rfl) ⟨by decide, by decide⟩ (fun r14 v13 _ => ?_)
    exact tg_iret C0 dX8_chunk_126
  refine tg_tab 4 (cst := 3) 127 h15 C0 dX8_chunk_41 (by decide) rfl (by decide) (by decide) (fun _ => ?_) (fun h18 => ?_)
  · refine tg_aload_n 0 C0 dX8_chunk_127 rfl rfl ?_
    refine tg_iconst (x := 1) C0 dX8_chunk_128 (by decide) ?_
    refine tg_iload_n 1 C0 dX8_chunk_129 rfl rfl ?_
    refine tg_callVi (As := [.int 1, .int x1]) 0 2 C0 dX8_chunk_130 (c_X8_sumOf l 1 x1 v) rfl rfl (by decide) rfl rfl (tm_gV tl_X8_134 ti_X8_sumOf ts_X8_sumOf tn_X8 tc_X8_sumOf)  rfl rfl rfl rfl (by decide +kernel) ⟨by decide, by decide⟩ (Nat.le_of_ble_eq_true rfl) ⟨by decide, by decide⟩ (fun r17 v16 _ => ?_)
    exact tg_iret C0 dX8_chunk_133
  refine tg_tab 5 (cst := 4) 134 h18 C0 dX8_chunk_41 (by decide) rfl (by decide) (by decide) (fun _ => ?_) (fun h21 => ?_)
  · refine tg_aload_n 0 C0 dX8_chunk_134 rfl rfl ?_
    refine tg_iload_n 1 C0 dX8_chunk_135 rfl rfl ?_
    refine tg_callVi (As := [.int x1]) 0 1 C0 dX8_chunk_136 (c_X8_staleIn l x1 v) rfl rfl (by decide) rfl rfl (tm_gV tl_X8_137 ti_X8_staleIn ts_X8_staleIn tn_X8 tc_X8_staleIn)  rfl rfl rfl rfl (by decide +kernel) ⟨by decide, by decide⟩ (Nat.le_of_ble_eq_true rfl) ⟨by decide, by decide⟩ (fun r20 v19 _ => ?_)
    exact tg_iret C0 dX8_chunk_139
  refine tg_tabO 6 140 h21 C0 dX8_chunk_41 (by decide) (by decide) ?_
  refine tg_aload_n 0 C0 dX8_chunk_140 rfl rfl ?_
  refine tg_callVi (As := []) 0 0 C0 dX8_chunk_141 (c_X8_isBoth l v) rfl rfl (by decide) rfl rfl (tm_gV tl_X8_140 ti_X8_isBoth ts_X8_isBoth tn_X8 tc_X8_isBoth)  rfl rfl rfl rfl (by decide +kernel) ⟨by decide, by decide⟩ (Nat.le_of_ble_eq_true rfl) ⟨by decide, by decide⟩ (fun r23 v22 _ => ?_)
  refine tg_if_eq 155 C0 dX8_chunk_144 (by decide) (fun _ => ?_) (fun _ => ?_)
  · refine tg_iconst (x := (-1)) C0 dX8_chunk_155 (by decide) ?_
    exact tg_iret C0 dX8_chunk_156
  · refine tg_aload_n 0 C0 dX8_chunk_147 rfl rfl ?_
    refine tg_iload_n 1 C0 dX8_chunk_148 rfl rfl ?_
    refine tg_callVi (As := [.int x1]) 0 1 C0 dX8_chunk_149 (c_X8_firstUnlike l x1 v22) rfl rfl (by decide) rfl rfl (tm_gV tl_X8_144 ti_X8_firstUnlike ts_X8_firstUnlike tn_X8 tc_X8_firstUnlike)  rfl rfl rfl rfl (by decide +kernel) ⟨by decide, by decide⟩ (Nat.le_of_ble_eq_true rfl) ⟨by decide, by decide⟩ (fun r25 v24 _ => ?_)
    refine tg_goto 156 C0 dX8_chunk_152 (by decide) ?_
    exact tg_iret C0 dX8_chunk_156
def f_X8_chunk_26 (x1 x2 s0 : Int32) (v : tmM) : Option (Int32 × tmM) := tm_lt (tm_up v 0 0 s0) fun v5 => (if (v5 0 0) ≤ 0 then f_X8_chunk_41 x1 x2 v5 else f_X8_chunk_41 x1 (-1) v5)
set_option maxRecDepth 100000 in
set_option maxHeartbeats 4000000 in
theorem w_X8_chunk_26 {p : Program} {l : Launch} {e : Env} {s : State} {m : MethodId} {args : Array Value} {below : List Frame} {meth : Method} {c : Code} {D : va_G} {cy : Nat → ClassId} {ad : Nat → Nat} {A : Nat → Prop} {z : (Int32 × tmM)} (C0 : tmC p s m args meth c cX8_chunk 3 (some .int) RX8 TMW tm_NWR D cy tm_shR ad 13 [] A) (x1 x2 s0 : Int32) (v : tmM) : tmG p l e ({ frames := 5, cells := 0, slots := 0, locals := 110 } : Room) s m args below meth c 0 0 (MQ below (va_Qi (fun r u => z = (r, u)) (tmAt tm_shR 13 D cy ad A) A) args s 0 0 A) 3 D cy tm_shR ad 13 [] A z 26 [(0, .ref (ad 0)), (1, .int x1), (2, .int x2)] [.int s0, .ref (ad 0)] v (f_X8_chunk_26 x1 x2 s0 v) := by
  unfold f_X8_chunk_26
  refine tg_put 0 0 C0 dX8_chunk_26 (by decide) rfl rfl tu_X8 tyX8_ok nmX8 (by decide) tf_X8_56 rfl rfl rfl rfl rfl rfl ?_
  refine tg_letm (fun v5 _ => ?_)
  refine tg_aload_n 0 C0 dX8_chunk_29 rfl rfl ?_
  refine tg_get 0 0 C0 dX8_chunk_30 (by decide) rfl rfl tu_X8 (by decide) tf_X8_56 rfl rfl rfl ?_
  refine tg_if_le 40 C0 dX8_chunk_33 (by decide) (fun _ => ?_) (fun _ => ?_)
  · refine tg_iload_n 2 C0 dX8_chunk_40 rfl rfl ?_
    refine tg_sub [0, 1] rfl ?_
    exact w_X8_chunk_41 C0 x1 x2 v5
  · refine tg_iconst (x := (-1)) C0 dX8_chunk_36 (by decide) ?_
    refine tg_goto 41 C0 dX8_chunk_37 (by decide) ?_
    refine tg_sub [0, 1] rfl ?_
    exact w_X8_chunk_41 C0 x1 (-1) v5
def f_X8_chunk (x1 x2 : Int32) (v : tmM) : Option (Int32 × tmM) := tm_cl (f_X8_isChunk x1 v) fun r2 v1 => (if r2 = 0 then f_X8_chunk_26 x1 x2 1 v1 else tm_cl (f_X8_in x2 0 5 v1) fun r4 v3 => (if r4 = 0 then f_X8_chunk_26 x1 x2 2 v3 else f_X8_chunk_26 x1 x2 0 v3))
set_option maxRecDepth 100000 in
set_option maxHeartbeats 4000000 in
theorem w_X8_chunk {p : Program} {l : Launch} {e : Env} {s : State} {m : MethodId} {args : Array Value} {below : List Frame} {meth : Method} {c : Code} {D : va_G} {cy : Nat → ClassId} {ad : Nat → Nat} {A : Nat → Prop} {z : (Int32 × tmM)} (C0 : tmC p s m args meth c cX8_chunk 3 (some .int) RX8 TMW tm_NWR D cy tm_shR ad 13 [] A) (x1 x2 : Int32) (v : tmM) : tmG p l e ({ frames := 5, cells := 0, slots := 0, locals := 110 } : Room) s m args below meth c 0 0 (MQ below (va_Qi (fun r u => z = (r, u)) (tmAt tm_shR 13 D cy ad A) A) args s 0 0 A) 3 D cy tm_shR ad 13 [] A z 0 [(0, .ref (ad 0)), (1, .int x1), (2, .int x2)] [] v (f_X8_chunk x1 x2 v) := by
  unfold f_X8_chunk
  refine tg_aload_n 0 C0 dX8_chunk_0 rfl rfl ?_
  refine tg_iload_n 1 C0 dX8_chunk_1 rfl rfl ?_
  refine tg_callSi (As := [.int x1]) 1 C0 dX8_chunk_2 (c_X8_isChunk l x1 v) rfl rfl (tm_gc tc_X8_isChunk) tl_X8_131 tn_X8 tst_X8_isChunk  rfl rfl rfl rfl (by decide +kernel) ⟨by decide, by decide⟩ (Nat.le_of_ble_eq_true rfl) ⟨by decide, by decide⟩ (fun r2 v1 _ => ?_)
  refine tg_if_ne 12 C0 dX8_chunk_5 (by decide) (fun _ => ?_) (fun _ => ?_)
  · refine tg_iload_n 2 C0 dX8_chunk_12 rfl rfl ?_
    refine tg_iconst (x := 0) C0 dX8_chunk_13 (by decide) ?_
    refine tg_iconst (x := 5) C0 dX8_chunk_14 (by decide) ?_
    refine tg_callSi (As := [.int x2, .int 0, .int 5]) 3 C0 dX8_chunk_15 (c_X8_in l x2 0 5 v1) rfl rfl (tm_gc tc_X8_in) tl_X8_63 tn_X8 tst_X8_in  rfl rfl rfl rfl (by decide +kernel) ⟨by decide, by decide⟩ (Nat.le_of_ble_eq_true rfl) ⟨by decide, by decide⟩ (fun r4 v3 _ => ?_)
    refine tg_if_eq 25 C0 dX8_chunk_18 (by decide) (fun _ => ?_) (fun _ => ?_)
    · refine tg_iconst (x := 2) C0 dX8_chunk_25 (by decide) ?_
      exact w_X8_chunk_26 C0 x1 x2 2 v3
    · refine tg_iconst (x := 0) C0 dX8_chunk_21 (by decide) ?_
      refine tg_goto 26 C0 dX8_chunk_22 (by decide) ?_
      exact w_X8_chunk_26 C0 x1 x2 0 v3
  · refine tg_iconst (x := 1) C0 dX8_chunk_8 (by decide) ?_
    refine tg_goto 26 C0 dX8_chunk_9 (by decide) ?_
    exact w_X8_chunk_26 C0 x1 x2 1 v1
theorem c_X8_chunk (l : Launch) (x1 x2 : Int32) (v : tmM) : tmMi tm_NWR tm_shR 13 l yX8_chunk (Cond.code yX8_chunk cX8_chunk 3 (some .int) :: TMW) ({ frames := 5, cells := 0, slots := 0, locals := 110 } : Room) (fun ad => [.ref (ad 0), .int x1, .int x2]) v (f_X8_chunk x1 x2 v) :=
  tmMi.of (cc := cX8_chunk) (nL := 3) (by decide +kernel) rfl tm_NWR_ok (fun _ => Nat.le_of_ble_eq_true rfl) (fun p e s m args below meth c A D cy ad z C0 => w_X8_chunk C0 x1 x2 v)
-- ----- X8_stale
theorem dX8_stale_0 : decode cX8_stale 0 = .ok (.aload_n 0, 1) := by decide +kernel
theorem dX8_stale_1 : decode cX8_stale 1 = .ok (.iload_n 1, 1) := by decide +kernel
theorem dX8_stale_2 : decode cX8_stale 2 = .ok (.ifCond .lt 7, 3) := by decide +kernel
theorem dX8_stale_5 : decode cX8_stale 5 = .ok (.iconst 0, 1) := by decide +kernel
theorem dX8_stale_6 : decode cX8_stale 6 = .ok (.goto 4, 3) := by decide +kernel
theorem dX8_stale_9 : decode cX8_stale 9 = .ok (.iconst 1, 1) := by decide +kernel
theorem dX8_stale_10 : decode cX8_stale 10 = .ok (.putfield 56, 3) := by decide +kernel
theorem dX8_stale_13 : decode cX8_stale 13 = .ok (.aload_n 0, 1) := by decide +kernel
theorem dX8_stale_14 : decode cX8_stale 14 = .ok (.getfield 56, 3) := by decide +kernel
theorem dX8_stale_17 : decode cX8_stale 17 = .ok (.ifCond .le 7, 3) := by decide +kernel
theorem dX8_stale_20 : decode cX8_stale 20 = .ok (.iconst 0, 1) := by decide +kernel
theorem dX8_stale_21 : decode cX8_stale 21 = .ok (.goto 28, 3) := by decide +kernel
theorem dX8_stale_24 : decode cX8_stale 24 = .ok (.iload_n 1, 1) := by decide +kernel
theorem dX8_stale_25 : decode cX8_stale 25 = .ok (.aload_n 0, 1) := by decide +kernel
theorem dX8_stale_26 : decode cX8_stale 26 = .ok (.getfield 7, 3) := by decide +kernel
theorem dX8_stale_29 : decode cX8_stale 29 = .ok (.bipush 7, 2) := by decide +kernel
theorem dX8_stale_31 : decode cX8_stale 31 = .ok (.iaload, 1) := by decide +kernel
theorem dX8_stale_32 : decode cX8_stale 32 = .ok (.if_icmp .ge 16, 3) := by decide +kernel
theorem dX8_stale_35 : decode cX8_stale 35 = .ok (.aload_n 0, 1) := by decide +kernel
theorem dX8_stale_36 : decode cX8_stale 36 = .ok (.getfield 7, 3) := by decide +kernel
theorem dX8_stale_39 : decode cX8_stale 39 = .ok (.sipush 131, 3) := by decide +kernel
theorem dX8_stale_42 : decode cX8_stale 42 = .ok (.iload_n 1, 1) := by decide +kernel
theorem dX8_stale_43 : decode cX8_stale 43 = .ok (.iadd, 1) := by decide +kernel
theorem dX8_stale_44 : decode cX8_stale 44 = .ok (.iaload, 1) := by decide +kernel
theorem dX8_stale_45 : decode cX8_stale 45 = .ok (.goto 4, 3) := by decide +kernel
theorem dX8_stale_48 : decode cX8_stale 48 = .ok (.iconst (-1), 1) := by decide +kernel
theorem dX8_stale_49 : decode cX8_stale 49 = .ok (.ireturn, 1) := by decide +kernel
def f_X8_stale_10 (x1 s0 : Int32) (v : tmM) : Option (Int32 × tmM) := tm_lt (tm_up v 0 0 s0) fun v1 => (if (v1 0 0) ≤ 0 then tm_g (tm_ix 7 491) ((if (v1 1 (7 : Int32).toNatClampNeg) ≤ x1 then some ((-1), v1) else tm_g (tm_ix (131 + x1) 491) (some (v1 1 (131 + x1).toNatClampNeg, v1)))) else some (0, v1))
set_option maxRecDepth 100000 in
set_option maxHeartbeats 4000000 in
theorem w_X8_stale_10 {p : Program} {l : Launch} {e : Env} {s : State} {m : MethodId} {args : Array Value} {below : List Frame} {meth : Method} {c : Code} {D : va_G} {cy : Nat → ClassId} {ad : Nat → Nat} {A : Nat → Prop} {z : (Int32 × tmM)} (C0 : tmC p s m args meth c cX8_stale 2 (some .int) RX8 TMW tm_NWR D cy tm_shR ad 13 [] A) (x1 s0 : Int32) (v : tmM) : tmG p l e ({ frames := 0, cells := 0, slots := 0, locals := 0 } : Room) s m args below meth c 0 0 (MQ below (va_Qi (fun r u => z = (r, u)) (tmAt tm_shR 13 D cy ad A) A) args s 0 0 A) 2 D cy tm_shR ad 13 [] A z 10 [(0, .ref (ad 0)), (1, .int x1)] [.int s0, .ref (ad 0)] v (f_X8_stale_10 x1 s0 v) := by
  unfold f_X8_stale_10
  refine tg_put 0 0 C0 dX8_stale_10 (by decide) rfl rfl tu_X8 tyX8_ok nmX8 (by decide) tf_X8_56 rfl rfl rfl rfl rfl rfl ?_
  refine tg_letm (fun v1 _ => ?_)
  refine tg_aload_n 0 C0 dX8_stale_13 rfl rfl ?_
  refine tg_get 0 0 C0 dX8_stale_14 (by decide) rfl rfl tu_X8 (by decide) tf_X8_56 rfl rfl rfl ?_
  refine tg_if_le 24 C0 dX8_stale_17 (by decide) (fun _ => ?_) (fun _ => ?_)
  · refine tg_iload_n 1 C0 dX8_stale_24 rfl rfl ?_
    refine tg_aload_n 0 C0 dX8_stale_25 rfl rfl ?_
    refine tg_get 0 1 C0 dX8_stale_26 (by decide) rfl rfl tu_X8 (by decide) tf_X8_7 rfl rfl rfl ?_
    refine tg_bipush (x := 7) C0 dX8_stale_29 (by decide) ?_
    refine tg_iald 1 C0 dX8_stale_31 (by decide) rfl (fun _ => ?_)
    refine tg_icmp_ge 48 C0 dX8_stale_32 (by decide) (fun _ => ?_) (fun _ => ?_)
    · refine tg_iconst (x := (-1)) C0 dX8_stale_48 (by decide) ?_
      exact tg_iret C0 dX8_stale_49
    · refine tg_aload_n 0 C0 dX8_stale_35 rfl rfl ?_
      refine tg_get 0 1 C0 dX8_stale_36 (by decide) rfl rfl tu_X8 (by decide) tf_X8_7 rfl rfl rfl ?_
      refine tg_sipush (x := 131) C0 dX8_stale_39 (by decide) ?_
      refine tg_iload_n 1 C0 dX8_stale_42 rfl rfl ?_
      refine tg_iadd C0 dX8_stale_43 ?_
      refine tg_iald 1 C0 dX8_stale_44 (by decide) rfl (fun _ => ?_)
      refine tg_goto 49 C0 dX8_stale_45 (by decide) ?_
      exact tg_iret C0 dX8_stale_49
  · refine tg_iconst (x := 0) C0 dX8_stale_20 (by decide) ?_
    refine tg_goto 49 C0 dX8_stale_21 (by decide) ?_
    exact tg_iret C0 dX8_stale_49
def f_X8_stale (x1 : Int32) (v : tmM) : Option (Int32 × tmM) := (if x1 < 0 then f_X8_stale_10 x1 1 v else f_X8_stale_10 x1 0 v)
set_option maxRecDepth 100000 in
set_option maxHeartbeats 4000000 in
theorem w_X8_stale {p : Program} {l : Launch} {e : Env} {s : State} {m : MethodId} {args : Array Value} {below : List Frame} {meth : Method} {c : Code} {D : va_G} {cy : Nat → ClassId} {ad : Nat → Nat} {A : Nat → Prop} {z : (Int32 × tmM)} (C0 : tmC p s m args meth c cX8_stale 2 (some .int) RX8 TMW tm_NWR D cy tm_shR ad 13 [] A) (x1 : Int32) (v : tmM) : tmG p l e ({ frames := 0, cells := 0, slots := 0, locals := 0 } : Room) s m args below meth c 0 0 (MQ below (va_Qi (fun r u => z = (r, u)) (tmAt tm_shR 13 D cy ad A) A) args s 0 0 A) 2 D cy tm_shR ad 13 [] A z 0 [(0, .ref (ad 0)), (1, .int x1)] [] v (f_X8_stale x1 v) := by
  unfold f_X8_stale
  refine tg_aload_n 0 C0 dX8_stale_0 rfl rfl ?_
  refine tg_iload_n 1 C0 dX8_stale_1 rfl rfl ?_
  refine tg_if_lt 9 C0 dX8_stale_2 (by decide) (fun _ => ?_) (fun _ => ?_)
  · refine tg_iconst (x := 1) C0 dX8_stale_9 (by decide) ?_
    exact w_X8_stale_10 C0 x1 1 v
  · refine tg_iconst (x := 0) C0 dX8_stale_5 (by decide) ?_
    refine tg_goto 10 C0 dX8_stale_6 (by decide) ?_
    exact w_X8_stale_10 C0 x1 0 v
theorem c_X8_stale (l : Launch) (x1 : Int32) (v : tmM) : tmMi tm_NWR tm_shR 13 l yX8_stale (Cond.code yX8_stale cX8_stale 2 (some .int) :: TMW) ({ frames := 0, cells := 0, slots := 0, locals := 0 } : Room) (fun ad => [.ref (ad 0), .int x1]) v (f_X8_stale x1 v) :=
  tmMi.of (cc := cX8_stale) (nL := 2) (by decide +kernel) rfl tm_NWR_ok (fun _ => Nat.le_of_ble_eq_true rfl) (fun p e s m args below meth c A D cy ad z C0 => w_X8_stale C0 x1 v)
-- ----- X8_brokenPromise
theorem dX8_brokenPromise_0 : decode cX8_brokenPromise 0 = .ok (.aload_n 0, 1) := by decide +kernel
theorem dX8_brokenPromise_1 : decode cX8_brokenPromise 1 = .ok (.iconst 0, 1) := by decide +kernel
theorem dX8_brokenPromise_2 : decode cX8_brokenPromise 2 = .ok (.putfield 56, 3) := by decide +kernel
theorem dX8_brokenPromise_5 : decode cX8_brokenPromise 5 = .ok (.iconst 0, 1) := by decide +kernel
theorem dX8_brokenPromise_6 : decode cX8_brokenPromise 6 = .ok (.istore_n 1, 1) := by decide +kernel
theorem dX8_brokenPromise_7 : decode cX8_brokenPromise 7 = .ok (.iload_n 1, 1) := by decide +kernel
theorem dX8_brokenPromise_8 : decode cX8_brokenPromise 8 = .ok (.bipush 60, 2) := by decide +kernel
theorem dX8_brokenPromise_10 : decode cX8_brokenPromise 10 = .ok (.if_icmp .ge 50, 3) := by decide +kernel
theorem dX8_brokenPromise_13 : decode cX8_brokenPromise 13 = .ok (.aload_n 0, 1) := by decide +kernel
theorem dX8_brokenPromise_14 : decode cX8_brokenPromise 14 = .ok (.invokevirtual 140, 3) := by decide +kernel
theorem dX8_brokenPromise_17 : decode cX8_brokenPromise 17 = .ok (.ifCond .eq 43, 3) := by decide +kernel
theorem dX8_brokenPromise_20 : decode cX8_brokenPromise 20 = .ok (.aload_n 0, 1) := by decide +kernel
theorem dX8_brokenPromise_21 : decode cX8_brokenPromise 21 = .ok (.getfield 7, 3) := by decide +kernel
theorem dX8_brokenPromise_24 : decode cX8_brokenPromise 24 = .ok (.iconst 3, 1) := by decide +kernel
theorem dX8_brokenPromise_25 : decode cX8_brokenPromise 25 = .ok (.iaload, 1) := by decide +kernel
theorem dX8_brokenPromise_26 : decode cX8_brokenPromise 26 = .ok (.iload_n 1, 1) := by decide +kernel
theorem dX8_brokenPromise_27 : decode cX8_brokenPromise 27 = .ok (.iconst 4, 1) := by decide +kernel
theorem dX8_brokenPromise_28 : decode cX8_brokenPromise 28 = .ok (.idiv, 1) := by decide +kernel
theorem dX8_brokenPromise_29 : decode cX8_brokenPromise 29 = .ok (.invokestatic 59, 3) := by decide +kernel
theorem dX8_brokenPromise_32 : decode cX8_brokenPromise 32 = .ok (.ifCond .eq 22, 3) := by decide +kernel
theorem dX8_brokenPromise_35 : decode cX8_brokenPromise 35 = .ok (.aload_n 0, 1) := by decide +kernel
theorem dX8_brokenPromise_36 : decode cX8_brokenPromise 36 = .ok (.iload_n 1, 1) := by decide +kernel
theorem dX8_brokenPromise_37 : decode cX8_brokenPromise 37 = .ok (.invokevirtual 82, 3) := by decide +kernel
theorem dX8_brokenPromise_40 : decode cX8_brokenPromise 40 = .ok (.iconst (-1), 1) := by decide +kernel
theorem dX8_brokenPromise_41 : decode cX8_brokenPromise 41 = .ok (.if_icmp .ne 13, 3) := by decide +kernel
theorem dX8_brokenPromise_44 : decode cX8_brokenPromise 44 = .ok (.aload_n 0, 1) := by decide +kernel
theorem dX8_brokenPromise_45 : decode cX8_brokenPromise 45 = .ok (.iload_n 1, 1) := by decide +kernel
theorem dX8_brokenPromise_46 : decode cX8_brokenPromise 46 = .ok (.invokevirtual 78, 3) := by decide +kernel
theorem dX8_brokenPromise_49 : decode cX8_brokenPromise 49 = .ok (.ifCond .eq 5, 3) := by decide +kernel
theorem dX8_brokenPromise_52 : decode cX8_brokenPromise 52 = .ok (.iload_n 1, 1) := by decide +kernel
theorem dX8_brokenPromise_53 : decode cX8_brokenPromise 53 = .ok (.ireturn, 1) := by decide +kernel
theorem dX8_brokenPromise_54 : decode cX8_brokenPromise 54 = .ok (.iinc 1 1, 3) := by decide +kernel
theorem dX8_brokenPromise_57 : decode cX8_brokenPromise 57 = .ok (.goto (-50), 3) := by decide +kernel
theorem dX8_brokenPromise_60 : decode cX8_brokenPromise 60 = .ok (.iconst (-1), 1) := by decide +kernel
theorem dX8_brokenPromise_61 : decode cX8_brokenPromise 61 = .ok (.ireturn, 1) := by decide +kernel
def f_X8_brokenPromise_54 (K0 : tmM → Option (Int32 × tmM)) (L : Int32 → tmM → Option (Int32 × tmM)) (x1 : Int32) (v : tmM) : Option (Int32 × tmM) := L (x1 + 1) v
set_option maxRecDepth 100000 in
set_option maxHeartbeats 4000000 in
theorem w_X8_brokenPromise_54 {p : Program} {l : Launch} {e : Env} {s : State} {m : MethodId} {args : Array Value} {below : List Frame} {meth : Method} {c : Code} {D : va_G} {cy : Nat → ClassId} {ad : Nat → Nat} {A : Nat → Prop} {z : (Int32 × tmM)} {K0 : tmM → Option (Int32 × tmM)} {L : Int32 → tmM → Option (Int32 × tmM)} (C0 : tmC p s m args meth c cX8_brokenPromise 2 (some .int) RX8 TMW tm_NWR D cy tm_shR ad 13 [] A) (hK0 : ∀ (w : tmM), tmG p l e ({ frames := 4, cells := 0, slots := 0, locals := 88 } : Room) s m args below meth c 0 0 (MQ below (va_Qi (fun r u => z = (r, u)) (tmAt tm_shR 13 D cy ad A) A) args s 0 0 A) 2 D cy tm_shR ad 13 [] A z 60 [] [] w (K0 w)) (hL : ∀ (a1 : Int32) (w : tmM), tmG p l e ({ frames := 4, cells := 0, slots := 0, locals := 88 } : Room) s m args below meth c 0 0 (MQ below (va_Qi (fun r u => z = (r, u)) (tmAt tm_shR 13 D cy ad A) A) args s 0 0 A) 2 D cy tm_shR ad 13 [] A z 7 [(0, .ref (ad 0)), (1, .int a1)] [] w (L a1 w)) (x1 : Int32) (v : tmM) : tmG p l e ({ frames := 4, cells := 0, slots := 0, locals := 88 } : Room) s m args below meth c 0 0 (MQ below (va_Qi (fun r u => z = (r, u)) (tmAt tm_shR 13 D cy ad A) A) args s 0 0 A) 2 D cy tm_shR ad 13 [] A z 54 [(0, .ref (ad 0)), (1, .int x1)] [] v (f_X8_brokenPromise_54 K0 L x1 v) := by
  unfold f_X8_brokenPromise_54
  refine tg_iinc [(1, .int (x1 + 1)), (0, .ref (ad 0))] 1 C0 dX8_brokenPromise_54 rfl rfl (by decide) rfl ?_
  refine tg_goto 7 C0 dX8_brokenPromise_57 (by decide) ?_
  refine tg_sub [1, 0] rfl ?_
  exact hL (x1 + 1) v
def f_X8_brokenPromise_7b (K0 : tmM → Option (Int32 × tmM)) (L : Int32 → tmM → Option (Int32 × tmM)) (x1 : Int32) (v : tmM) : Option (Int32 × tmM) := (if 60 ≤ x1 then K0 v else tm_cl (f_X8_isBoth v) fun r3 v2 => (if r3 = 0 then K0 v2 else tm_g (tm_ix 3 491) (tm_g (decide (¬ 4 = 0)) (tm_cl (f_X8_has (v2 1 (3 : Int32).toNatClampNeg) (x1 / 4) v2) fun r5 v4 => (if r5 = 0 then f_X8_brokenPromise_54 K0 L x1 v4 else tm_cl (f_X8_placeOf x1 v4) fun r7 v6 => (if r7 = (-1) then tm_cl (f_X8_differs x1 v6) fun r9 v8 => (if r9 = 0 then f_X8_brokenPromise_54 K0 L x1 v8 else some (x1, v8)) else f_X8_brokenPromise_54 K0 L x1 v6))))))
set_option maxRecDepth 100000 in
set_option maxHeartbeats 4000000 in
theorem w_X8_brokenPromise_7b {p : Program} {l : Launch} {e : Env} {s : State} {m : MethodId} {args : Array Value} {below : List Frame} {meth : Method} {c : Code} {D : va_G} {cy : Nat → ClassId} {ad : Nat → Nat} {A : Nat → Prop} {z : (Int32 × tmM)} {K0 : tmM → Option (Int32 × tmM)} {L : Int32 → tmM → Option (Int32 × tmM)} (C0 : tmC p s m args meth c cX8_brokenPromise 2 (some .int) RX8 TMW tm_NWR D cy tm_shR ad 13 [] A) (hK0 : ∀ (w : tmM), tmG p l e ({ frames := 4, cells := 0, slots := 0, locals := 88 } : Room) s m args below meth c 0 0 (MQ below (va_Qi (fun r u => z = (r, u)) (tmAt tm_shR 13 D cy ad A) A) args s 0 0 A) 2 D cy tm_shR ad 13 [] A z 60 [] [] w (K0 w)) (hL : ∀ (a1 : Int32) (w : tmM), tmG p l e ({ frames := 4, cells := 0, slots := 0, locals := 88 } : Room) s m args below meth c 0 0 (MQ below (va_Qi (fun r u => z = (r, u)) (tmAt tm_shR 13 D cy ad A) A) args s 0 0 A) 2 D cy tm_shR ad 13 [] A z 7 [(0, .ref (ad 0)), (1, .int a1)] [] w (L a1 w)) (x1 : Int32) (v : tmM) : tmG p l e ({ frames := 4, cells := 0, slots := 0, locals := 88 } : Room) s m args below meth c 0 0 (MQ below (va_Qi (fun r u => z = (r, u)) (tmAt tm_shR 13 D cy ad A) A) args s 0 0 A) 2 D cy tm_shR ad 13 [] A z 7 [(0, .ref (ad 0)), (1, .int x1)] [] v (f_X8_brokenPromise_7b K0 L x1 v) := by
  unfold f_X8_brokenPromise_7b
  refine tg_iload_n 1 C0 dX8_brokenPromise_7 rfl rfl ?_
  refine tg_bipush (x := 60) C0 dX8_brokenPromise_8 (by decide) ?_
  refine tg_icmp_ge 60 C0 dX8_brokenPromise_10 (by decide) (fun _ => ?_) (fun _ => ?_)
  · refine tg_sub [] rfl ?_
    exact hK0 v
  · refine tg_aload_n 0 C0 dX8_brokenPromise_13 rfl rfl ?_
    refine tg_callVi (As := []) 0 0 C0 dX8_brokenPromise_14 (c_X8_isBoth l v) rfl rfl (by decide) rfl rfl (tm_gV tl_X8_140 ti_X8_isBoth ts_X8_isBoth tn_X8 tc_X8_isBoth)  rfl rfl rfl rfl (by decide +kernel) ⟨by decide, by decide⟩ (Nat.le_of_ble_eq_true rfl) ⟨by decide, by decide⟩ (fun r3 v2 _ => ?_)
    refine tg_if_eq 60 C0 dX8_brokenPromise_17 (by decide) (fun _ => ?_) (fun _ => ?_)
    · refine tg_sub [] rfl ?_
      exact hK0 v2
    · refine tg_aload_n 0 C0 dX8_brokenPromise_20 rfl rfl ?_
      refine tg_get 0 1 C0 dX8_brokenPromise_21 (by decide) rfl rfl tu_X8 (by decide) tf_X8_7 rfl rfl rfl ?_
      refine tg_iconst (x := 3) C0 dX8_brokenPromise_24 (by decide) ?_
      refine tg_iald 1 C0 dX8_brokenPromise_25 (by decide) rfl (fun _ => ?_)
      refine tg_iload_n 1 C0 dX8_brokenPromise_26 rfl rfl ?_
      refine tg_iconst (x := 4) C0 dX8_brokenPromise_27 (by decide) ?_
      refine tg_idiv C0 dX8_brokenPromise_28 (fun _ => ?_)
      refine tg_callSi (As := [.int (v2 1 (3 : Int32).toNatClampNeg), .int (x1 / 4)]) 2 C0 dX8_brokenPromise_29 (c_X8_has l (v2 1 (3 : Int32).toNatClampNeg) (x1 / 4) v2) rfl rfl (tm_gc tc_X8_has) tl_X8_59 tn_X8 tst_X8_has  rfl rfl rfl rfl (by decide +kernel) ⟨by decide, by decide⟩ (Nat.le_of_ble_eq_true rfl) ⟨by decide, by decide⟩ (fun r5 v4 _ => ?_)
      refine tg_if_eq 54 C0 dX8_brokenPromise_32 (by decide) (fun _ => ?_) (fun _ => ?_)
      · exact w_X8_brokenPromise_54 C0 hK0 hL x1 v4
      · refine tg_aload_n 0 C0 dX8_brokenPromise_35 rfl rfl ?_
        refine tg_iload_n 1 C0 dX8_brokenPromise_36 rfl rfl ?_
        refine tg_callVi (As := [.int x1]) 0 1 C0 dX8_brokenPromise_37 (c_X8_placeOf l x1 v4) rfl rfl (by decide) rfl rfl (tm_gV tl_X8_82 ti_X8_placeOf ts_X8_placeOf tn_X8 tc_X8_placeOf)  rfl rfl rfl rfl (by decide +kernel) ⟨by decide, by decide⟩ (Nat.le_of_ble_eq_true rfl) ⟨by decide, by decide⟩ (fun r7 v6 _ => ?_)
        refine tg_iconst (x := (-1)) C0 dX8_brokenPromise_40 (by decide) ?_
        refine tg_icmp_ne 54 C0 dX8_brokenPromise_41 (by decide) (fun _ => ?_) (fun _ => ?_)
        · exact w_X8_brokenPromise_54 C0 hK0 hL x1 v6
        · refine tg_aload_n 0 C0 dX8_brokenPromise_44 rfl rfl ?_
          refine tg_iload_n 1 C0 dX8_brokenPromise_45 rfl rfl ?_
          refine tg_callVi (As := [.int x1]) 0 1 C0 dX8_brokenPromise_46 (c_X8_differs l x1 v6) rfl rfl (by decide) rfl rfl (tm_gV tl_X8_78 ti_X8_differs ts_X8_differs tn_X8 tc_X8_differs)  rfl rfl rfl rfl (by decide +kernel) ⟨by decide, by decide⟩ (Nat.le_of_ble_eq_true rfl) ⟨by decide, by decide⟩ (fun r9 v8 _ => ?_)
          refine tg_if_eq 54 C0 dX8_brokenPromise_49 (by decide) (fun _ => ?_) (fun _ => ?_)
          · exact w_X8_brokenPromise_54 C0 hK0 hL x1 v8
          · refine tg_iload_n 1 C0 dX8_brokenPromise_52 rfl rfl ?_
            exact tg_iret C0 dX8_brokenPromise_53
def f_X8_brokenPromise_7 (K0 : tmM → Option (Int32 × tmM)) : Nat → Int32 → tmM → Option (Int32 × tmM)
  | 0 => fun _ _ => none
  | n + 1 => f_X8_brokenPromise_7b K0 (f_X8_brokenPromise_7 K0 n)
theorem w_X8_brokenPromise_7 {p : Program} {l : Launch} {e : Env} {s : State} {m : MethodId} {args : Array Value} {below : List Frame} {meth : Method} {c : Code} {D : va_G} {cy : Nat → ClassId} {ad : Nat → Nat} {A : Nat → Prop} {z : (Int32 × tmM)} {K0 : tmM → Option (Int32 × tmM)} (C0 : tmC p s m args meth c cX8_brokenPromise 2 (some .int) RX8 TMW tm_NWR D cy tm_shR ad 13 [] A) (hK0 : ∀ (w : tmM), tmG p l e ({ frames := 4, cells := 0, slots := 0, locals := 88 } : Room) s m args below meth c 0 0 (MQ below (va_Qi (fun r u => z = (r, u)) (tmAt tm_shR 13 D cy ad A) A) args s 0 0 A) 2 D cy tm_shR ad 13 [] A z 60 [] [] w (K0 w)) (nn : Nat) : ∀ (x1 : Int32) (v : tmM), tmG p l e ({ frames := 4, cells := 0, slots := 0, locals := 88 } : Room) s m args below meth c 0 0 (MQ below (va_Qi (fun r u => z = (r, u)) (tmAt tm_shR 13 D cy ad A) A) args s 0 0 A) 2 D cy tm_shR ad 13 [] A z 7 [(0, .ref (ad 0)), (1, .int x1)] [] v (f_X8_brokenPromise_7 K0 nn x1 v) := by
  induction nn with
  | zero => intro _ _; exact tg_none
  | succ n ih => intro x1 v; exact w_X8_brokenPromise_7b C0 hK0 ih x1 v
def f_X8_brokenPromise (v : tmM) : Option (Int32 × tmM) := tm_lt (tm_up v 0 0 0) fun v1 => f_X8_brokenPromise_7 (fun v10 => some ((-1), v10)) 10000 0 v1
set_option maxRecDepth 100000 in
set_option maxHeartbeats 4000000 in
theorem w_X8_brokenPromise {p : Program} {l : Launch} {e : Env} {s : State} {m : MethodId} {args : Array Value} {below : List Frame} {meth : Method} {c : Code} {D : va_G} {cy : Nat → ClassId} {ad : Nat → Nat} {A : Nat → Prop} {z : (Int32 × tmM)} (C0 : tmC p s m args meth c cX8_brokenPromise 2 (some .int) RX8 TMW tm_NWR D cy tm_shR ad 13 [] A) (v : tmM) : tmG p l e ({ frames := 4, cells := 0, slots := 0, locals := 88 } : Room) s m args below meth c 0 0 (MQ below (va_Qi (fun r u => z = (r, u)) (tmAt tm_shR 13 D cy ad A) A) args s 0 0 A) 2 D cy tm_shR ad 13 [] A z 0 [(0, .ref (ad 0))] [] v (f_X8_brokenPromise v) := by
  unfold f_X8_brokenPromise
  refine tg_aload_n 0 C0 dX8_brokenPromise_0 rfl rfl ?_
  refine tg_iconst (x := 0) C0 dX8_brokenPromise_1 (by decide) ?_
  refine tg_put 0 0 C0 dX8_brokenPromise_2 (by decide) rfl rfl tu_X8 tyX8_ok nmX8 (by decide) tf_X8_56 rfl rfl rfl rfl rfl rfl ?_
  refine tg_letm (fun v1 _ => ?_)
  refine tg_iconst (x := 0) C0 dX8_brokenPromise_5 (by decide) ?_
  refine tg_istore_n [(1, .int 0), (0, .ref (ad 0))] C0 dX8_brokenPromise_6 rfl (by decide) rfl ?_
  refine tg_sub [1, 0] rfl ?_
  refine w_X8_brokenPromise_7 C0 (fun v10 => ?_) 10000 0 v1
  refine tg_iconst (x := (-1)) C0 dX8_brokenPromise_60 (by decide) ?_
  exact tg_iret C0 dX8_brokenPromise_61
theorem c_X8_brokenPromise (l : Launch) (v : tmM) : tmMi tm_NWR tm_shR 13 l yX8_brokenPromise (Cond.code yX8_brokenPromise cX8_brokenPromise 2 (some .int) :: TMW) ({ frames := 4, cells := 0, slots := 0, locals := 88 } : Room) (fun ad => [.ref (ad 0)]) v (f_X8_brokenPromise v) :=
  tmMi.of (cc := cX8_brokenPromise) (nL := 2) (by decide +kernel) rfl tm_NWR_ok (fun _ => Nat.le_of_ble_eq_true rfl) (fun p e s m args below meth c A D cy ad z C0 => w_X8_brokenPromise C0 v)
-- ----- X8_troubledReaders
theorem dX8_troubledReaders_0 : decode cX8_troubledReaders 0 = .ok (.aload_n 0, 1) := by decide +kernel
theorem dX8_troubledReaders_1 : decode cX8_troubledReaders 1 = .ok (.iconst 0, 1) := by decide +kernel
theorem dX8_troubledReaders_2 : decode cX8_troubledReaders 2 = .ok (.putfield 56, 3) := by decide +kernel
theorem dX8_troubledReaders_5 : decode cX8_troubledReaders 5 = .ok (.iconst 0, 1) := by decide +kernel
theorem dX8_troubledReaders_6 : decode cX8_troubledReaders 6 = .ok (.istore_n 1, 1) := by decide +kernel
theorem dX8_troubledReaders_7 : decode cX8_troubledReaders 7 = .ok (.iconst 0, 1) := by decide +kernel
theorem dX8_troubledReaders_8 : decode cX8_troubledReaders 8 = .ok (.istore_n 2, 1) := by decide +kernel
theorem dX8_troubledReaders_9 : decode cX8_troubledReaders 9 = .ok (.iload_n 2, 1) := by decide +kernel
theorem dX8_troubledReaders_10 : decode cX8_troubledReaders 10 = .ok (.bipush 60, 2) := by decide +kernel
theorem dX8_troubledReaders_12 : decode cX8_troubledReaders 12 = .ok (.if_icmp .ge 30, 3) := by decide +kernel
theorem dX8_troubledReaders_15 : decode cX8_troubledReaders 15 = .ok (.iload_n 1, 1) := by decide +kernel
theorem dX8_troubledReaders_16 : decode cX8_troubledReaders 16 = .ok (.ifCond .ne 14, 3) := by decide +kernel
theorem dX8_troubledReaders_19 : decode cX8_troubledReaders 19 = .ok (.aload_n 0, 1) := by decide +kernel
theorem dX8_troubledReaders_20 : decode cX8_troubledReaders 20 = .ok (.iconst 1, 1) := by decide +kernel
theorem dX8_troubledReaders_21 : decode cX8_troubledReaders 21 = .ok (.iload_n 2, 1) := by decide +kernel
theorem dX8_troubledReaders_22 : decode cX8_troubledReaders 22 = .ok (.invokevirtual 74, 3) := by decide +kernel
theorem dX8_troubledReaders_25 : decode cX8_troubledReaders 25 = .ok (.bipush (-3), 2) := by decide +kernel
theorem dX8_troubledReaders_27 : decode cX8_troubledReaders 27 = .ok (.if_icmp .ne 7, 3) := by decide +kernel
theorem dX8_troubledReaders_30 : decode cX8_troubledReaders 30 = .ok (.iconst 1, 1) := by decide +kernel
theorem dX8_troubledReaders_31 : decode cX8_troubledReaders 31 = .ok (.goto 4, 3) := by decide +kernel
theorem dX8_troubledReaders_34 : decode cX8_troubledReaders 34 = .ok (.iconst 0, 1) := by decide +kernel
theorem dX8_troubledReaders_35 : decode cX8_troubledReaders 35 = .ok (.istore_n 1, 1) := by decide +kernel
theorem dX8_troubledReaders_36 : decode cX8_troubledReaders 36 = .ok (.iinc 2 1, 3) := by decide +kernel
theorem dX8_troubledReaders_39 : decode cX8_troubledReaders 39 = .ok (.goto (-30), 3) := by decide +kernel
theorem dX8_troubledReaders_42 : decode cX8_troubledReaders 42 = .ok (.aload_n 0, 1) := by decide +kernel
theorem dX8_troubledReaders_43 : decode cX8_troubledReaders 43 = .ok (.iconst 0, 1) := by decide +kernel
theorem dX8_troubledReaders_44 : decode cX8_troubledReaders 44 = .ok (.invokevirtual 113, 3) := by decide +kernel
theorem dX8_troubledReaders_47 : decode cX8_troubledReaders 47 = .ok (.ifCond .eq 7, 3) := by decide +kernel
theorem dX8_troubledReaders_50 : decode cX8_troubledReaders 50 = .ok (.iconst 0, 1) := by decide +kernel
theorem dX8_troubledReaders_51 : decode cX8_troubledReaders 51 = .ok (.goto 15, 3) := by decide +kernel
theorem dX8_troubledReaders_54 : decode cX8_troubledReaders 54 = .ok (.sipush 255, 3) := by decide +kernel
theorem dX8_troubledReaders_57 : decode cX8_troubledReaders 57 = .ok (.aload_n 0, 1) := by decide +kernel
theorem dX8_troubledReaders_58 : decode cX8_troubledReaders 58 = .ok (.getfield 7, 3) := by decide +kernel
theorem dX8_troubledReaders_61 : decode cX8_troubledReaders 61 = .ok (.iconst 5, 1) := by decide +kernel
theorem dX8_troubledReaders_62 : decode cX8_troubledReaders 62 = .ok (.iaload, 1) := by decide +kernel
theorem dX8_troubledReaders_63 : decode cX8_troubledReaders 63 = .ok (.iconst (-1), 1) := by decide +kernel
theorem dX8_troubledReaders_64 : decode cX8_troubledReaders 64 = .ok (.ixor, 1) := by decide +kernel
theorem dX8_troubledReaders_65 : decode cX8_troubledReaders 65 = .ok (.iand, 1) := by decide +kernel
theorem dX8_troubledReaders_66 : decode cX8_troubledReaders 66 = .ok (.istore_n 2, 1) := by decide +kernel
theorem dX8_troubledReaders_67 : decode cX8_troubledReaders 67 = .ok (.iload_n 2, 1) := by decide +kernel
theorem dX8_troubledReaders_68 : decode cX8_troubledReaders 68 = .ok (.aload_n 0, 1) := by decide +kernel
theorem dX8_troubledReaders_69 : decode cX8_troubledReaders 69 = .ok (.iconst 1, 1) := by decide +kernel
theorem dX8_troubledReaders_70 : decode cX8_troubledReaders 70 = .ok (.invokevirtual 113, 3) := by decide +kernel
theorem dX8_troubledReaders_73 : decode cX8_troubledReaders 73 = .ok (.ifCond .eq 11, 3) := by decide +kernel
theorem dX8_troubledReaders_76 : decode cX8_troubledReaders 76 = .ok (.iload_n 1, 1) := by decide +kernel
theorem dX8_troubledReaders_77 : decode cX8_troubledReaders 77 = .ok (.ifCond .ne 7, 3) := by decide +kernel
theorem dX8_troubledReaders_80 : decode cX8_troubledReaders 80 = .ok (.iconst 0, 1) := by decide +kernel
theorem dX8_troubledReaders_81 : decode cX8_troubledReaders 81 = .ok (.goto 9, 3) := by decide +kernel
theorem dX8_troubledReaders_84 : decode cX8_troubledReaders 84 = .ok (.aload_n 0, 1) := by decide +kernel
theorem dX8_troubledReaders_85 : decode cX8_troubledReaders 85 = .ok (.getfield 7, 3) := by decide +kernel
theorem dX8_troubledReaders_88 : decode cX8_troubledReaders 88 = .ok (.iconst 5, 1) := by decide +kernel
theorem dX8_troubledReaders_89 : decode cX8_troubledReaders 89 = .ok (.iaload, 1) := by decide +kernel
theorem dX8_troubledReaders_90 : decode cX8_troubledReaders 90 = .ok (.ior, 1) := by decide +kernel
theorem dX8_troubledReaders_91 : decode cX8_troubledReaders 91 = .ok (.ireturn, 1) := by decide +kernel
def f_X8_troubledReaders_35 (K0 : Int32 → tmM → Option (Int32 × tmM)) (L : Int32 → Int32 → tmM → Option (Int32 × tmM)) (x2 s0 : Int32) (v : tmM) : Option (Int32 × tmM) := L s0 (x2 + 1) v
set_option maxRecDepth 100000 in
set_option maxHeartbeats 4000000 in
theorem w_X8_troubledReaders_35 {p : Program} {l : Launch} {e : Env} {s : State} {m : MethodId} {args : Array Value} {below : List Frame} {meth : Method} {c : Code} {D : va_G} {cy : Nat → ClassId} {ad : Nat → Nat} {A : Nat → Prop} {z : (Int32 × tmM)} {K0 : Int32 → tmM → Option (Int32 × tmM)} {L : Int32 → Int32 → tmM → Option (Int32 × tmM)} (C0 : tmC p s m args meth c cX8_troubledReaders 3 (some .int) RX8 TMW tm_NWR D cy tm_shR ad 13 [] A) (hK0 : ∀ (a1 : Int32) (w : tmM), tmG p l e ({ frames := 3, cells := 0, slots := 0, locals := 67 } : Room) s m args below meth c 0 0 (MQ below (va_Qi (fun r u => z = (r, u)) (tmAt tm_shR 13 D cy ad A) A) args s 0 0 A) 3 D cy tm_shR ad 13 [] A z 42 [(0, .ref (ad 0)), (1, .int a1)] [] w (K0 a1 w)) (hL : ∀ (a1 a2 : Int32) (w : tmM), tmG p l e ({ frames := 3, cells := 0, slots := 0, locals := 67 } : Room) s m args below meth c 0 0 (MQ below (va_Qi (fun r u => z = (r, u)) (tmAt tm_shR 13 D cy ad A) A) args s 0 0 A) 3 D cy tm_shR ad 13 [] A z 9 [(0, .ref (ad 0)), (1, .int a1), (2, .int a2)] [] w (L a1 a2 w)) (x2 s0 : Int32) (v : tmM) : tmG p l e ({ frames := 3, cells := 0, slots := 0, locals := 67 } : Room) s m args below meth c 0 0 (MQ below (va_Qi (fun r u => z = (r, u)) (tmAt tm_shR 13 D cy ad A) A) args s 0 0 A) 3 D cy tm_shR ad 13 [] A z 35 [(0, .ref (ad 0)), (2, .int x2)] [.int s0] v (f_X8_troubledReaders_35 K0 L x2 s0 v) := by
  unfold f_X8_troubledReaders_35
  refine tg_istore_n [(1, .int s0), (0, .ref (ad 0)), (2, .int x2)] C0 dX8_troubledReaders_35 rfl (by decide) rfl ?_
  refine tg_iinc [(2, .int (x2 + 1)), (1, .int s0), (0, .ref (ad 0))] 2 C0 dX8_troubledReaders_36 rfl rfl (by decide) rfl ?_
  refine tg_goto 9 C0 dX8_troubledReaders_39 (by decide) ?_
  refine tg_sub [2, 1, 0] rfl ?_
  exact hL s0 (x2 + 1) v
def f_X8_troubledReaders_30 (K0 : Int32 → tmM → Option (Int32 × tmM)) (L : Int32 → Int32 → tmM → Option (Int32 × tmM)) (x2 : Int32) (v : tmM) : Option (Int32 × tmM) := f_X8_troubledReaders_35 K0 L x2 1 v
set_option maxRecDepth 100000 in
set_option maxHeartbeats 4000000 in
theorem w_X8_troubledReaders_30 {p : Program} {l : Launch} {e : Env} {s : State} {m : MethodId} {args : Array Value} {below : List Frame} {meth : Method} {c : Code} {D : va_G} {cy : Nat → ClassId} {ad : Nat → Nat} {A : Nat → Prop} {z : (Int32 × tmM)} {K0 : Int32 → tmM → Option (Int32 × tmM)} {L : Int32 → Int32 → tmM → Option (Int32 × tmM)} (C0 : tmC p s m args meth c cX8_troubledReaders 3 (some .int) RX8 TMW tm_NWR D cy tm_shR ad 13 [] A) (hK0 : ∀ (a1 : Int32) (w : tmM), tmG p l e ({ frames := 3, cells := 0, slots := 0, locals := 67 } : Room) s m args below meth c 0 0 (MQ below (va_Qi (fun r u => z = (r, u)) (tmAt tm_shR 13 D cy ad A) A) args s 0 0 A) 3 D cy tm_shR ad 13 [] A z 42 [(0, .ref (ad 0)), (1, .int a1)] [] w (K0 a1 w)) (hL : ∀ (a1 a2 : Int32) (w : tmM), tmG p l e ({ frames := 3, cells := 0, slots := 0, locals := 67 } : Room) s m args below meth c 0 0 (MQ below (va_Qi (fun r u => z = (r, u)) (tmAt tm_shR 13 D cy ad A) A) args s 0 0 A) 3 D cy tm_shR ad 13 [] A z 9 [(0, .ref (ad 0)), (1, .int a1), (2, .int a2)] [] w (L a1 a2 w)) (x2 : Int32) (v : tmM) : tmG p l e ({ frames := 3, cells := 0, slots := 0, locals := 67 } : Room) s m args below meth c 0 0 (MQ below (va_Qi (fun r u => z = (r, u)) (tmAt tm_shR 13 D cy ad A) A) args s 0 0 A) 3 D cy tm_shR ad 13 [] A z 30 [(0, .ref (ad 0)), (2, .int x2)] [] v (f_X8_troubledReaders_30 K0 L x2 v) := by
  unfold f_X8_troubledReaders_30
  refine tg_iconst (x := 1) C0 dX8_troubledReaders_30 (by decide) ?_
  refine tg_goto 35 C0 dX8_troubledReaders_31 (by decide) ?_
  exact w_X8_troubledReaders_35 C0 hK0 hL x2 1 v
def f_X8_troubledReaders_9b (K0 : Int32 → tmM → Option (Int32 × tmM)) (L : Int32 → Int32 → tmM → Option (Int32 × tmM)) (x1 x2 : Int32) (v : tmM) : Option (Int32 × tmM) := (if 60 ≤ x2 then K0 x1 v else (if x1 = 0 then tm_cl (f_X8_valueIn 1 x2 v) fun r3 v2 => (if r3 = (-3) then f_X8_troubledReaders_30 K0 L x2 v2 else f_X8_troubledReaders_35 K0 L x2 0 v2) else f_X8_troubledReaders_30 K0 L x2 v))
set_option maxRecDepth 100000 in
set_option maxHeartbeats 4000000 in
theorem w_X8_troubledReaders_9b {p : Program} {l : Launch} {e : Env} {s : State} {m : MethodId} {args : Array Value} {below : List Frame} {meth : Method} {c : Code} {D : va_G} {cy : Nat → ClassId} {ad : Nat → Nat} {A : Nat → Prop} {z : (Int32 × tmM)} {K0 : Int32 → tmM → Option (Int32 × tmM)} {L : Int32 → Int32 → tmM → Option (Int32 × tmM)} (C0 : tmC p s m args meth c cX8_troubledReaders 3 (some .int) RX8 TMW tm_NWR D cy tm_shR ad 13 [] A) (hK0 : ∀ (a1 : Int32) (w : tmM), tmG p l e ({ frames := 3, cells := 0, slots := 0, locals := 67 } : Room) s m args below meth c 0 0 (MQ below (va_Qi (fun r u => z = (r, u)) (tmAt tm_shR 13 D cy ad A) A) args s 0 0 A) 3 D cy tm_shR ad 13 [] A z 42 [(0, .ref (ad 0)), (1, .int a1)] [] w (K0 a1 w)) (hL : ∀ (a1 a2 : Int32) (w : tmM), tmG p l e ({ frames := 3, cells := 0, slots := 0, locals := 67 } : Room) s m args below meth c 0 0 (MQ below (va_Qi (fun r u => z = (r, u)) (tmAt tm_shR 13 D cy ad A) A) args s 0 0 A) 3 D cy tm_shR ad 13 [] A z 9 [(0, .ref (ad 0)), (1, .int a1), (2, .int a2)] [] w (L a1 a2 w)) (x1 x2 : Int32) (v : tmM) : tmG p l e ({ frames := 3, cells := 0, slots := 0, locals := 67 } : Room) s m args below meth c 0 0 (MQ below (va_Qi (fun r u => z = (r, u)) (tmAt tm_shR 13 D cy ad A) A) args s 0 0 A) 3 D cy tm_shR ad 13 [] A z 9 [(0, .ref (ad 0)), (1, .int x1), (2, .int x2)] [] v (f_X8_troubledReaders_9b K0 L x1 x2 v) := by
  unfold f_X8_troubledReaders_9b
  refine tg_iload_n 2 C0 dX8_troubledReaders_9 rfl rfl ?_
  refine tg_bipush (x := 60) C0 dX8_troubledReaders_10 (by decide) ?_
  refine tg_icmp_ge 42 C0 dX8_troubledReaders_12 (by decide) (fun _ => ?_) (fun _ => ?_)
  · refine tg_sub [0, 1] rfl ?_
    exact hK0 x1 v
  · refine tg_iload_n 1 C0 dX8_troubledReaders_15 rfl rfl ?_
    refine tg_if_ne 30 C0 dX8_troubledReaders_16 (by decide) (fun _ => ?_) (fun _ => ?_)
    · refine tg_sub [0, 2] rfl ?_
      exact w_X8_troubledReaders_30 C0 hK0 hL x2 v
    · refine tg_aload_n 0 C0 dX8_troubledReaders_19 rfl rfl ?_
      refine tg_iconst (x := 1) C0 dX8_troubledReaders_20 (by decide) ?_
      refine tg_iload_n 2 C0 dX8_troubledReaders_21 rfl rfl ?_
      refine tg_callVi (As := [.int 1, .int x2]) 0 2 C0 dX8_troubledReaders_22 (c_X8_valueIn l 1 x2 v) rfl rfl (by decide) rfl rfl (tm_gV tl_X8_74 ti_X8_valueIn ts_X8_valueIn tn_X8 tc_X8_valueIn)  rfl rfl rfl rfl (by decide +kernel) ⟨by decide, by decide⟩ (Nat.le_of_ble_eq_true rfl) ⟨by decide, by decide⟩ (fun r3 v2 _ => ?_)
      refine tg_bipush (x := (-3)) C0 dX8_troubledReaders_25 (by decide) ?_
      refine tg_icmp_ne 34 C0 dX8_troubledReaders_27 (by decide) (fun _ => ?_) (fun _ => ?_)
      · refine tg_iconst (x := 0) C0 dX8_troubledReaders_34 (by decide) ?_
        refine tg_sub [0, 2] rfl ?_
        exact w_X8_troubledReaders_35 C0 hK0 hL x2 0 v2
      · refine tg_sub [0, 2] rfl ?_
        exact w_X8_troubledReaders_30 C0 hK0 hL x2 v2
def f_X8_troubledReaders_9 (K0 : Int32 → tmM → Option (Int32 × tmM)) : Nat → Int32 → Int32 → tmM → Option (Int32 × tmM)
  | 0 => fun _ _ _ => none
  | n + 1 => f_X8_troubledReaders_9b K0 (f_X8_troubledReaders_9 K0 n)
theorem w_X8_troubledReaders_9 {p : Program} {l : Launch} {e : Env} {s : State} {m : MethodId} {args : Array Value} {below : List Frame} {meth : Method} {c : Code} {D : va_G} {cy : Nat → ClassId} {ad : Nat → Nat} {A : Nat → Prop} {z : (Int32 × tmM)} {K0 : Int32 → tmM → Option (Int32 × tmM)} (C0 : tmC p s m args meth c cX8_troubledReaders 3 (some .int) RX8 TMW tm_NWR D cy tm_shR ad 13 [] A) (hK0 : ∀ (a1 : Int32) (w : tmM), tmG p l e ({ frames := 3, cells := 0, slots := 0, locals := 67 } : Room) s m args below meth c 0 0 (MQ below (va_Qi (fun r u => z = (r, u)) (tmAt tm_shR 13 D cy ad A) A) args s 0 0 A) 3 D cy tm_shR ad 13 [] A z 42 [(0, .ref (ad 0)), (1, .int a1)] [] w (K0 a1 w)) (nn : Nat) : ∀ (x1 x2 : Int32) (v : tmM), tmG p l e ({ frames := 3, cells := 0, slots := 0, locals := 67 } : Room) s m args below meth c 0 0 (MQ below (va_Qi (fun r u => z = (r, u)) (tmAt tm_shR 13 D cy ad A) A) args s 0 0 A) 3 D cy tm_shR ad 13 [] A z 9 [(0, .ref (ad 0)), (1, .int x1), (2, .int x2)] [] v (f_X8_troubledReaders_9 K0 nn x1 x2 v) := by
  induction nn with
  | zero => intro _ _ _; exact tg_none
  | succ n ih => intro x1 x2 v; exact w_X8_troubledReaders_9b C0 hK0 ih x1 x2 v
def f_X8_troubledReaders_66 (x1 s0 : Int32) (v : tmM) : Option (Int32 × tmM) := tm_cl (f_X8_isUp 1 v) fun r9 v8 => (if r9 = 0 then tm_g (tm_ix 5 491) (some (s0 ||| (v8 1 (5 : Int32).toNatClampNeg), v8)) else (if x1 = 0 then some (s0 ||| 0, v8) else tm_g (tm_ix 5 491) (some (s0 ||| (v8 1 (5 : Int32).toNatClampNeg), v8))))
set_option maxRecDepth 100000 in
set_option maxHeartbeats 4000000 in
theorem w_X8_troubledReaders_66 {p : Program} {l : Launch} {e : Env} {s : State} {m : MethodId} {args : Array Value} {below : List Frame} {meth : Method} {c : Code} {D : va_G} {cy : Nat → ClassId} {ad : Nat → Nat} {A : Nat → Prop} {z : (Int32 × tmM)} (C0 : tmC p s m args meth c cX8_troubledReaders 3 (some .int) RX8 TMW tm_NWR D cy tm_shR ad 13 [] A) (x1 s0 : Int32) (v : tmM) : tmG p l e ({ frames := 3, cells := 0, slots := 0, locals := 67 } : Room) s m args below meth c 0 0 (MQ below (va_Qi (fun r u => z = (r, u)) (tmAt tm_shR 13 D cy ad A) A) args s 0 0 A) 3 D cy tm_shR ad 13 [] A z 66 [(0, .ref (ad 0)), (1, .int x1)] [.int s0] v (f_X8_troubledReaders_66 x1 s0 v) := by
  unfold f_X8_troubledReaders_66
  refine tg_istore_n [(2, .int s0), (0, .ref (ad 0)), (1, .int x1)] C0 dX8_troubledReaders_66 rfl (by decide) rfl ?_
  refine tg_iload_n 0 C0 dX8_troubledReaders_67 rfl rfl ?_
  refine tg_aload_n 1 C0 dX8_troubledReaders_68 rfl rfl ?_
  refine tg_iconst (x := 1) C0 dX8_troubledReaders_69 (by decide) ?_
  refine tg_callVi (As := [.int 1]) 0 1 C0 dX8_troubledReaders_70 (c_X8_isUp l 1 v) rfl rfl (by decide) rfl rfl (tm_gV tl_X8_113 ti_X8_isUp ts_X8_isUp tn_X8 tc_X8_isUp)  rfl rfl rfl rfl (by decide +kernel) ⟨by decide, by decide⟩ (Nat.le_of_ble_eq_true rfl) ⟨by decide, by decide⟩ (fun r9 v8 _ => ?_)
  refine tg_if_eq 84 C0 dX8_troubledReaders_73 (by decide) (fun _ => ?_) (fun _ => ?_)
  · refine tg_aload_n 1 C0 dX8_troubledReaders_84 rfl rfl ?_
    refine tg_get 0 1 C0 dX8_troubledReaders_85 (by decide) rfl rfl tu_X8 (by decide) tf_X8_7 rfl rfl rfl ?_
    refine tg_iconst (x := 5) C0 dX8_troubledReaders_88 (by decide) ?_
    refine tg_iald 1 C0 dX8_troubledReaders_89 (by decide) rfl (fun _ => ?_)
    refine tg_ior C0 dX8_troubledReaders_90 ?_
    exact tg_iret C0 dX8_troubledReaders_91
  · refine tg_iload_n 2 C0 dX8_troubledReaders_76 rfl rfl ?_
    refine tg_if_ne 84 C0 dX8_troubledReaders_77 (by decide) (fun _ => ?_) (fun _ => ?_)
    · refine tg_aload_n 1 C0 dX8_troubledReaders_84 rfl rfl ?_
      refine tg_get 0 1 C0 dX8_troubledReaders_85 (by decide) rfl rfl tu_X8 (by decide) tf_X8_7 rfl rfl rfl ?_
      refine tg_iconst (x := 5) C0 dX8_troubledReaders_88 (by decide) ?_
      refine tg_iald 1 C0 dX8_troubledReaders_89 (by decide) rfl (fun _ => ?_)
      refine tg_ior C0 dX8_troubledReaders_90 ?_
      exact tg_iret C0 dX8_troubledReaders_91
    · refine tg_iconst (x := 0) C0 dX8_troubledReaders_80 (by decide) ?_
      refine tg_goto 90 C0 dX8_troubledReaders_81 (by decide) ?_
      refine tg_ior C0 dX8_troubledReaders_90 ?_
      exact tg_iret C0 dX8_troubledReaders_91
def f_X8_troubledReaders (v : tmM) : Option (Int32 × tmM) := tm_lt (tm_up v 0 0 0) fun v1 => f_X8_troubledReaders_9 (fun x4 v5 => tm_cl (f_X8_isUp 0 v5) fun r7 v6 => (if r7 = 0 then tm_g (tm_ix 5 491) (f_X8_troubledReaders_66 x4 (255 &&& ((v6 1 (5 : Int32).toNatClampNeg) ^^^ (-1))) v6) else f_X8_troubledReaders_66 x4 0 v6)) 10000 0 0 v1
set_option maxRecDepth 100000 in
set_option maxHeartbeats 4000000 in
theorem w_X8_troubledReaders {p : Program} {l : Launch} {e : Env} {s : State} {m : MethodId} {args : Array Value} {below : List Frame} {meth : Method} {c : Code} {D : va_G} {cy : Nat → ClassId} {ad : Nat → Nat} {A : Nat → Prop} {z : (Int32 × tmM)} (C0 : tmC p s m args meth c cX8_troubledReaders 3 (some .int) RX8 TMW tm_NWR D cy tm_shR ad 13 [] A) (v : tmM) : tmG p l e ({ frames := 3, cells := 0, slots := 0, locals := 67 } : Room) s m args below meth c 0 0 (MQ below (va_Qi (fun r u => z = (r, u)) (tmAt tm_shR 13 D cy ad A) A) args s 0 0 A) 3 D cy tm_shR ad 13 [] A z 0 [(0, .ref (ad 0))] [] v (f_X8_troubledReaders v) := by
  unfold f_X8_troubledReaders
  refine tg_aload_n 0 C0 dX8_troubledReaders_0 rfl rfl ?_
  refine tg_iconst (x := 0) C0 dX8_troubledReaders_1 (by decide) ?_
  refine tg_put 0 0 C0 dX8_troubledReaders_2 (by decide) rfl rfl tu_X8 tyX8_ok nmX8 (by decide) tf_X8_56 rfl rfl rfl rfl rfl rfl ?_
  refine tg_letm (fun v1 _ => ?_)
  refine tg_iconst (x := 0) C0 dX8_troubledReaders_5 (by decide) ?_
  refine tg_istore_n [(1, .int 0), (0, .ref (ad 0))] C0 dX8_troubledReaders_6 rfl (by decide) rfl ?_
  refine tg_iconst (x := 0) C0 dX8_troubledReaders_7 (by decide) ?_
  refine tg_istore_n [(2, .int 0), (1, .int 0), (0, .ref (ad 0))] C0 dX8_troubledReaders_8 rfl (by decide) rfl ?_
  refine tg_sub [2, 1, 0] rfl ?_
  refine w_X8_troubledReaders_9 C0 (fun x4 v5 => ?_) 10000 0 0 v1
  refine tg_aload_n 0 C0 dX8_troubledReaders_42 rfl rfl ?_
  refine tg_iconst (x := 0) C0 dX8_troubledReaders_43 (by decide) ?_
  refine tg_callVi (As := [.int 0]) 0 1 C0 dX8_troubledReaders_44 (c_X8_isUp l 0 v5) rfl rfl (by decide) rfl rfl (tm_gV tl_X8_113 ti_X8_isUp ts_X8_isUp tn_X8 tc_X8_isUp)  rfl rfl rfl rfl (by decide +kernel) ⟨by decide, by decide⟩ (Nat.le_of_ble_eq_true rfl) ⟨by decide, by decide⟩ (fun r7 v6 _ => ?_)
  refine tg_if_eq 54 C0 dX8_troubledReaders_47 (by decide) (fun _ => ?_) (fun _ => ?_)
  · refine tg_sipush (x := 255) C0 dX8_troubledReaders_54 (by decide) ?_
    refine tg_aload_n 0 C0 dX8_troubledReaders_57 rfl rfl ?_
    refine tg_get 0 1 C0 dX8_troubledReaders_58 (by decide) rfl rfl tu_X8 (by decide) tf_X8_7 rfl rfl rfl ?_
    refine tg_iconst (x := 5) C0 dX8_troubledReaders_61 (by decide) ?_
    refine tg_iald 1 C0 dX8_troubledReaders_62 (by decide) rfl (fun _ => ?_)
    refine tg_iconst (x := (-1)) C0 dX8_troubledReaders_63 (by decide) ?_
    refine tg_ixor C0 dX8_troubledReaders_64 ?_
    refine tg_iand C0 dX8_troubledReaders_65 ?_
    exact w_X8_troubledReaders_66 C0 x4 (255 &&& ((v6 1 (5 : Int32).toNatClampNeg) ^^^ (-1))) v6
  · refine tg_iconst (x := 0) C0 dX8_troubledReaders_50 (by decide) ?_
    refine tg_goto 66 C0 dX8_troubledReaders_51 (by decide) ?_
    exact w_X8_troubledReaders_66 C0 x4 0 v6
theorem c_X8_troubledReaders (l : Launch) (v : tmM) : tmMi tm_NWR tm_shR 13 l yX8_troubledReaders (Cond.code yX8_troubledReaders cX8_troubledReaders 3 (some .int) :: TMW) ({ frames := 3, cells := 0, slots := 0, locals := 67 } : Room) (fun ad => [.ref (ad 0)]) v (f_X8_troubledReaders v) :=
  tmMi.of (cc := cX8_troubledReaders) (nL := 3) (by decide +kernel) rfl tm_NWR_ok (fun _ => Nat.le_of_ble_eq_true rfl) (fun p e s m args below meth c A D cy ad z C0 => w_X8_troubledReaders C0 v)
