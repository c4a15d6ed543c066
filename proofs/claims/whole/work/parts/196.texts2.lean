-- ----- J6_stringSize_0f7a4
theorem dJ6_stringSize_0f7a4_0 : decode cJ6_stringSize_0f7a4 0 = .ok (.iconst 1, 1) := by decide +kernel
theorem dJ6_stringSize_0f7a4_1 : decode cJ6_stringSize_0f7a4 1 = .ok (.istore_n 1, 1) := by decide +kernel
theorem dJ6_stringSize_0f7a4_2 : decode cJ6_stringSize_0f7a4 2 = .ok (.iload_n 0, 1) := by decide +kernel
theorem dJ6_stringSize_0f7a4_3 : decode cJ6_stringSize_0f7a4 3 = .ok (.ifCond .lt 8, 3) := by decide +kernel
theorem dJ6_stringSize_0f7a4_6 : decode cJ6_stringSize_0f7a4 6 = .ok (.iconst 0, 1) := by decide +kernel
theorem dJ6_stringSize_0f7a4_7 : decode cJ6_stringSize_0f7a4 7 = .ok (.istore_n 1, 1) := by decide +kernel
theorem dJ6_stringSize_0f7a4_8 : decode cJ6_stringSize_0f7a4 8 = .ok (.iload_n 0, 1) := by decide +kernel
theorem dJ6_stringSize_0f7a4_9 : decode cJ6_stringSize_0f7a4 9 = .ok (.ineg, 1) := by decide +kernel
theorem dJ6_stringSize_0f7a4_10 : decode cJ6_stringSize_0f7a4 10 = .ok (.istore_n 0, 1) := by decide +kernel
theorem dJ6_stringSize_0f7a4_11 : decode cJ6_stringSize_0f7a4 11 = .ok (.bipush (-10), 2) := by decide +kernel
theorem dJ6_stringSize_0f7a4_13 : decode cJ6_stringSize_0f7a4 13 = .ok (.istore_n 2, 1) := by decide +kernel
theorem dJ6_stringSize_0f7a4_14 : decode cJ6_stringSize_0f7a4 14 = .ok (.iconst 1, 1) := by decide +kernel
theorem dJ6_stringSize_0f7a4_15 : decode cJ6_stringSize_0f7a4 15 = .ok (.istore_n 3, 1) := by decide +kernel
theorem dJ6_stringSize_0f7a4_16 : decode cJ6_stringSize_0f7a4 16 = .ok (.iload_n 3, 1) := by decide +kernel
theorem dJ6_stringSize_0f7a4_17 : decode cJ6_stringSize_0f7a4 17 = .ok (.bipush 10, 2) := by decide +kernel
theorem dJ6_stringSize_0f7a4_19 : decode cJ6_stringSize_0f7a4 19 = .ok (.if_icmp .ge 23, 3) := by decide +kernel
theorem dJ6_stringSize_0f7a4_22 : decode cJ6_stringSize_0f7a4 22 = .ok (.iload_n 0, 1) := by decide +kernel
theorem dJ6_stringSize_0f7a4_23 : decode cJ6_stringSize_0f7a4 23 = .ok (.iload_n 2, 1) := by decide +kernel
theorem dJ6_stringSize_0f7a4_24 : decode cJ6_stringSize_0f7a4 24 = .ok (.if_icmp .le 7, 3) := by decide +kernel
theorem dJ6_stringSize_0f7a4_27 : decode cJ6_stringSize_0f7a4 27 = .ok (.iload_n 3, 1) := by decide +kernel
theorem dJ6_stringSize_0f7a4_28 : decode cJ6_stringSize_0f7a4 28 = .ok (.iload_n 1, 1) := by decide +kernel
theorem dJ6_stringSize_0f7a4_29 : decode cJ6_stringSize_0f7a4 29 = .ok (.iadd, 1) := by decide +kernel
theorem dJ6_stringSize_0f7a4_30 : decode cJ6_stringSize_0f7a4 30 = .ok (.ireturn, 1) := by decide +kernel
theorem dJ6_stringSize_0f7a4_31 : decode cJ6_stringSize_0f7a4 31 = .ok (.bipush 10, 2) := by decide +kernel
theorem dJ6_stringSize_0f7a4_33 : decode cJ6_stringSize_0f7a4 33 = .ok (.iload_n 2, 1) := by decide +kernel
theorem dJ6_stringSize_0f7a4_34 : decode cJ6_stringSize_0f7a4 34 = .ok (.imul, 1) := by decide +kernel
theorem dJ6_stringSize_0f7a4_35 : decode cJ6_stringSize_0f7a4 35 = .ok (.istore_n 2, 1) := by decide +kernel
theorem dJ6_stringSize_0f7a4_36 : decode cJ6_stringSize_0f7a4 36 = .ok (.iinc 3 1, 3) := by decide +kernel
theorem dJ6_stringSize_0f7a4_39 : decode cJ6_stringSize_0f7a4 39 = .ok (.goto (-23), 3) := by decide +kernel
theorem dJ6_stringSize_0f7a4_42 : decode cJ6_stringSize_0f7a4 42 = .ok (.bipush 10, 2) := by decide +kernel
theorem dJ6_stringSize_0f7a4_44 : decode cJ6_stringSize_0f7a4 44 = .ok (.iload_n 1, 1) := by decide +kernel
theorem dJ6_stringSize_0f7a4_45 : decode cJ6_stringSize_0f7a4 45 = .ok (.iadd, 1) := by decide +kernel
theorem dJ6_stringSize_0f7a4_46 : decode cJ6_stringSize_0f7a4 46 = .ok (.ireturn, 1) := by decide +kernel
def f_J6_stringSize_0f7a4_16b (K0 : Int32 → tmM → Option (Int32 × tmM)) (L : Int32 → Int32 → Int32 → Int32 → tmM → Option (Int32 × tmM)) (x0 x1 x2 x3 : Int32) (v : tmM) : Option (Int32 × tmM) := (if 10 ≤ x3 then K0 x1 v else (if x0 ≤ x2 then tm_lt (10 * x2) fun y1 => L x0 x1 y1 (x3 + 1) v else some (x3 + x1, v)))
set_option maxRecDepth 100000 in
set_option maxHeartbeats 4000000 in
theorem w_J6_stringSize_0f7a4_16b {p : Program} {l : Launch} {e : Env} {s : State} {m : MethodId} {args : Array Value} {below : List Frame} {meth : Method} {c : Code} {D : va_G} {cy : Nat → ClassId} {ad : Nat → Nat} {A : Nat → Prop} {adK adV adE : Nat → Nat} {tC : Nat} {shW : Nat → tmE} {nW : Nat} {z : (Int32 × tmM)} {K0 : Int32 → tmM → Option (Int32 × tmM)} {L : Int32 → Int32 → Int32 → Int32 → tmM → Option (Int32 × tmM)} (C0 : tmC p s m args meth c cJ6_stringSize_0f7a4 4 (some .int) RJ6 TMW tm_NWC D cy shW ad nW [] A) (hE : tmSc adK adV adE tC A s s.heap) (hK0 : ∀ (a1 : Int32) (w : tmM), tmG p l e ({ frames := 0, cells := 0, slots := 0, locals := 0 } : Room) s m args below meth c 0 0 (MQ below (va_Qi (fun r u => z = (r, u)) (tmAt shW nW D cy ad A) A) args s 0 0 A) 4 D cy shW ad nW [] A z 42 [(1, .int a1)] [] w (K0 a1 w)) (hL : ∀ (a0 a1 a2 a3 : Int32) (w : tmM), tmG p l e ({ frames := 0, cells := 0, slots := 0, locals := 0 } : Room) s m args below meth c 0 0 (MQ below (va_Qi (fun r u => z = (r, u)) (tmAt shW nW D cy ad A) A) args s 0 0 A) 4 D cy shW ad nW [] A z 16 [(0, .int a0), (1, .int a1), (2, .int a2), (3, .int a3)] [] w (L a0 a1 a2 a3 w)) (x0 x1 x2 x3 : Int32) (v : tmM) : tmG p l e ({ frames := 0, cells := 0, slots := 0, locals := 0 } : Room) s m args below meth c 0 0 (MQ below (va_Qi (fun r u => z = (r, u)) (tmAt shW nW D cy ad A) A) args s 0 0 A) 4 D cy shW ad nW [] A z 16 [(0, .int x0), (1, .int x1), (2, .int x2), (3, .int x3)] [] v (f_J6_stringSize_0f7a4_16b K0 L x0 x1 x2 x3 v) := by
  unfold f_J6_stringSize_0f7a4_16b
  refine tg_iload_n 3 C0 dJ6_stringSize_0f7a4_16 rfl rfl ?_
  refine tg_bipush (x := 10) C0 dJ6_stringSize_0f7a4_17 (by decide) ?_
  refine tg_icmp_ge 42 C0 dJ6_stringSize_0f7a4_19 (by decide) (fun _ => ?_) (fun _ => ?_)
  · refine tg_sub [1] rfl ?_
    exact hK0 x1 v
  · refine tg_iload_n 0 C0 dJ6_stringSize_0f7a4_22 rfl rfl ?_
    refine tg_iload_n 2 C0 dJ6_stringSize_0f7a4_23 rfl rfl ?_
    refine tg_icmp_le 31 C0 dJ6_stringSize_0f7a4_24 (by decide) (fun _ => ?_) (fun _ => ?_)
    · refine tg_bipush (x := 10) C0 dJ6_stringSize_0f7a4_31 (by decide) ?_
      refine tg_iload_n 2 C0 dJ6_stringSize_0f7a4_33 rfl rfl ?_
      refine tg_imul C0 dJ6_stringSize_0f7a4_34 ?_
      refine tg_leti (fun y1 _ => ?_)
      refine tg_istore_n [(2, .int y1), (0, .int x0), (1, .int x1), (3, .int x3)] C0 dJ6_stringSize_0f7a4_35 rfl (by decide) rfl ?_
      refine tg_iinc [(3, .int (x3 + 1)), (2, .int y1), (0, .int x0), (1, .int x1)] 3 C0 dJ6_stringSize_0f7a4_36 rfl rfl (by decide) rfl ?_
      refine tg_goto 16 C0 dJ6_stringSize_0f7a4_39 (by decide) ?_
      refine tg_sub [2, 3, 1, 0] rfl ?_
      exact hL x0 x1 y1 (x3 + 1) v
    · refine tg_iload_n 3 C0 dJ6_stringSize_0f7a4_27 rfl rfl ?_
      refine tg_iload_n 1 C0 dJ6_stringSize_0f7a4_28 rfl rfl ?_
      refine tg_iadd C0 dJ6_stringSize_0f7a4_29 ?_
      exact tg_iret C0 dJ6_stringSize_0f7a4_30
def f_J6_stringSize_0f7a4_16 (K0 : Int32 → tmM → Option (Int32 × tmM)) : Nat → Int32 → Int32 → Int32 → Int32 → tmM → Option (Int32 × tmM)
  | 0 => fun _ _ _ _ _ => none
  | n + 1 => f_J6_stringSize_0f7a4_16b K0 (f_J6_stringSize_0f7a4_16 K0 n)
theorem w_J6_stringSize_0f7a4_16 {p : Program} {l : Launch} {e : Env} {s : State} {m : MethodId} {args : Array Value} {below : List Frame} {meth : Method} {c : Code} {D : va_G} {cy : Nat → ClassId} {ad : Nat → Nat} {A : Nat → Prop} {adK adV adE : Nat → Nat} {tC : Nat} {shW : Nat → tmE} {nW : Nat} {z : (Int32 × tmM)} {K0 : Int32 → tmM → Option (Int32 × tmM)} (C0 : tmC p s m args meth c cJ6_stringSize_0f7a4 4 (some .int) RJ6 TMW tm_NWC D cy shW ad nW [] A) (hE : tmSc adK adV adE tC A s s.heap) (hK0 : ∀ (a1 : Int32) (w : tmM), tmG p l e ({ frames := 0, cells := 0, slots := 0, locals := 0 } : Room) s m args below meth c 0 0 (MQ below (va_Qi (fun r u => z = (r, u)) (tmAt shW nW D cy ad A) A) args s 0 0 A) 4 D cy shW ad nW [] A z 42 [(1, .int a1)] [] w (K0 a1 w)) (nn : Nat) : ∀ (x0 x1 x2 x3 : Int32) (v : tmM), tmG p l e ({ frames := 0, cells := 0, slots := 0, locals := 0 } : Room) s m args below meth c 0 0 (MQ below (va_Qi (fun r u => z = (r, u)) (tmAt shW nW D cy ad A) A) args s 0 0 A) 4 D cy shW ad nW [] A z 16 [(0, .int x0), (1, .int x1), (2, .int x2), (3, .int x3)] [] v (f_J6_stringSize_0f7a4_16 K0 nn x0 x1 x2 x3 v) := by
  induction nn with
  | zero => intro _ _ _ _ _; exact tg_none
  | succ n ih => intro x0 x1 x2 x3 v; exact w_J6_stringSize_0f7a4_16b C0 hE hK0 ih x0 x1 x2 x3 v
def f_J6_stringSize_0f7a4_11 (x0 x1 : Int32) (v : tmM) : Option (Int32 × tmM) := f_J6_stringSize_0f7a4_16 (fun x2 v3 => some (10 + x2, v3)) 10000 x0 x1 (-10) 1 v
set_option maxRecDepth 100000 in
set_option maxHeartbeats 4000000 in
theorem w_J6_stringSize_0f7a4_11 {p : Program} {l : Launch} {e : Env} {s : State} {m : MethodId} {args : Array Value} {below : List Frame} {meth : Method} {c : Code} {D : va_G} {cy : Nat → ClassId} {ad : Nat → Nat} {A : Nat → Prop} {adK adV adE : Nat → Nat} {tC : Nat} {shW : Nat → tmE} {nW : Nat} {z : (Int32 × tmM)} (C0 : tmC p s m args meth c cJ6_stringSize_0f7a4 4 (some .int) RJ6 TMW tm_NWC D cy shW ad nW [] A) (hE : tmSc adK adV adE tC A s s.heap) (x0 x1 : Int32) (v : tmM) : tmG p l e ({ frames := 0, cells := 0, slots := 0, locals := 0 } : Room) s m args below meth c 0 0 (MQ below (va_Qi (fun r u => z = (r, u)) (tmAt shW nW D cy ad A) A) args s 0 0 A) 4 D cy shW ad nW [] A z 11 [(0, .int x0), (1, .int x1)] [] v (f_J6_stringSize_0f7a4_11 x0 x1 v) := by
  unfold f_J6_stringSize_0f7a4_11
  refine tg_bipush (x := (-10)) C0 dJ6_stringSize_0f7a4_11 (by decide) ?_
  refine tg_istore_n [(2, .int (-10)), (0, .int x0), (1, .int x1)] C0 dJ6_stringSize_0f7a4_13 rfl (by decide) rfl ?_
  refine tg_iconst (x := 1) C0 dJ6_stringSize_0f7a4_14 (by decide) ?_
  refine tg_istore_n [(3, .int 1), (2, .int (-10)), (0, .int x0), (1, .int x1)] C0 dJ6_stringSize_0f7a4_15 rfl (by decide) rfl ?_
  refine tg_sub [2, 3, 1, 0] rfl ?_
  refine w_J6_stringSize_0f7a4_16 C0 hE (fun x2 v3 => ?_) 10000 x0 x1 (-10) 1 v
  refine tg_bipush (x := 10) C0 dJ6_stringSize_0f7a4_42 (by decide) ?_
  refine tg_iload_n 0 C0 dJ6_stringSize_0f7a4_44 rfl rfl ?_
  refine tg_iadd C0 dJ6_stringSize_0f7a4_45 ?_
  exact tg_iret C0 dJ6_stringSize_0f7a4_46
def f_J6_stringSize_0f7a4 (x0 : Int32) (v : tmM) : Option (Int32 × tmM) := (if x0 < 0 then f_J6_stringSize_0f7a4_11 x0 1 v else tm_lt (-x0) fun y4 => f_J6_stringSize_0f7a4_11 y4 0 v)
set_option maxRecDepth 100000 in
set_option maxHeartbeats 4000000 in
theorem w_J6_stringSize_0f7a4 {p : Program} {l : Launch} {e : Env} {s : State} {m : MethodId} {args : Array Value} {below : List Frame} {meth : Method} {c : Code} {D : va_G} {cy : Nat → ClassId} {ad : Nat → Nat} {A : Nat → Prop} {adK adV adE : Nat → Nat} {tC : Nat} {shW : Nat → tmE} {nW : Nat} {z : (Int32 × tmM)} (C0 : tmC p s m args meth c cJ6_stringSize_0f7a4 4 (some .int) RJ6 TMW tm_NWC D cy shW ad nW [] A) (hE : tmSc adK adV adE tC A s s.heap) (x0 : Int32) (v : tmM) : tmG p l e ({ frames := 0, cells := 0, slots := 0, locals := 0 } : Room) s m args below meth c 0 0 (MQ below (va_Qi (fun r u => z = (r, u)) (tmAt shW nW D cy ad A) A) args s 0 0 A) 4 D cy shW ad nW [] A z 0 [(0, .int x0)] [] v (f_J6_stringSize_0f7a4 x0 v) := by
  unfold f_J6_stringSize_0f7a4
  refine tg_iconst (x := 1) C0 dJ6_stringSize_0f7a4_0 (by decide) ?_
  refine tg_istore_n [(1, .int 1), (0, .int x0)] C0 dJ6_stringSize_0f7a4_1 rfl (by decide) rfl ?_
  refine tg_iload_n 1 C0 dJ6_stringSize_0f7a4_2 rfl rfl ?_
  refine tg_if_lt 11 C0 dJ6_stringSize_0f7a4_3 (by decide) (fun _ => ?_) (fun _ => ?_)
  · refine tg_sub [1, 0] rfl ?_
    exact w_J6_stringSize_0f7a4_11 C0 hE x0 1 v
  · refine tg_iconst (x := 0) C0 dJ6_stringSize_0f7a4_6 (by decide) ?_
    refine tg_istore_n [(1, .int 0), (0, .int x0)] C0 dJ6_stringSize_0f7a4_7 rfl (by decide) rfl ?_
    refine tg_iload_n 1 C0 dJ6_stringSize_0f7a4_8 rfl rfl ?_
    refine tg_ineg C0 dJ6_stringSize_0f7a4_9 ?_
    refine tg_leti (fun y4 _ => ?_)
    refine tg_istore_n [(0, .int y4), (1, .int 0)] C0 dJ6_stringSize_0f7a4_10 rfl (by decide) rfl ?_
    exact w_J6_stringSize_0f7a4_11 C0 hE y4 0 v
theorem c_J6_stringSize_0f7a4 (l : Launch) {adK adV adE : Nat → Nat} {tC : Nat} {shW : Nat → tmE} {nW : Nat} (x0 : Int32) (v : tmM) : tmYi tm_NWC shW nW l adK adV adE tC yJ6_stringSize_0f7a4 (Cond.code yJ6_stringSize_0f7a4 cJ6_stringSize_0f7a4 4 (some .int) :: TMW) ({ frames := 0, cells := 0, slots := 0, locals := 0 } : Room) (fun ad => [.int x0]) v (f_J6_stringSize_0f7a4 x0 v) := by
  exact tmYi.of (cc := cJ6_stringSize_0f7a4) (nL := 4) (by decide +kernel) rfl tm_NWC_ok (fun _ => Nat.le_of_ble_eq_true rfl) (fun p e s m args below meth c A D cy ad z C0 hE => w_J6_stringSize_0f7a4 C0 hE x0 v)
-- ----- J1_canEncode_fc78d
theorem dJ1_canEncode_fc78d_0 : decode cJ1_canEncode_fc78d 0 = .ok (.iload_n 0, 1) := by decide +kernel
theorem dJ1_canEncode_fc78d_1 : decode cJ1_canEncode_fc78d 1 = .ok (.sipush 255, 3) := by decide +kernel
theorem dJ1_canEncode_fc78d_4 : decode cJ1_canEncode_fc78d 4 = .ok (.if_icmp .gt 7, 3) := by decide +kernel
theorem dJ1_canEncode_fc78d_7 : decode cJ1_canEncode_fc78d 7 = .ok (.iconst 1, 1) := by decide +kernel
theorem dJ1_canEncode_fc78d_8 : decode cJ1_canEncode_fc78d 8 = .ok (.goto 4, 3) := by decide +kernel
theorem dJ1_canEncode_fc78d_11 : decode cJ1_canEncode_fc78d 11 = .ok (.iconst 0, 1) := by decide +kernel
theorem dJ1_canEncode_fc78d_12 : decode cJ1_canEncode_fc78d 12 = .ok (.ireturn, 1) := by decide +kernel
def f_J1_canEncode_fc78d (x0 : Int32) (v : tmM) : Option (Int32 × tmM) := (if 255 < x0 then some (0, v) else some (1, v))
set_option maxRecDepth 100000 in
set_option maxHeartbeats 4000000 in
theorem w_J1_canEncode_fc78d {p : Program} {l : Launch} {e : Env} {s : State} {m : MethodId} {args : Array Value} {below : List Frame} {meth : Method} {c : Code} {D : va_G} {cy : Nat → ClassId} {ad : Nat → Nat} {A : Nat → Prop} {adK adV adE : Nat → Nat} {tC : Nat} {shW : Nat → tmE} {nW : Nat} {z : (Int32 × tmM)} (C0 : tmC p s m args meth c cJ1_canEncode_fc78d 1 (some .boolean) RJ1 TMW tm_NWC D cy shW ad nW [] A) (hE : tmSc adK adV adE tC A s s.heap) (x0 : Int32) (v : tmM) : tmG p l e ({ frames := 0, cells := 0, slots := 0, locals := 0 } : Room) s m args below meth c 0 0 (MQ below (va_Qi (fun r u => z = (r, u)) (tmAt shW nW D cy ad A) A) args s 0 0 A) 1 D cy shW ad nW [] A z 0 [(0, .int x0)] [] v (f_J1_canEncode_fc78d x0 v) := by
  unfold f_J1_canEncode_fc78d
  refine tg_iload_n 0 C0 dJ1_canEncode_fc78d_0 rfl rfl ?_
  refine tg_sipush (x := 255) C0 dJ1_canEncode_fc78d_1 (by decide) ?_
  refine tg_icmp_gt 11 C0 dJ1_canEncode_fc78d_4 (by decide) (fun _ => ?_) (fun _ => ?_)
  · refine tg_iconst (x := 0) C0 dJ1_canEncode_fc78d_11 (by decide) ?_
    exact tg_zret C0 dJ1_canEncode_fc78d_12 rfl
  · refine tg_iconst (x := 1) C0 dJ1_canEncode_fc78d_7 (by decide) ?_
    refine tg_goto 12 C0 dJ1_canEncode_fc78d_8 (by decide) ?_
    exact tg_zret C0 dJ1_canEncode_fc78d_12 rfl
theorem c_J1_canEncode_fc78d (l : Launch) {adK adV adE : Nat → Nat} {tC : Nat} {shW : Nat → tmE} {nW : Nat} (x0 : Int32) (v : tmM) : tmYi tm_NWC shW nW l adK adV adE tC yJ1_canEncode_fc78d (Cond.code yJ1_canEncode_fc78d cJ1_canEncode_fc78d 1 (some .boolean) :: TMW) ({ frames := 0, cells := 0, slots := 0, locals := 0 } : Room) (fun ad => [.int x0]) v (f_J1_canEncode_fc78d x0 v) := by
  exact tmYi.of (cc := cJ1_canEncode_fc78d) (nL := 1) (by decide +kernel) rfl tm_NWC_ok (fun _ => Nat.le_of_ble_eq_true rfl) (fun p e s m args below meth c A D cy ad z C0 hE => w_J1_canEncode_fc78d C0 hE x0 v)
-- ----- J8_newLength_cabcc
theorem dJ8_newLength_cabcc_0 : decode cJ8_newLength_cabcc 0 = .ok (.iload_n 0, 1) := by decide +kernel
theorem dJ8_newLength_cabcc_1 : decode cJ8_newLength_cabcc 1 = .ok (.iload_n 1, 1) := by decide +kernel
theorem dJ8_newLength_cabcc_2 : decode cJ8_newLength_cabcc 2 = .ok (.iload_n 2, 1) := by decide +kernel
theorem dJ8_newLength_cabcc_3 : decode cJ8_newLength_cabcc 3 = .ok (.invokestatic 194, 3) := by decide +kernel
theorem dJ8_newLength_cabcc_6 : decode cJ8_newLength_cabcc 6 = .ok (.iadd, 1) := by decide +kernel
theorem dJ8_newLength_cabcc_7 : decode cJ8_newLength_cabcc 7 = .ok (.istore_n 3, 1) := by decide +kernel
theorem dJ8_newLength_cabcc_8 : decode cJ8_newLength_cabcc 8 = .ok (.iconst 0, 1) := by decide +kernel
theorem dJ8_newLength_cabcc_9 : decode cJ8_newLength_cabcc 9 = .ok (.iload_n 3, 1) := by decide +kernel
theorem dJ8_newLength_cabcc_10 : decode cJ8_newLength_cabcc 10 = .ok (.if_icmp .ge 11, 3) := by decide +kernel
theorem dJ8_newLength_cabcc_13 : decode cJ8_newLength_cabcc 13 = .ok (.iload_n 3, 1) := by decide +kernel
theorem dJ8_newLength_cabcc_14 : decode cJ8_newLength_cabcc 14 = .ok (.ldc 200, 2) := by decide +kernel
theorem dJ8_newLength_cabcc_16 : decode cJ8_newLength_cabcc 16 = .ok (.if_icmp .gt 5, 3) := by decide +kernel
theorem dJ8_newLength_cabcc_19 : decode cJ8_newLength_cabcc 19 = .ok (.iload_n 3, 1) := by decide +kernel
theorem dJ8_newLength_cabcc_20 : decode cJ8_newLength_cabcc 20 = .ok (.ireturn, 1) := by decide +kernel
theorem tl_J8_194 : Cond.methodLink RJ8 194 Lib.Math.max.name ∈ TMW := tm_in 1297 (by decide +kernel) (by decide +kernel)
theorem tk_J8_200 : Cond.constant RJ8 200 2147483639 ∈ TMW := tm_in 1298 (by decide +kernel) (by decide +kernel)
def f_J8_newLength_cabcc_21 (x0 x1 : Int32) (v : tmM) : Option (Int32 × tmM) := none
set_option maxRecDepth 100000 in
set_option maxHeartbeats 4000000 in
theorem w_J8_newLength_cabcc_21 {p : Program} {l : Launch} {e : Env} {s : State} {m : MethodId} {args : Array Value} {below : List Frame} {meth : Method} {c : Code} {D : va_G} {cy : Nat → ClassId} {ad : Nat → Nat} {A : Nat → Prop} {adK adV adE : Nat → Nat} {tC : Nat} {shW : Nat → tmE} {nW : Nat} {z : (Int32 × tmM)} (C0 : tmC p s m args meth c cJ8_newLength_cabcc 4 (some .int) RJ8 TMW tm_NWC D cy shW ad nW [] A) (hE : tmSc adK adV adE tC A s s.heap) (x0 x1 : Int32) (v : tmM) : tmG p l e ({ frames := 1, cells := 0, slots := 0, locals := 40 } : Room) s m args below meth c 0 0 (MQ below (va_Qi (fun r u => z = (r, u)) (tmAt shW nW D cy ad A) A) args s 0 0 A) 4 D cy shW ad nW [] A z 21 [(0, .int x0), (1, .int x1)] [] v (f_J8_newLength_cabcc_21 x0 x1 v) := by
  unfold f_J8_newLength_cabcc_21
  exact tg_none
def f_J8_newLength_cabcc (x0 x1 x2 : Int32) (v : tmM) : Option (Int32 × tmM) := tm_lt (x0 + (if x1 < x2 then x2 else x1)) fun y1 => (if y1 ≤ 0 then f_J8_newLength_cabcc_21 x0 x1 v else (if 2147483639 < y1 then f_J8_newLength_cabcc_21 x0 x1 v else some (y1, v)))
set_option maxRecDepth 100000 in
set_option maxHeartbeats 4000000 in
theorem w_J8_newLength_cabcc {p : Program} {l : Launch} {e : Env} {s : State} {m : MethodId} {args : Array Value} {below : List Frame} {meth : Method} {c : Code} {D : va_G} {cy : Nat → ClassId} {ad : Nat → Nat} {A : Nat → Prop} {adK adV adE : Nat → Nat} {tC : Nat} {shW : Nat → tmE} {nW : Nat} {z : (Int32 × tmM)} (C0 : tmC p s m args meth c cJ8_newLength_cabcc 4 (some .int) RJ8 TMW tm_NWC D cy shW ad nW [] A) (hE : tmSc adK adV adE tC A s s.heap) (x0 x1 x2 : Int32) (v : tmM) : tmG p l e ({ frames := 1, cells := 0, slots := 0, locals := 40 } : Room) s m args below meth c 0 0 (MQ below (va_Qi (fun r u => z = (r, u)) (tmAt shW nW D cy ad A) A) args s 0 0 A) 4 D cy shW ad nW [] A z 0 [(0, .int x0), (1, .int x1), (2, .int x2)] [] v (f_J8_newLength_cabcc x0 x1 x2 v) := by
  unfold f_J8_newLength_cabcc
  refine tg_iload_n 0 C0 dJ8_newLength_cabcc_0 rfl rfl ?_
  refine tg_iload_n 1 C0 dJ8_newLength_cabcc_1 rfl rfl ?_
  refine tg_iload_n 2 C0 dJ8_newLength_cabcc_2 rfl rfl ?_
  refine tg_mmax C0 dJ8_newLength_cabcc_3 tl_J8_194 tmmaxst tmath tmmaxco (by decide) (Nat.le_of_ble_eq_true rfl) ⟨by decide, by decide⟩ ?_
  refine tg_iadd C0 dJ8_newLength_cabcc_6 ?_
  refine tg_leti (fun y1 _ => ?_)
  refine tg_istore_n [(3, .int y1), (0, .int x0), (1, .int x1), (2, .int x2)] C0 dJ8_newLength_cabcc_7 rfl (by decide) rfl ?_
  refine tg_iconst (x := 0) C0 dJ8_newLength_cabcc_8 (by decide) ?_
  refine tg_iload_n 0 C0 dJ8_newLength_cabcc_9 rfl rfl ?_
  refine tg_icmp_ge 21 C0 dJ8_newLength_cabcc_10 (by decide) (fun _ => ?_) (fun _ => ?_)
  · refine tg_sub [1, 2] rfl ?_
    exact w_J8_newLength_cabcc_21 C0 hE x0 x1 v
  · refine tg_iload_n 0 C0 dJ8_newLength_cabcc_13 rfl rfl ?_
    refine tg_ldc C0 dJ8_newLength_cabcc_14 tk_J8_200 ?_
    refine tg_icmp_gt 21 C0 dJ8_newLength_cabcc_16 (by decide) (fun _ => ?_) (fun _ => ?_)
    · refine tg_sub [1, 2] rfl ?_
      exact w_J8_newLength_cabcc_21 C0 hE x0 x1 v
    · refine tg_iload_n 0 C0 dJ8_newLength_cabcc_19 rfl rfl ?_
      exact tg_iret C0 dJ8_newLength_cabcc_20
theorem c_J8_newLength_cabcc (l : Launch) {adK adV adE : Nat → Nat} {tC : Nat} {shW : Nat → tmE} {nW : Nat} (x0 x1 x2 : Int32) (v : tmM) : tmYi tm_NWC shW nW l adK adV adE tC yJ8_newLength_cabcc (Cond.code yJ8_newLength_cabcc cJ8_newLength_cabcc 4 (some .int) :: TMW) ({ frames := 1, cells := 0, slots := 0, locals := 40 } : Room) (fun ad => [.int x0, .int x1, .int x2]) v (f_J8_newLength_cabcc x0 x1 x2 v) := by
  exact tmYi.of (cc := cJ8_newLength_cabcc) (nL := 4) (by decide +kernel) rfl tm_NWC_ok (fun _ => Nat.le_of_ble_eq_true rfl) (fun p e s m args below meth c A D cy ad z C0 hE => w_J8_newLength_cabcc C0 hE x0 x1 x2 v)
-- ----- J5_isLatin1_aae02
theorem dJ5_isLatin1_aae02_0 : decode cJ5_isLatin1_aae02 0 = .ok (.getstatic 18, 3) := by decide +kernel
theorem dJ5_isLatin1_aae02_3 : decode cJ5_isLatin1_aae02 3 = .ok (.ifCond .eq 14, 3) := by decide +kernel
theorem dJ5_isLatin1_aae02_6 : decode cJ5_isLatin1_aae02 6 = .ok (.aload_n 0, 1) := by decide +kernel
theorem dJ5_isLatin1_aae02_7 : decode cJ5_isLatin1_aae02 7 = .ok (.getfield 22, 3) := by decide +kernel
theorem dJ5_isLatin1_aae02_10 : decode cJ5_isLatin1_aae02 10 = .ok (.ifCond .ne 7, 3) := by decide +kernel
theorem dJ5_isLatin1_aae02_13 : decode cJ5_isLatin1_aae02 13 = .ok (.iconst 1, 1) := by decide +kernel
theorem dJ5_isLatin1_aae02_14 : decode cJ5_isLatin1_aae02 14 = .ok (.goto 4, 3) := by decide +kernel
theorem dJ5_isLatin1_aae02_17 : decode cJ5_isLatin1_aae02 17 = .ok (.iconst 0, 1) := by decide +kernel
theorem dJ5_isLatin1_aae02_18 : decode cJ5_isLatin1_aae02 18 = .ok (.ireturn, 1) := by decide +kernel
theorem tf_J5_18 : Cond.fieldLink RJ5 18 "java/lang/String" "COMPACT_STRINGS" "Z" ∈ TMW := tm_in 329 (by decide +kernel) (by decide +kernel)
theorem tf_J5_22 : Cond.fieldLink RJ5 22 "java/lang/AbstractStringBuilder" (TJ4 1).2.1 (TJ4 1).2.2.1 ∈ TMW := tm_in 339 (by decide +kernel) (by decide +kernel)
theorem tu_J4 : ∀ w ∈ u_ws RJ4 TJ4 4, w ∈ TMW := tm_us [343, 345, 347, 349] (by decide +kernel) (by decide +kernel)
def f_J5_isLatin1_aae02 (κ : Nat) (v : tmM) : Option (Int32 × tmM) := (if (1 : Int32) = 0 then some (0, v) else (if (v 0 1) = 0 then some (1, v) else some (0, v)))
set_option maxRecDepth 100000 in
set_option maxHeartbeats 4000000 in
theorem w_J5_isLatin1_aae02 {p : Program} {l : Launch} {e : Env} {s : State} {m : MethodId} {args : Array Value} {below : List Frame} {meth : Method} {c : Code} {D : va_G} {cy : Nat → ClassId} {ad : Nat → Nat} {A : Nat → Prop} {adK adV adE : Nat → Nat} {tC : Nat} {z : (Int32 × tmM)} {κ : Nat} (C0 : tmC p s m args meth c cJ5_isLatin1_aae02 1 (some .boolean) RJ5 TMW tm_NWC D cy (tm_shB κ) ad 2 [] A) (hE : tmSc adK adV adE tC A s s.heap) (v : tmM) : tmG p l e ({ frames := 0, cells := 0, slots := 0, locals := 0 } : Room) s m args below meth c 0 0 (MQ below (va_Qi (fun r u => z = (r, u)) (tmAt (tm_shB κ) 2 D cy ad A) A) args s 0 0 A) 1 D cy (tm_shB κ) ad 2 [] A z 0 [(0, .ref (ad 0))] [] v (f_J5_isLatin1_aae02 κ v) := by
  unfold f_J5_isLatin1_aae02
  refine ty_ogs C0 dJ5_isLatin1_aae02_0 hE.2.1 tf_J5_18 rfl ?_
  refine tg_if_eq 17 C0 dJ5_isLatin1_aae02_3 (by decide) (fun _ => ?_) (fun _ => ?_)
  · refine tg_iconst (x := 0) C0 dJ5_isLatin1_aae02_17 (by decide) ?_
    exact tg_zret C0 dJ5_isLatin1_aae02_18 rfl
  · refine tg_aload_n 0 C0 dJ5_isLatin1_aae02_6 rfl rfl ?_
    refine tg_get 0 1 C0 dJ5_isLatin1_aae02_7 (by decide) rfl rfl tu_J4 (by decide) tf_J5_22 rfl rfl rfl ?_
    refine tg_if_ne 17 C0 dJ5_isLatin1_aae02_10 (by decide) (fun _ => ?_) (fun _ => ?_)
    · refine tg_iconst (x := 0) C0 dJ5_isLatin1_aae02_17 (by decide) ?_
      exact tg_zret C0 dJ5_isLatin1_aae02_18 rfl
    · refine tg_iconst (x := 1) C0 dJ5_isLatin1_aae02_13 (by decide) ?_
      refine tg_goto 18 C0 dJ5_isLatin1_aae02_14 (by decide) ?_
      exact tg_zret C0 dJ5_isLatin1_aae02_18 rfl
theorem c_J5_isLatin1_aae02 (l : Launch) {adK adV adE : Nat → Nat} {tC : Nat} (κ : Nat) (v : tmM) : tmYi tm_NWC (tm_shB κ) 2 l adK adV adE tC yJ5_isLatin1_aae02 (Cond.code yJ5_isLatin1_aae02 cJ5_isLatin1_aae02 1 (some .boolean) :: TMW) ({ frames := 0, cells := 0, slots := 0, locals := 0 } : Room) (fun ad => [.ref (ad 0)]) v (f_J5_isLatin1_aae02 κ v) := by
  exact tmYi.of (cc := cJ5_isLatin1_aae02) (nL := 1) (by decide +kernel) rfl tm_NWC_ok (fun _ => Nat.le_of_ble_eq_true rfl) (fun p e s m args below meth c A D cy ad z C0 hE => w_J5_isLatin1_aae02 C0 hE v)
-- ----- J5_length_8abf5
theorem dJ5_length_8abf5_0 : decode cJ5_length_8abf5 0 = .ok (.aload_n 0, 1) := by decide +kernel
theorem dJ5_length_8abf5_1 : decode cJ5_length_8abf5 1 = .ok (.getfield 79, 3) := by decide +kernel
theorem dJ5_length_8abf5_4 : decode cJ5_length_8abf5 4 = .ok (.ireturn, 1) := by decide +kernel
theorem tf_J5_79 : Cond.fieldLink RJ5 79 "java/lang/AbstractStringBuilder" (TJ4 3).2.1 (TJ4 3).2.2.1 ∈ TMW := tm_in 342 (by decide +kernel) (by decide +kernel)
def f_J5_length_8abf5 (κ : Nat) (v : tmM) : Option (Int32 × tmM) := some (v 0 3, v)
set_option maxRecDepth 100000 in
set_option maxHeartbeats 4000000 in
theorem w_J5_length_8abf5 {p : Program} {l : Launch} {e : Env} {s : State} {m : MethodId} {args : Array Value} {below : List Frame} {meth : Method} {c : Code} {D : va_G} {cy : Nat → ClassId} {ad : Nat → Nat} {A : Nat → Prop} {adK adV adE : Nat → Nat} {tC : Nat} {z : (Int32 × tmM)} {κ : Nat} (C0 : tmC p s m args meth c cJ5_length_8abf5 1 (some .int) RJ5 TMW tm_NWC D cy (tm_shB κ) ad 2 [] A) (hE : tmSc adK adV adE tC A s s.heap) (v : tmM) : tmG p l e ({ frames := 0, cells := 0, slots := 0, locals := 0 } : Room) s m args below meth c 0 0 (MQ below (va_Qi (fun r u => z = (r, u)) (tmAt (tm_shB κ) 2 D cy ad A) A) args s 0 0 A) 1 D cy (tm_shB κ) ad 2 [] A z 0 [(0, .ref (ad 0))] [] v (f_J5_length_8abf5 κ v) := by
  unfold f_J5_length_8abf5
  refine tg_aload_n 0 C0 dJ5_length_8abf5_0 rfl rfl ?_
  refine tg_get 0 3 C0 dJ5_length_8abf5_1 (by decide) rfl rfl tu_J4 (by decide) tf_J5_79 rfl rfl rfl ?_
  exact tg_iret C0 dJ5_length_8abf5_4
theorem c_J5_length_8abf5 (l : Launch) {adK adV adE : Nat → Nat} {tC : Nat} (κ : Nat) (v : tmM) : tmYi tm_NWC (tm_shB κ) 2 l adK adV adE tC yJ5_length_8abf5 (Cond.code yJ5_length_8abf5 cJ5_length_8abf5 1 (some .int) :: TMW) ({ frames := 0, cells := 0, slots := 0, locals := 0 } : Room) (fun ad => [.ref (ad 0)]) v (f_J5_length_8abf5 κ v) := by
  exact tmYi.of (cc := cJ5_length_8abf5) (nL := 1) (by decide +kernel) rfl tm_NWC_ok (fun _ => Nat.le_of_ble_eq_true rfl) (fun p e s m args below meth c A D cy ad z C0 hE => w_J5_length_8abf5 C0 hE v)
-- ----- J5_newCapacity_0f7a4
theorem dJ5_newCapacity_0f7a4_0 : decode cJ5_newCapacity_0f7a4 0 = .ok (.aload_n 0, 1) := by decide +kernel
theorem dJ5_newCapacity_0f7a4_1 : decode cJ5_newCapacity_0f7a4 1 = .ok (.getfield 15, 3) := by decide +kernel
theorem dJ5_newCapacity_0f7a4_4 : decode cJ5_newCapacity_0f7a4 4 = .ok (.arraylength, 1) := by decide +kernel
theorem dJ5_newCapacity_0f7a4_5 : decode cJ5_newCapacity_0f7a4 5 = .ok (.istore_n 2, 1) := by decide +kernel
theorem dJ5_newCapacity_0f7a4_6 : decode cJ5_newCapacity_0f7a4 6 = .ok (.iload_n 1, 1) := by decide +kernel
theorem dJ5_newCapacity_0f7a4_7 : decode cJ5_newCapacity_0f7a4 7 = .ok (.aload_n 0, 1) := by decide +kernel
theorem dJ5_newCapacity_0f7a4_8 : decode cJ5_newCapacity_0f7a4 8 = .ok (.getfield 22, 3) := by decide +kernel
theorem dJ5_newCapacity_0f7a4_11 : decode cJ5_newCapacity_0f7a4 11 = .ok (.ishl, 1) := by decide +kernel
theorem dJ5_newCapacity_0f7a4_12 : decode cJ5_newCapacity_0f7a4 12 = .ok (.istore_n 3, 1) := by decide +kernel
theorem dJ5_newCapacity_0f7a4_13 : decode cJ5_newCapacity_0f7a4 13 = .ok (.iload_n 3, 1) := by decide +kernel
theorem dJ5_newCapacity_0f7a4_14 : decode cJ5_newCapacity_0f7a4 14 = .ok (.iload_n 2, 1) := by decide +kernel
theorem dJ5_newCapacity_0f7a4_15 : decode cJ5_newCapacity_0f7a4 15 = .ok (.isub, 1) := by decide +kernel
theorem dJ5_newCapacity_0f7a4_16 : decode cJ5_newCapacity_0f7a4 16 = .ok (.istore 4, 2) := by decide +kernel
theorem dJ5_newCapacity_0f7a4_18 : decode cJ5_newCapacity_0f7a4 18 = .ok (.iload_n 2, 1) := by decide +kernel
theorem dJ5_newCapacity_0f7a4_19 : decode cJ5_newCapacity_0f7a4 19 = .ok (.iload 4, 2) := by decide +kernel
theorem dJ5_newCapacity_0f7a4_21 : decode cJ5_newCapacity_0f7a4 21 = .ok (.iload_n 2, 1) := by decide +kernel
theorem dJ5_newCapacity_0f7a4_22 : decode cJ5_newCapacity_0f7a4 22 = .ok (.iconst 2, 1) := by decide +kernel
theorem dJ5_newCapacity_0f7a4_23 : decode cJ5_newCapacity_0f7a4 23 = .ok (.aload_n 0, 1) := by decide +kernel
theorem dJ5_newCapacity_0f7a4_24 : decode cJ5_newCapacity_0f7a4 24 = .ok (.getfield 22, 3) := by decide +kernel
theorem dJ5_newCapacity_0f7a4_27 : decode cJ5_newCapacity_0f7a4 27 = .ok (.ishl, 1) := by decide +kernel
theorem dJ5_newCapacity_0f7a4_28 : decode cJ5_newCapacity_0f7a4 28 = .ok (.iadd, 1) := by decide +kernel
theorem dJ5_newCapacity_0f7a4_29 : decode cJ5_newCapacity_0f7a4 29 = .ok (.invokestatic 114, 3) := by decide +kernel
theorem dJ5_newCapacity_0f7a4_32 : decode cJ5_newCapacity_0f7a4 32 = .ok (.istore 5, 2) := by decide +kernel
theorem dJ5_newCapacity_0f7a4_34 : decode cJ5_newCapacity_0f7a4 34 = .ok (.iload 5, 2) := by decide +kernel
theorem dJ5_newCapacity_0f7a4_36 : decode cJ5_newCapacity_0f7a4 36 = .ok (.ldc 39, 2) := by decide +kernel
theorem dJ5_newCapacity_0f7a4_38 : decode cJ5_newCapacity_0f7a4 38 = .ok (.if_icmp .ne 13, 3) := by decide +kernel
theorem dJ5_newCapacity_0f7a4_51 : decode cJ5_newCapacity_0f7a4 51 = .ok (.iload 5, 2) := by decide +kernel
theorem dJ5_newCapacity_0f7a4_53 : decode cJ5_newCapacity_0f7a4 53 = .ok (.aload_n 0, 1) := by decide +kernel
theorem dJ5_newCapacity_0f7a4_54 : decode cJ5_newCapacity_0f7a4 54 = .ok (.getfield 22, 3) := by decide +kernel
theorem dJ5_newCapacity_0f7a4_57 : decode cJ5_newCapacity_0f7a4 57 = .ok (.ishr, 1) := by decide +kernel
theorem dJ5_newCapacity_0f7a4_58 : decode cJ5_newCapacity_0f7a4 58 = .ok (.ireturn, 1) := by decide +kernel
theorem tf_J5_15 : Cond.fieldLink RJ5 15 "java/lang/AbstractStringBuilder" (TJ4 0).2.1 (TJ4 0).2.2.1 ∈ TMW := tm_in 338 (by decide +kernel) (by decide +kernel)
theorem tc_J8_newLength_cabcc : Cond.code yJ8_newLength_cabcc cJ8_newLength_cabcc 4 (some .int) ∈ TMW := tm_in 1296 (by decide +kernel) (by decide +kernel)
theorem tl_J5_114 : Cond.methodLink RJ5 114 yJ8_newLength_cabcc ∈ TMW := tm_in 1294 (by decide +kernel) (by decide +kernel)
theorem tn_J8 : Cond.initialized RJ8 ∈ TMW := tm_in 134 (by decide +kernel) (by decide +kernel)
theorem tst_J8_newLength_cabcc : Cond.static yJ8_newLength_cabcc ∈ TMW := tm_in 1295 (by decide +kernel) (by decide +kernel)
theorem tk_J5_39 : Cond.constant RJ5 39 2147483647 ∈ TMW := tm_in 1302 (by decide +kernel) (by decide +kernel)
def f_J5_newCapacity_0f7a4 (κ : Nat) (x1 : Int32) (v : tmM) : Option (Int32 × tmM) := tm_lt (Int32.ofNat κ) fun y1 => tm_lt (x1 <<< ((v 0 1) &&& 31)) fun y2 => tm_lt (y2 - y1) fun y3 => tm_cl (f_J8_newLength_cabcc y1 y3 (y1 + (2 <<< ((v 0 1) &&& 31))) v) fun r5 v4 => (if r5 = 2147483647 then none else some (r5 >>> ((v4 0 1) &&& 31), v4))
set_option maxRecDepth 100000 in
set_option maxHeartbeats 4000000 in
theorem w_J5_newCapacity_0f7a4 {p : Program} {l : Launch} {e : Env} {s : State} {m : MethodId} {args : Array Value} {below : List Frame} {meth : Method} {c : Code} {D : va_G} {cy : Nat → ClassId} {ad : Nat → Nat} {A : Nat → Prop} {adK adV adE : Nat → Nat} {tC : Nat} {z : (Int32 × tmM)} {κ : Nat} (C0 : tmC p s m args meth c cJ5_newCapacity_0f7a4 6 (some .int) RJ5 TMW tm_NWC D cy (tm_shB κ) ad 2 [] A) (hE : tmSc adK adV adE tC A s s.heap) (x1 : Int32) (v : tmM) : tmG p l e ({ frames := 2, cells := 0, slots := 0, locals := 63 } : Room) s m args below meth c 0 0 (MQ below (va_Qi (fun r u => z = (r, u)) (tmAt (tm_shB κ) 2 D cy ad A) A) args s 0 0 A) 6 D cy (tm_shB κ) ad 2 [] A z 0 [(0, .ref (ad 0)), (1, .int x1)] [] v (f_J5_newCapacity_0f7a4 κ x1 v) := by
  unfold f_J5_newCapacity_0f7a4
  refine tg_aload_n 0 C0 dJ5_newCapacity_0f7a4_0 rfl rfl ?_
  refine tg_get 0 0 C0 dJ5_newCapacity_0f7a4_1 (by decide) rfl rfl tu_J4 (by decide) tf_J5_15 rfl rfl rfl ?_
  refine tg_alen (x := Int32.ofNat κ) 1 C0 dJ5_newCapacity_0f7a4_4 (by decide) rfl (by decide) rfl ?_
  refine tg_leti (fun y1 _ => ?_)
  refine tg_istore_n [(2, .int y1), (0, .ref (ad 0)), (1, .int x1)] C0 dJ5_newCapacity_0f7a4_5 rfl (by decide) rfl ?_
  refine tg_iload_n 2 C0 dJ5_newCapacity_0f7a4_6 rfl rfl ?_
  refine tg_aload_n 1 C0 dJ5_newCapacity_0f7a4_7 rfl rfl ?_
  refine tg_get 0 1 C0 dJ5_newCapacity_0f7a4_8 (by decide) rfl rfl tu_J4 (by decide) tf_J5_22 rfl rfl rfl ?_
  refine tg_ishl C0 dJ5_newCapacity_0f7a4_11 ?_
  refine tg_leti (fun y2 _ => ?_)
  refine tg_istore_n [(3, .int y2), (2, .int y1), (0, .ref (ad 0)), (1, .int x1)] C0 dJ5_newCapacity_0f7a4_12 rfl (by decide) rfl ?_
  refine tg_iload_n 0 C0 dJ5_newCapacity_0f7a4_13 rfl rfl ?_
  refine tg_iload_n 1 C0 dJ5_newCapacity_0f7a4_14 rfl rfl ?_
  refine tg_isub C0 dJ5_newCapacity_0f7a4_15 ?_
  refine tg_leti (fun y3 _ => ?_)
  refine tg_istore [(4, .int y3), (3, .int y2), (2, .int y1), (0, .ref (ad 0)), (1, .int x1)] C0 dJ5_newCapacity_0f7a4_16 (by decide) rfl ?_
  refine tg_iload_n 2 C0 dJ5_newCapacity_0f7a4_18 rfl rfl ?_
  refine tg_iload 0 C0 dJ5_newCapacity_0f7a4_19 rfl ?_
  refine tg_iload_n 2 C0 dJ5_newCapacity_0f7a4_21 rfl rfl ?_
  refine tg_iconst (x := 2) C0 dJ5_newCapacity_0f7a4_22 (by decide) ?_
  refine tg_aload_n 3 C0 dJ5_newCapacity_0f7a4_23 rfl rfl ?_
  refine tg_get 0 1 C0 dJ5_newCapacity_0f7a4_24 (by decide) rfl rfl tu_J4 (by decide) tf_J5_22 rfl rfl rfl ?_
  refine tg_ishl C0 dJ5_newCapacity_0f7a4_27 ?_
  refine tg_iadd C0 dJ5_newCapacity_0f7a4_28 ?_
  refine ty_callSi (As := [.int y1, .int y3, .int (y1 + (2 <<< ((v 0 1) &&& 31)))]) 3 C0 hE dJ5_newCapacity_0f7a4_29 (c_J8_newLength_cabcc l y1 y3 (y1 + (2 <<< ((v 0 1) &&& 31))) v) rfl rfl (tm_gc tc_J8_newLength_cabcc) tl_J5_114 tn_J8 tst_J8_newLength_cabcc rfl rfl rfl rfl (by decide +kernel) ⟨by decide, by decide⟩ (Nat.le_of_ble_eq_true rfl) ⟨by decide, by decide⟩ (fun r5 v4 _ => ?_)
  refine tg_istore [(5, .int r5), (4, .int y3), (3, .int y2), (2, .int y1), (0, .ref (ad 0)), (1, .int x1)] C0 dJ5_newCapacity_0f7a4_32 (by decide) rfl ?_
  refine tg_iload 0 C0 dJ5_newCapacity_0f7a4_34 rfl ?_
  refine tg_ldc C0 dJ5_newCapacity_0f7a4_36 tk_J5_39 ?_
  refine tg_icmp_ne 51 C0 dJ5_newCapacity_0f7a4_38 (by decide) (fun _ => ?_) (fun _ => ?_)
  · refine tg_iload 0 C0 dJ5_newCapacity_0f7a4_51 rfl ?_
    refine tg_aload_n 4 C0 dJ5_newCapacity_0f7a4_53 rfl rfl ?_
    refine tg_get 0 1 C0 dJ5_newCapacity_0f7a4_54 (by decide) rfl rfl tu_J4 (by decide) tf_J5_22 rfl rfl rfl ?_
    refine tg_ishr C0 dJ5_newCapacity_0f7a4_57 ?_
    exact tg_iret C0 dJ5_newCapacity_0f7a4_58
  · exact tg_none
theorem c_J5_newCapacity_0f7a4 (l : Launch) {adK adV adE : Nat → Nat} {tC : Nat} (κ : Nat) (x1 : Int32) (v : tmM) : tmYi tm_NWC (tm_shB κ) 2 l adK adV adE tC yJ5_newCapacity_0f7a4 (Cond.code yJ5_newCapacity_0f7a4 cJ5_newCapacity_0f7a4 6 (some .int) :: TMW) ({ frames := 2, cells := 0, slots := 0, locals := 63 } : Room) (fun ad => [.ref (ad 0), .int x1]) v (f_J5_newCapacity_0f7a4 κ x1 v) := by
  exact tmYi.of (cc := cJ5_newCapacity_0f7a4) (nL := 6) (by decide +kernel) rfl tm_NWC_ok (fun _ => Nat.le_of_ble_eq_true rfl) (fun p e s m args below meth c A D cy ad z C0 hE => w_J5_newCapacity_0f7a4 C0 hE x1 v)
-- ----- J5_inflateIfNeededFor_a7421
theorem dJ5_inflateIfNeededFor_a7421_0 : decode cJ5_inflateIfNeededFor_a7421 0 = .ok (.getstatic 18, 3) := by decide +kernel
theorem dJ5_inflateIfNeededFor_a7421_3 : decode cJ5_inflateIfNeededFor_a7421 3 = .ok (.ifCond .eq 18, 3) := by decide +kernel
theorem dJ5_inflateIfNeededFor_a7421_6 : decode cJ5_inflateIfNeededFor_a7421 6 = .ok (.aload_n 0, 1) := by decide +kernel
theorem dJ5_inflateIfNeededFor_a7421_7 : decode cJ5_inflateIfNeededFor_a7421 7 = .ok (.getfield 22, 3) := by decide +kernel
theorem dJ5_inflateIfNeededFor_a7421_10 : decode cJ5_inflateIfNeededFor_a7421 10 = .ok (.aload_n 1, 1) := by decide +kernel
theorem dJ5_inflateIfNeededFor_a7421_11 : decode cJ5_inflateIfNeededFor_a7421 11 = .ok (.invokevirtual 40, 3) := by decide +kernel
theorem dJ5_inflateIfNeededFor_a7421_14 : decode cJ5_inflateIfNeededFor_a7421 14 = .ok (.if_icmp .eq 7, 3) := by decide +kernel
theorem dJ5_inflateIfNeededFor_a7421_21 : decode cJ5_inflateIfNeededFor_a7421 21 = .ok (.return_, 1) := by decide +kernel
theorem tl_J5_40 : Cond.methodLink RJ5 40 yJ0_coder_7d493 ∈ TMW := tm_in 1344 (by decide +kernel) (by decide +kernel)
def f_J5_inflateIfNeededFor_a7421 (κ : Nat) (o1 : Nat) (v : tmM) : Option (Unit × tmM) := (if (1 : Int32) = 0 then some ((), v) else tm_g (decide (o1 < 15)) (tm_cl (f_J0_coder_7d493 o1 v) fun r2 v1 => (if (v 0 1) = r2 then some ((), v1) else none)))
set_option maxRecDepth 100000 in
set_option maxHeartbeats 4000000 in
theorem w_J5_inflateIfNeededFor_a7421 {p : Program} {l : Launch} {e : Env} {s : State} {m : MethodId} {args : Array Value} {below : List Frame} {meth : Method} {c : Code} {D : va_G} {cy : Nat → ClassId} {ad : Nat → Nat} {A : Nat → Prop} {adK adV adE : Nat → Nat} {tC : Nat} {z : (Unit × tmM)} {κ : Nat} {o1 : Nat} (C0 : tmC p s m args meth c cJ5_inflateIfNeededFor_a7421 2 none RJ5 TMW tm_NWC D cy (tm_shB κ) ad 2 [] A) (hE : tmSc adK adV adE tC A s s.heap) (v : tmM) : tmG p l e ({ frames := 1, cells := 0, slots := 0, locals := 20 } : Room) s m args below meth c 0 0 (MQ below (va_Qv (fun u => z = ((), u)) (tmAt (tm_shB κ) 2 D cy ad A) A) args s 0 0 A) 2 D cy (tm_shB κ) ad 2 [] A z 0 [(0, .ref (ad 0)), (1, .ref (adK o1))] [] v (f_J5_inflateIfNeededFor_a7421 κ o1 v) := by
  unfold f_J5_inflateIfNeededFor_a7421
  refine ty_ogs C0 dJ5_inflateIfNeededFor_a7421_0 hE.2.1 tf_J5_18 rfl ?_
  refine tg_if_eq 21 C0 dJ5_inflateIfNeededFor_a7421_3 (by decide) (fun _ => ?_) (fun _ => ?_)
  · exact tg_vret C0 dJ5_inflateIfNeededFor_a7421_21
  · refine tg_aload_n 0 C0 dJ5_inflateIfNeededFor_a7421_6 rfl rfl ?_
    refine tg_get 0 1 C0 dJ5_inflateIfNeededFor_a7421_7 (by decide) rfl rfl tu_J4 (by decide) tf_J5_22 rfl rfl rfl ?_
    refine tg_aload_n 1 C0 dJ5_inflateIfNeededFor_a7421_10 rfl rfl ?_
    refine tg_g (fun h3 => ?_)
    refine ty_callVi (As := []) 0 C0 hE dJ5_inflateIfNeededFor_a7421_11 (c_J0_coder_7d493 l o1 v) rfl rfl (tm_gV tl_J5_40 ti_J0_coder_7d493 ts_J0_coder_7d493 tn_J0 tc_J0_coder_7d493) (tm_rvS hE (of_decide_eq_true h3)) rfl rfl rfl rfl (by decide +kernel) ⟨by decide, by decide⟩ (Nat.le_of_ble_eq_true rfl) ⟨by decide, by decide⟩ (fun r2 v1 _ => ?_)
    refine tg_icmp_eq 21 C0 dJ5_inflateIfNeededFor_a7421_14 (by decide) (fun _ => ?_) (fun _ => ?_)
    · exact tg_vret C0 dJ5_inflateIfNeededFor_a7421_21
    · exact tg_none
theorem c_J5_inflateIfNeededFor_a7421 (l : Launch) {adK adV adE : Nat → Nat} {tC : Nat} (κ : Nat) (o1 : Nat) (v : tmM) : tmYv tm_NWC (tm_shB κ) 2 l adK adV adE tC yJ5_inflateIfNeededFor_a7421 (Cond.code yJ5_inflateIfNeededFor_a7421 cJ5_inflateIfNeededFor_a7421 2 none :: TMW) ({ frames := 1, cells := 0, slots := 0, locals := 20 } : Room) (fun ad => [.ref (ad 0), .ref (adK o1)]) v (f_J5_inflateIfNeededFor_a7421 κ o1 v) := by
  exact tmYv.of (cc := cJ5_inflateIfNeededFor_a7421) (nL := 2) (by decide +kernel) rfl tm_NWC_ok (fun _ => Nat.le_of_ble_eq_true rfl) (fun p e s m args below meth c A D cy ad z C0 hE => w_J5_inflateIfNeededFor_a7421 C0 hE v)
-- ----- J0_getBytes_840e7
theorem dJ0_getBytes_840e7_0 : decode cJ0_getBytes_840e7 0 = .ok (.aload_n 0, 1) := by decide +kernel
theorem dJ0_getBytes_840e7_1 : decode cJ0_getBytes_840e7 1 = .ok (.invokevirtual 335, 3) := by decide +kernel
theorem dJ0_getBytes_840e7_4 : decode cJ0_getBytes_840e7 4 = .ok (.iload_n 3, 1) := by decide +kernel
theorem dJ0_getBytes_840e7_5 : decode cJ0_getBytes_840e7 5 = .ok (.if_icmp .ne 23, 3) := by decide +kernel
theorem dJ0_getBytes_840e7_8 : decode cJ0_getBytes_840e7 8 = .ok (.aload_n 0, 1) := by decide +kernel
theorem dJ0_getBytes_840e7_9 : decode cJ0_getBytes_840e7 9 = .ok (.getfield 9, 3) := by decide +kernel
theorem dJ0_getBytes_840e7_12 : decode cJ0_getBytes_840e7 12 = .ok (.iconst 0, 1) := by decide +kernel
theorem dJ0_getBytes_840e7_13 : decode cJ0_getBytes_840e7 13 = .ok (.aload_n 1, 1) := by decide +kernel
theorem dJ0_getBytes_840e7_14 : decode cJ0_getBytes_840e7 14 = .ok (.iload_n 2, 1) := by decide +kernel
theorem dJ0_getBytes_840e7_15 : decode cJ0_getBytes_840e7 15 = .ok (.iload_n 3, 1) := by decide +kernel
theorem dJ0_getBytes_840e7_16 : decode cJ0_getBytes_840e7 16 = .ok (.ishl, 1) := by decide +kernel
theorem dJ0_getBytes_840e7_17 : decode cJ0_getBytes_840e7 17 = .ok (.aload_n 0, 1) := by decide +kernel
theorem dJ0_getBytes_840e7_18 : decode cJ0_getBytes_840e7 18 = .ok (.getfield 9, 3) := by decide +kernel
theorem dJ0_getBytes_840e7_21 : decode cJ0_getBytes_840e7 21 = .ok (.arraylength, 1) := by decide +kernel
theorem dJ0_getBytes_840e7_22 : decode cJ0_getBytes_840e7 22 = .ok (.invokestatic 212, 3) := by decide +kernel
theorem dJ0_getBytes_840e7_25 : decode cJ0_getBytes_840e7 25 = .ok (.goto 18, 3) := by decide +kernel
theorem dJ0_getBytes_840e7_43 : decode cJ0_getBytes_840e7 43 = .ok (.return_, 1) := by decide +kernel
theorem tl_J0_212 : Cond.methodLink RJ0 212 arraycopyName ∈ TMW := tm_in 1368 (by decide +kernel) (by decide +kernel)
def f_J0_getBytes_840e7 (κ : Nat) (o0 : Nat) (x2 x3 : Int32) (v : tmM) : Option (Unit × tmM) := tm_g (decide (o0 < 15)) (tm_cl (f_J0_coder_7d493 o0 v) fun r2 v1 => (if r2 = x3 then tm_g (decide (o0 < 15)) (tm_g (decide (o0 < 15)) (tm_g (decide (o0 < 15)) (tm_g (decide (o0 < 15)) (tm_g (tm_cok 0 (x2 <<< (x3 &&& 31)) (nI (tm_len.getD o0 0)) (tm_len.getD o0 0) κ && tm_fit8 (fun i => (tm_byt.getD o0 []).getD ((0 : Int32).toNatClampNeg + i) 0) (nI (tm_len.getD o0 0)).toNatClampNeg) (tm_lt (tm_set v1 1 (va_cpy (fun j => (tm_byt.getD o0 []).getD j 0) (v1 1) (0 : Int32).toNatClampNeg (x2 <<< (x3 &&& 31)).toNatClampNeg (nI (tm_len.getD o0 0)).toNatClampNeg)) fun v10 => some ((), v10)))))) else none))
set_option maxRecDepth 100000 in
set_option maxHeartbeats 4000000 in
theorem w_J0_getBytes_840e7 {p : Program} {l : Launch} {e : Env} {s : State} {m : MethodId} {args : Array Value} {below : List Frame} {meth : Method} {c : Code} {D : va_G} {cy : Nat → ClassId} {ad : Nat → Nat} {A : Nat → Prop} {adK adV adE : Nat → Nat} {tC : Nat} {z : (Unit × tmM)} {κ : Nat} {o0 : Nat} (C0 : tmC p s m args meth c cJ0_getBytes_840e7 4 none RJ0 TMW tm_NWC D cy (tm_shB κ) ad 2 [] A) (hE : tmSc adK adV adE tC A s s.heap) (x2 x3 : Int32) (v : tmM) : tmG p l e ({ frames := 1, cells := 0, slots := 0, locals := 40 } : Room) s m args below meth c 0 0 (MQ below (va_Qv (fun u => z = ((), u)) (tmAt (tm_shB κ) 2 D cy ad A) A) args s 0 0 A) 4 D cy (tm_shB κ) ad 2 [] A z 0 [(0, .ref (adK o0)), (1, .ref (ad 1)), (2, .int x2), (3, .int x3)] [] v (f_J0_getBytes_840e7 κ o0 x2 x3 v) := by
  unfold f_J0_getBytes_840e7
  refine tg_aload_n 0 C0 dJ0_getBytes_840e7_0 rfl rfl ?_
  refine tg_g (fun h3 => ?_)
  refine ty_callVi (As := []) 0 C0 hE dJ0_getBytes_840e7_1 (c_J0_coder_7d493 l o0 v) rfl rfl (tm_gV tl_J0_335 ti_J0_coder_7d493 ts_J0_coder_7d493 tn_J0 tc_J0_coder_7d493) (tm_rvS hE (of_decide_eq_true h3)) rfl rfl rfl rfl (by decide +kernel) ⟨by decide, by decide⟩ (Nat.le_of_ble_eq_true rfl) ⟨by decide, by decide⟩ (fun r2 v1 _ => ?_)
  refine tg_iload_n 3 C0 dJ0_getBytes_840e7_4 rfl rfl ?_
  refine tg_icmp_ne 28 C0 dJ0_getBytes_840e7_5 (by decide) (fun _ => ?_) (fun _ => ?_)
  · exact tg_none
  · refine tg_aload_n 0 C0 dJ0_getBytes_840e7_8 rfl rfl ?_
    refine tg_g (fun h7 => ?_)
    refine ty_oget C0 dJ0_getBytes_840e7_9 (hE.1.1 o0 (of_decide_eq_true h7)).2.2.1 tf_J0_9 rfl ?_
    refine tg_iconst (x := 0) C0 dJ0_getBytes_840e7_12 (by decide) ?_
    refine tg_aload_n 1 C0 dJ0_getBytes_840e7_13 rfl rfl ?_
    refine tg_iload_n 2 C0 dJ0_getBytes_840e7_14 rfl rfl ?_
    refine tg_iload_n 3 C0 dJ0_getBytes_840e7_15 rfl rfl ?_
    refine tg_ishl C0 dJ0_getBytes_840e7_16 ?_
    refine tg_aload_n 0 C0 dJ0_getBytes_840e7_17 rfl rfl ?_
    refine tg_g (fun h8 => ?_)
    refine ty_oget C0 dJ0_getBytes_840e7_18 (hE.1.1 o0 (of_decide_eq_true h8)).2.2.1 tf_J0_9 rfl ?_
    refine tg_g (fun h9 => ?_)
    refine ty_olen (x := nI (tm_len.getD o0 0)) C0 dJ0_getBytes_840e7_21 (hE.1.1 o0 (of_decide_eq_true h9)).2.2.2 rfl ?_
    refine tg_g (fun h11 => ?_)
    refine ty_copyt (f := fun j => (tm_byt.getD o0 []).getD j 0) (l0 := tm_len.getD o0 0) (l1 := κ) (sp := 0) (dp := x2 <<< (x3 &&& 31)) (nn := nI (tm_len.getD o0 0)) 1 C0 dJ0_getBytes_840e7_22 (hE.1.1 o0 (of_decide_eq_true h11)).2.2.2 (by decide) rfl tl_J0_212 tnat tsta tsys (by decide) (Nat.le_of_ble_eq_true rfl) ?_
    refine tg_letm (fun v10 _ => ?_)
    refine tg_goto 43 C0 dJ0_getBytes_840e7_25 (by decide) ?_
    exact tg_vret C0 dJ0_getBytes_840e7_43
theorem c_J0_getBytes_840e7 (l : Launch) {adK adV adE : Nat → Nat} {tC : Nat} (κ : Nat) (o0 : Nat) (x2 x3 : Int32) (v : tmM) : tmYv tm_NWC (tm_shB κ) 2 l adK adV adE tC yJ0_getBytes_840e7 (Cond.code yJ0_getBytes_840e7 cJ0_getBytes_840e7 4 none :: TMW) ({ frames := 1, cells := 0, slots := 0, locals := 40 } : Room) (fun ad => [.ref (adK o0), .ref (ad 1), .int x2, .int x3]) v (f_J0_getBytes_840e7 κ o0 x2 x3 v) := by
  exact tmYv.of (cc := cJ0_getBytes_840e7) (nL := 4) (by decide +kernel) rfl tm_NWC_ok (fun _ => Nat.le_of_ble_eq_true rfl) (fun p e s m args below meth c A D cy ad z C0 hE => w_J0_getBytes_840e7 C0 hE x2 x3 v)
-- ----- J5_putStringAt_47b60
theorem dJ5_putStringAt_47b60_0 : decode cJ5_putStringAt_47b60 0 = .ok (.aload_n 0, 1) := by decide +kernel
theorem dJ5_putStringAt_47b60_1 : decode cJ5_putStringAt_47b60 1 = .ok (.aload_n 2, 1) := by decide +kernel
theorem dJ5_putStringAt_47b60_2 : decode cJ5_putStringAt_47b60 2 = .ok (.invokevirtual 397, 3) := by decide +kernel
theorem dJ5_putStringAt_47b60_5 : decode cJ5_putStringAt_47b60 5 = .ok (.aload_n 2, 1) := by decide +kernel
theorem dJ5_putStringAt_47b60_6 : decode cJ5_putStringAt_47b60 6 = .ok (.aload_n 0, 1) := by decide +kernel
theorem dJ5_putStringAt_47b60_7 : decode cJ5_putStringAt_47b60 7 = .ok (.getfield 15, 3) := by decide +kernel
theorem dJ5_putStringAt_47b60_10 : decode cJ5_putStringAt_47b60 10 = .ok (.iload_n 1, 1) := by decide +kernel
theorem dJ5_putStringAt_47b60_11 : decode cJ5_putStringAt_47b60 11 = .ok (.aload_n 0, 1) := by decide +kernel
theorem dJ5_putStringAt_47b60_12 : decode cJ5_putStringAt_47b60 12 = .ok (.getfield 22, 3) := by decide +kernel
theorem dJ5_putStringAt_47b60_15 : decode cJ5_putStringAt_47b60 15 = .ok (.invokevirtual 399, 3) := by decide +kernel
theorem dJ5_putStringAt_47b60_18 : decode cJ5_putStringAt_47b60 18 = .ok (.return_, 1) := by decide +kernel
theorem tc_J5_inflateIfNeededFor_a7421 : Cond.code yJ5_inflateIfNeededFor_a7421 cJ5_inflateIfNeededFor_a7421 2 none ∈ TMW := tm_in 1343 (by decide +kernel) (by decide +kernel)
theorem tl_J5_397 : Cond.methodLink RJ5 397 yJ5_inflateIfNeededFor_a7421 ∈ TMW := tm_in 1340 (by decide +kernel) (by decide +kernel)
theorem tn_J5 : Cond.initialized RJ5 ∈ TMW := tm_in 117 (by decide +kernel) (by decide +kernel)
theorem ti_J5_inflateIfNeededFor_a7421 : Cond.instanceMethod yJ5_inflateIfNeededFor_a7421 ∈ TMW := tm_in 1342 (by decide +kernel) (by decide +kernel)
theorem tl_J5_399 : Cond.methodLink RJ5 399 yJ0_getBytes_840e7 ∈ TMW := tm_in 1364 (by decide +kernel) (by decide +kernel)
theorem ti_J0_getBytes_840e7 : Cond.instanceMethod yJ0_getBytes_840e7 ∈ TMW := tm_in 1365 (by decide +kernel) (by decide +kernel)
theorem ts_J0_getBytes_840e7 : Cond.selects RJ0 yJ0_getBytes_840e7 yJ0_getBytes_840e7 ∈ TMW := tm_in 1366 (by decide +kernel) (by decide +kernel)
theorem tc_J0_getBytes_840e7 : Cond.code yJ0_getBytes_840e7 cJ0_getBytes_840e7 4 none ∈ TMW := tm_in 1367 (by decide +kernel) (by decide +kernel)
def f_J5_putStringAt_47b60 (κ : Nat) (o2 : Nat) (x1 : Int32) (v : tmM) : Option (Unit × tmM) := tm_cl (f_J5_inflateIfNeededFor_a7421 κ o2 v) fun _ v1 => tm_g (decide (o2 < 15)) (tm_cl (f_J0_getBytes_840e7 κ o2 x1 (v1 0 1) v1) fun _ v3 => some ((), v3))
set_option maxRecDepth 100000 in
set_option maxHeartbeats 4000000 in
theorem w_J5_putStringAt_47b60 {p : Program} {l : Launch} {e : Env} {s : State} {m : MethodId} {args : Array Value} {below : List Frame} {meth : Method} {c : Code} {D : va_G} {cy : Nat → ClassId} {ad : Nat → Nat} {A : Nat → Prop} {adK adV adE : Nat → Nat} {tC : Nat} {z : (Unit × tmM)} {κ : Nat} {o2 : Nat} (C0 : tmC p s m args meth c cJ5_putStringAt_47b60 3 none RJ5 TMW tm_NWC D cy (tm_shB κ) ad 2 [] A) (hE : tmSc adK adV adE tC A s s.heap) (x1 : Int32) (v : tmM) : tmG p l e ({ frames := 2, cells := 0, slots := 0, locals := 63 } : Room) s m args below meth c 0 0 (MQ below (va_Qv (fun u => z = ((), u)) (tmAt (tm_shB κ) 2 D cy ad A) A) args s 0 0 A) 3 D cy (tm_shB κ) ad 2 [] A z 0 [(0, .ref (ad 0)), (1, .int x1), (2, .ref (adK o2))] [] v (f_J5_putStringAt_47b60 κ o2 x1 v) := by
  unfold f_J5_putStringAt_47b60
  refine tg_aload_n 0 C0 dJ5_putStringAt_47b60_0 rfl rfl ?_
  refine tg_aload_n 2 C0 dJ5_putStringAt_47b60_1 rfl rfl ?_
  refine tp_callPv (As := [.ref (adK o2)]) 1 C0 hE dJ5_putStringAt_47b60_2 (c_J5_inflateIfNeededFor_a7421 l κ o2 v) rfl rfl (tm_gc tc_J5_inflateIfNeededFor_a7421) tl_J5_397 tn_J5 ti_J5_inflateIfNeededFor_a7421 (fun hts => hts _ (tm_inB 3 rfl (by decide +kernel))) rfl rfl rfl rfl ⟨by decide, by decide, by decide +kernel⟩ ⟨by decide, by decide⟩ (Nat.le_of_ble_eq_true rfl) ⟨by decide, by decide⟩ (fun v1 _ => ?_)
  refine tg_aload_n 2 C0 dJ5_putStringAt_47b60_5 rfl rfl ?_
  refine tg_aload_n 0 C0 dJ5_putStringAt_47b60_6 rfl rfl ?_
  refine tg_get 0 0 C0 dJ5_putStringAt_47b60_7 (by decide) rfl rfl tu_J4 (by decide) tf_J5_15 rfl rfl rfl ?_
  refine tg_iload_n 1 C0 dJ5_putStringAt_47b60_10 rfl rfl ?_
  refine tg_aload_n 0 C0 dJ5_putStringAt_47b60_11 rfl rfl ?_
  refine tg_get 0 1 C0 dJ5_putStringAt_47b60_12 (by decide) rfl rfl tu_J4 (by decide) tf_J5_22 rfl rfl rfl ?_
  refine tg_g (fun h5 => ?_)
  refine ty_callVv (As := [.ref (ad 1), .int x1, .int (v1 0 1)]) 3 C0 hE dJ5_putStringAt_47b60_15 (c_J0_getBytes_840e7 l κ o2 x1 (v1 0 1) v1) rfl rfl (tm_gV tl_J5_399 ti_J0_getBytes_840e7 ts_J0_getBytes_840e7 tn_J0 tc_J0_getBytes_840e7) (tm_rvS hE (of_decide_eq_true h5)) rfl rfl rfl rfl (by decide +kernel) ⟨by decide, by decide⟩ (Nat.le_of_ble_eq_true rfl) ⟨by decide, by decide⟩ (fun v3 _ => ?_)
  exact tg_vret C0 dJ5_putStringAt_47b60_18
theorem c_J5_putStringAt_47b60 (l : Launch) {adK adV adE : Nat → Nat} {tC : Nat} (κ : Nat) (o2 : Nat) (x1 : Int32) (v : tmM) : tmYv tm_NWC (tm_shB κ) 2 l adK adV adE tC yJ5_putStringAt_47b60 (Cond.code yJ5_putStringAt_47b60 cJ5_putStringAt_47b60 3 none :: TMW) ({ frames := 2, cells := 0, slots := 0, locals := 63 } : Room) (fun ad => [.ref (ad 0), .int x1, .ref (adK o2)]) v (f_J5_putStringAt_47b60 κ o2 x1 v) := by
  exact tmYv.of (cc := cJ5_putStringAt_47b60) (nL := 3) (by decide +kernel) rfl tm_NWC_ok (fun _ => Nat.le_of_ble_eq_true rfl) (fun p e s m args below meth c A D cy ad z C0 hE => w_J5_putStringAt_47b60 C0 hE x1 v)
-- ----- J6_getChars_ba4f3
theorem dJ6_getChars_ba4f3_0 : decode cJ6_getChars_ba4f3 0 = .ok (.iload_n 1, 1) := by decide +kernel
theorem dJ6_getChars_ba4f3_1 : decode cJ6_getChars_ba4f3 1 = .ok (.istore 5, 2) := by decide +kernel
theorem dJ6_getChars_ba4f3_3 : decode cJ6_getChars_ba4f3 3 = .ok (.iload_n 0, 1) := by decide +kernel
theorem dJ6_getChars_ba4f3_4 : decode cJ6_getChars_ba4f3 4 = .ok (.ifCond .ge 7, 3) := by decide +kernel
theorem dJ6_getChars_ba4f3_7 : decode cJ6_getChars_ba4f3 7 = .ok (.iconst 1, 1) := by decide +kernel
theorem dJ6_getChars_ba4f3_8 : decode cJ6_getChars_ba4f3 8 = .ok (.goto 4, 3) := by decide +kernel
theorem dJ6_getChars_ba4f3_11 : decode cJ6_getChars_ba4f3 11 = .ok (.iconst 0, 1) := by decide +kernel
theorem dJ6_getChars_ba4f3_12 : decode cJ6_getChars_ba4f3 12 = .ok (.istore 6, 2) := by decide +kernel
theorem dJ6_getChars_ba4f3_14 : decode cJ6_getChars_ba4f3 14 = .ok (.iload 6, 2) := by decide +kernel
theorem dJ6_getChars_ba4f3_16 : decode cJ6_getChars_ba4f3 16 = .ok (.ifCond .ne 6, 3) := by decide +kernel
theorem dJ6_getChars_ba4f3_19 : decode cJ6_getChars_ba4f3 19 = .ok (.iload_n 0, 1) := by decide +kernel
theorem dJ6_getChars_ba4f3_20 : decode cJ6_getChars_ba4f3 20 = .ok (.ineg, 1) := by decide +kernel
theorem dJ6_getChars_ba4f3_21 : decode cJ6_getChars_ba4f3 21 = .ok (.istore_n 0, 1) := by decide +kernel
theorem dJ6_getChars_ba4f3_22 : decode cJ6_getChars_ba4f3 22 = .ok (.iload_n 0, 1) := by decide +kernel
theorem dJ6_getChars_ba4f3_23 : decode cJ6_getChars_ba4f3 23 = .ok (.bipush (-100), 2) := by decide +kernel
theorem dJ6_getChars_ba4f3_25 : decode cJ6_getChars_ba4f3 25 = .ok (.if_icmp .gt 47, 3) := by decide +kernel
theorem dJ6_getChars_ba4f3_28 : decode cJ6_getChars_ba4f3 28 = .ok (.iload_n 0, 1) := by decide +kernel
theorem dJ6_getChars_ba4f3_29 : decode cJ6_getChars_ba4f3 29 = .ok (.bipush 100, 2) := by decide +kernel
theorem dJ6_getChars_ba4f3_31 : decode cJ6_getChars_ba4f3 31 = .ok (.idiv, 1) := by decide +kernel
theorem dJ6_getChars_ba4f3_32 : decode cJ6_getChars_ba4f3 32 = .ok (.istore_n 3, 1) := by decide +kernel
theorem dJ6_getChars_ba4f3_33 : decode cJ6_getChars_ba4f3 33 = .ok (.iload_n 3, 1) := by decide +kernel
theorem dJ6_getChars_ba4f3_34 : decode cJ6_getChars_ba4f3 34 = .ok (.bipush 100, 2) := by decide +kernel
theorem dJ6_getChars_ba4f3_36 : decode cJ6_getChars_ba4f3 36 = .ok (.imul, 1) := by decide +kernel
theorem dJ6_getChars_ba4f3_37 : decode cJ6_getChars_ba4f3 37 = .ok (.iload_n 0, 1) := by decide +kernel
theorem dJ6_getChars_ba4f3_38 : decode cJ6_getChars_ba4f3 38 = .ok (.isub, 1) := by decide +kernel
theorem dJ6_getChars_ba4f3_39 : decode cJ6_getChars_ba4f3 39 = .ok (.istore 4, 2) := by decide +kernel
theorem dJ6_getChars_ba4f3_41 : decode cJ6_getChars_ba4f3 41 = .ok (.iload_n 3, 1) := by decide +kernel
theorem dJ6_getChars_ba4f3_42 : decode cJ6_getChars_ba4f3 42 = .ok (.istore_n 0, 1) := by decide +kernel
theorem dJ6_getChars_ba4f3_43 : decode cJ6_getChars_ba4f3 43 = .ok (.aload_n 2, 1) := by decide +kernel
theorem dJ6_getChars_ba4f3_44 : decode cJ6_getChars_ba4f3 44 = .ok (.iinc 5 (-1), 3) := by decide +kernel
theorem dJ6_getChars_ba4f3_47 : decode cJ6_getChars_ba4f3 47 = .ok (.iload 5, 2) := by decide +kernel
theorem dJ6_getChars_ba4f3_49 : decode cJ6_getChars_ba4f3 49 = .ok (.getstatic 83, 3) := by decide +kernel
theorem dJ6_getChars_ba4f3_52 : decode cJ6_getChars_ba4f3 52 = .ok (.iload 4, 2) := by decide +kernel
theorem dJ6_getChars_ba4f3_54 : decode cJ6_getChars_ba4f3 54 = .ok (.baload, 1) := by decide +kernel
theorem dJ6_getChars_ba4f3_55 : decode cJ6_getChars_ba4f3 55 = .ok (.bastore, 1) := by decide +kernel
theorem dJ6_getChars_ba4f3_56 : decode cJ6_getChars_ba4f3 56 = .ok (.aload_n 2, 1) := by decide +kernel
theorem dJ6_getChars_ba4f3_57 : decode cJ6_getChars_ba4f3 57 = .ok (.iinc 5 (-1), 3) := by decide +kernel
theorem dJ6_getChars_ba4f3_60 : decode cJ6_getChars_ba4f3 60 = .ok (.iload 5, 2) := by decide +kernel
theorem dJ6_getChars_ba4f3_62 : decode cJ6_getChars_ba4f3 62 = .ok (.getstatic 87, 3) := by decide +kernel
theorem dJ6_getChars_ba4f3_65 : decode cJ6_getChars_ba4f3 65 = .ok (.iload 4, 2) := by decide +kernel
theorem dJ6_getChars_ba4f3_67 : decode cJ6_getChars_ba4f3 67 = .ok (.baload, 1) := by decide +kernel
theorem dJ6_getChars_ba4f3_68 : decode cJ6_getChars_ba4f3 68 = .ok (.bastore, 1) := by decide +kernel
theorem dJ6_getChars_ba4f3_69 : decode cJ6_getChars_ba4f3 69 = .ok (.goto (-47), 3) := by decide +kernel
theorem dJ6_getChars_ba4f3_72 : decode cJ6_getChars_ba4f3 72 = .ok (.aload_n 2, 1) := by decide +kernel
theorem dJ6_getChars_ba4f3_73 : decode cJ6_getChars_ba4f3 73 = .ok (.iinc 5 (-1), 3) := by decide +kernel
theorem dJ6_getChars_ba4f3_76 : decode cJ6_getChars_ba4f3 76 = .ok (.iload 5, 2) := by decide +kernel
theorem dJ6_getChars_ba4f3_78 : decode cJ6_getChars_ba4f3 78 = .ok (.getstatic 83, 3) := by decide +kernel
theorem dJ6_getChars_ba4f3_81 : decode cJ6_getChars_ba4f3 81 = .ok (.iload_n 0, 1) := by decide +kernel
theorem dJ6_getChars_ba4f3_82 : decode cJ6_getChars_ba4f3 82 = .ok (.ineg, 1) := by decide +kernel
theorem dJ6_getChars_ba4f3_83 : decode cJ6_getChars_ba4f3 83 = .ok (.baload, 1) := by decide +kernel
theorem dJ6_getChars_ba4f3_84 : decode cJ6_getChars_ba4f3 84 = .ok (.bastore, 1) := by decide +kernel
theorem dJ6_getChars_ba4f3_85 : decode cJ6_getChars_ba4f3 85 = .ok (.iload_n 0, 1) := by decide +kernel
theorem dJ6_getChars_ba4f3_86 : decode cJ6_getChars_ba4f3 86 = .ok (.bipush (-9), 2) := by decide +kernel
theorem dJ6_getChars_ba4f3_88 : decode cJ6_getChars_ba4f3 88 = .ok (.if_icmp .ge 16, 3) := by decide +kernel
theorem dJ6_getChars_ba4f3_91 : decode cJ6_getChars_ba4f3 91 = .ok (.aload_n 2, 1) := by decide +kernel
theorem dJ6_getChars_ba4f3_92 : decode cJ6_getChars_ba4f3 92 = .ok (.iinc 5 (-1), 3) := by decide +kernel
theorem dJ6_getChars_ba4f3_95 : decode cJ6_getChars_ba4f3 95 = .ok (.iload 5, 2) := by decide +kernel
theorem dJ6_getChars_ba4f3_97 : decode cJ6_getChars_ba4f3 97 = .ok (.getstatic 87, 3) := by decide +kernel
theorem dJ6_getChars_ba4f3_100 : decode cJ6_getChars_ba4f3 100 = .ok (.iload_n 0, 1) := by decide +kernel
theorem dJ6_getChars_ba4f3_101 : decode cJ6_getChars_ba4f3 101 = .ok (.ineg, 1) := by decide +kernel
theorem dJ6_getChars_ba4f3_102 : decode cJ6_getChars_ba4f3 102 = .ok (.baload, 1) := by decide +kernel
theorem dJ6_getChars_ba4f3_103 : decode cJ6_getChars_ba4f3 103 = .ok (.bastore, 1) := by decide +kernel
theorem dJ6_getChars_ba4f3_104 : decode cJ6_getChars_ba4f3 104 = .ok (.iload 6, 2) := by decide +kernel
theorem dJ6_getChars_ba4f3_106 : decode cJ6_getChars_ba4f3 106 = .ok (.ifCond .eq 12, 3) := by decide +kernel
theorem dJ6_getChars_ba4f3_109 : decode cJ6_getChars_ba4f3 109 = .ok (.aload_n 2, 1) := by decide +kernel
theorem dJ6_getChars_ba4f3_110 : decode cJ6_getChars_ba4f3 110 = .ok (.iinc 5 (-1), 3) := by decide +kernel
theorem dJ6_getChars_ba4f3_113 : decode cJ6_getChars_ba4f3 113 = .ok (.iload 5, 2) := by decide +kernel
theorem dJ6_getChars_ba4f3_115 : decode cJ6_getChars_ba4f3 115 = .ok (.bipush 45, 2) := by decide +kernel
theorem dJ6_getChars_ba4f3_117 : decode cJ6_getChars_ba4f3 117 = .ok (.bastore, 1) := by decide +kernel
theorem dJ6_getChars_ba4f3_118 : decode cJ6_getChars_ba4f3 118 = .ok (.iload 5, 2) := by decide +kernel
theorem dJ6_getChars_ba4f3_120 : decode cJ6_getChars_ba4f3 120 = .ok (.ireturn, 1) := by decide +kernel
theorem tf_J6_83 : Cond.fieldLink RJ6 83 "java/lang/Integer" "DigitOnes" "[B" ∈ TMW := tm_in 1383 (by decide +kernel) (by decide +kernel)
theorem tf_J6_87 : Cond.fieldLink RJ6 87 "java/lang/Integer" "DigitTens" "[B" ∈ TMW := tm_in 1385 (by decide +kernel) (by decide +kernel)
def f_J6_getChars_ba4f3_22b (κ : Nat) (K0 : Int32 → Int32 → Int32 → tmM → Option (Int32 × tmM)) (L : Int32 → Int32 → Int32 → tmM → Option (Int32 × tmM)) (x0 x5 x6 : Int32) (v : tmM) : Option (Int32 × tmM) := (if (-100) < x0 then K0 x0 x5 x6 v else tm_g (decide (¬ 100 = 0)) (tm_lt (x0 / 100) fun y1 => tm_lt ((y1 * 100) - x0) fun y2 => tm_g (tm_ix y2 100) (tm_g (tm_ix (x5 + (-1)) κ) (tm_lt (tm_up v 1 (x5 + (-1)).toNatClampNeg (vp_nar .byte (tm_d1 y2.toNatClampNeg))) fun v4 => tm_g (tm_ix y2 100) (tm_g (tm_ix ((x5 + (-1)) + (-1)) κ) (tm_lt (tm_up v4 1 ((x5 + (-1)) + (-1)).toNatClampNeg (vp_nar .byte (tm_d10 y2.toNatClampNeg))) fun v6 => L y1 ((x5 + (-1)) + (-1)) x6 v6))))))
set_option maxRecDepth 100000 in
set_option maxHeartbeats 4000000 in
theorem w_J6_getChars_ba4f3_22b {p : Program} {l : Launch} {e : Env} {s : State} {m : MethodId} {args : Array Value} {below : List Frame} {meth : Method} {c : Code} {D : va_G} {cy : Nat → ClassId} {ad : Nat → Nat} {A : Nat → Prop} {adK adV adE : Nat → Nat} {tC : Nat} {z : (Int32 × tmM)} {κ : Nat} {K0 : Int32 → Int32 → Int32 → tmM → Option (Int32 × tmM)} {L : Int32 → Int32 → Int32 → tmM → Option (Int32 × tmM)} (C0 : tmC p s m args meth c cJ6_getChars_ba4f3 7 (some .int) RJ6 TMW tm_NWC D cy (tm_shB κ) ad 2 [] A) (hE : tmSc adK adV adE tC A s s.heap) (hK0 : ∀ (a0 a5 a6 : Int32) (w : tmM), tmG p l e ({ frames := 0, cells := 0, slots := 0, locals := 0 } : Room) s m args below meth c 0 0 (MQ below (va_Qi (fun r u => z = (r, u)) (tmAt (tm_shB κ) 2 D cy ad A) A) args s 0 0 A) 7 D cy (tm_shB κ) ad 2 [] A z 72 [(0, .int a0), (2, .ref (ad 1)), (5, .int a5), (6, .int a6)] [] w (K0 a0 a5 a6 w)) (hL : ∀ (a0 a5 a6 : Int32) (w : tmM), tmG p l e ({ frames := 0, cells := 0, slots := 0, locals := 0 } : Room) s m args below meth c 0 0 (MQ below (va_Qi (fun r u => z = (r, u)) (tmAt (tm_shB κ) 2 D cy ad A) A) args s 0 0 A) 7 D cy (tm_shB κ) ad 2 [] A z 22 [(0, .int a0), (2, .ref (ad 1)), (5, .int a5), (6, .int a6)] [] w (L a0 a5 a6 w)) (x0 x5 x6 : Int32) (v : tmM) : tmG p l e ({ frames := 0, cells := 0, slots := 0, locals := 0 } : Room) s m args below meth c 0 0 (MQ below (va_Qi (fun r u => z = (r, u)) (tmAt (tm_shB κ) 2 D cy ad A) A) args s 0 0 A) 7 D cy (tm_shB κ) ad 2 [] A z 22 [(0, .int x0), (2, .ref (ad 1)), (5, .int x5), (6, .int x6)] [] v (f_J6_getChars_ba4f3_22b κ K0 L x0 x5 x6 v) := by
  unfold f_J6_getChars_ba4f3_22b
  refine tg_iload_n 0 C0 dJ6_getChars_ba4f3_22 rfl rfl ?_
  refine tg_bipush (x := (-100)) C0 dJ6_getChars_ba4f3_23 (by decide) ?_
  refine tg_icmp_gt 72 C0 dJ6_getChars_ba4f3_25 (by decide) (fun _ => ?_) (fun _ => ?_)
  · exact hK0 x0 x5 x6 v
  · refine tg_iload_n 0 C0 dJ6_getChars_ba4f3_28 rfl rfl ?_
    refine tg_bipush (x := 100) C0 dJ6_getChars_ba4f3_29 (by decide) ?_
    refine tg_idiv C0 dJ6_getChars_ba4f3_31 (fun _ => ?_)
    refine tg_leti (fun y1 _ => ?_)
    refine tg_istore_n [(3, .int y1), (0, .int x0), (2, .ref (ad 1)), (5, .int x5), (6, .int x6)] C0 dJ6_getChars_ba4f3_32 rfl (by decide) rfl ?_
    refine tg_iload_n 0 C0 dJ6_getChars_ba4f3_33 rfl rfl ?_
    refine tg_bipush (x := 100) C0 dJ6_getChars_ba4f3_34 (by decide) ?_
    refine tg_imul C0 dJ6_getChars_ba4f3_36 ?_
    refine tg_iload_n 1 C0 dJ6_getChars_ba4f3_37 rfl rfl ?_
    refine tg_isub C0 dJ6_getChars_ba4f3_38 ?_
    refine tg_leti (fun y2 _ => ?_)
    refine tg_istore [(4, .int y2), (3, .int y1), (0, .int x0), (2, .ref (ad 1)), (5, .int x5), (6, .int x6)] C0 dJ6_getChars_ba4f3_39 (by decide) rfl ?_
    refine tg_iload_n 1 C0 dJ6_getChars_ba4f3_41 rfl rfl ?_
    refine tg_istore_n [(0, .int y1), (4, .int y2), (3, .int y1), (2, .ref (ad 1)), (5, .int x5), (6, .int x6)] C0 dJ6_getChars_ba4f3_42 rfl (by decide) rfl ?_
    refine tg_aload_n 3 C0 dJ6_getChars_ba4f3_43 rfl rfl ?_
    refine tg_iinc [(5, .int (x5 + (-1))), (0, .int y1), (4, .int y2), (3, .int y1), (2, .ref (ad 1)), (6, .int x6)] 4 C0 dJ6_getChars_ba4f3_44 rfl rfl (by decide) rfl ?_
    refine tg_iload 0 C0 dJ6_getChars_ba4f3_47 rfl ?_
    refine tb_dig C0 dJ6_getChars_ba4f3_49 hE.2.2.2.2.2.2.2.2.2.2.2.2.2.1 tf_J6_83 (fun t3 ht3 => ?_)
    refine tg_iload 2 C0 dJ6_getChars_ba4f3_52 rfl ?_
    refine ty_obald C0 dJ6_getChars_ba4f3_54 ht3 rfl (fun _ => ?_)
    refine tg_bast 1 C0 dJ6_getChars_ba4f3_55 (by decide) rfl (fun _ => ?_)
    refine tg_letm (fun v4 _ => ?_)
    refine tg_aload_n 4 C0 dJ6_getChars_ba4f3_56 rfl rfl ?_
    refine tg_iinc [(5, .int ((x5 + (-1)) + (-1))), (0, .int y1), (4, .int y2), (3, .int y1), (2, .ref (ad 1)), (6, .int x6)] 0 C0 dJ6_getChars_ba4f3_57 rfl rfl (by decide) rfl ?_
    refine tg_iload 0 C0 dJ6_getChars_ba4f3_60 rfl ?_
    refine tb_dig C0 dJ6_getChars_ba4f3_62 hE.2.2.2.2.2.2.2.2.2.2.2.2.2.2 tf_J6_87 (fun t5 ht5 => ?_)
    refine tg_iload 2 C0 dJ6_getChars_ba4f3_65 rfl ?_
    refine ty_obald C0 dJ6_getChars_ba4f3_67 ht5 rfl (fun _ => ?_)
    refine tg_bast 1 C0 dJ6_getChars_ba4f3_68 (by decide) rfl (fun _ => ?_)
    refine tg_letm (fun v6 _ => ?_)
    refine tg_goto 22 C0 dJ6_getChars_ba4f3_69 (by decide) ?_
    refine tg_sub [1, 4, 0, 5] rfl ?_
    exact hL y1 ((x5 + (-1)) + (-1)) x6 v6
def f_J6_getChars_ba4f3_22 (κ : Nat) (K0 : Int32 → Int32 → Int32 → tmM → Option (Int32 × tmM)) : Nat → Int32 → Int32 → Int32 → tmM → Option (Int32 × tmM)
  | 0 => fun _ _ _ _ => none
  | n + 1 => f_J6_getChars_ba4f3_22b κ K0 (f_J6_getChars_ba4f3_22 κ K0 n)
theorem w_J6_getChars_ba4f3_22 {p : Program} {l : Launch} {e : Env} {s : State} {m : MethodId} {args : Array Value} {below : List Frame} {meth : Method} {c : Code} {D : va_G} {cy : Nat → ClassId} {ad : Nat → Nat} {A : Nat → Prop} {adK adV adE : Nat → Nat} {tC : Nat} {z : (Int32 × tmM)} {κ : Nat} {K0 : Int32 → Int32 → Int32 → tmM → Option (Int32 × tmM)} (C0 : tmC p s m args meth c cJ6_getChars_ba4f3 7 (some .int) RJ6 TMW tm_NWC D cy (tm_shB κ) ad 2 [] A) (hE : tmSc adK adV adE tC A s s.heap) (hK0 : ∀ (a0 a5 a6 : Int32) (w : tmM), tmG p l e ({ frames := 0, cells := 0, slots := 0, locals := 0 } : Room) s m args below meth c 0 0 (MQ below (va_Qi (fun r u => z = (r, u)) (tmAt (tm_shB κ) 2 D cy ad A) A) args s 0 0 A) 7 D cy (tm_shB κ) ad 2 [] A z 72 [(0, .int a0), (2, .ref (ad 1)), (5, .int a5), (6, .int a6)] [] w (K0 a0 a5 a6 w)) (nn : Nat) : ∀ (x0 x5 x6 : Int32) (v : tmM), tmG p l e ({ frames := 0, cells := 0, slots := 0, locals := 0 } : Room) s m args below meth c 0 0 (MQ below (va_Qi (fun r u => z = (r, u)) (tmAt (tm_shB κ) 2 D cy ad A) A) args s 0 0 A) 7 D cy (tm_shB κ) ad 2 [] A z 22 [(0, .int x0), (2, .ref (ad 1)), (5, .int x5), (6, .int x6)] [] v (f_J6_getChars_ba4f3_22 κ K0 nn x0 x5 x6 v) := by
  induction nn with
  | zero => intro _ _ _ _; exact tg_none
  | succ n ih => intro x0 x5 x6 v; exact w_J6_getChars_ba4f3_22b C0 hE hK0 ih x0 x5 x6 v
def f_J6_getChars_ba4f3_104 (κ : Nat) (x5 x6 : Int32) (v : tmM) : Option (Int32 × tmM) := (if x6 = 0 then some (x5, v) else tm_g (tm_ix (x5 + (-1)) κ) (tm_lt (tm_up v 1 (x5 + (-1)).toNatClampNeg (vp_nar .byte 45)) fun v13 => some (x5 + (-1), v13)))
set_option maxRecDepth 100000 in
set_option maxHeartbeats 4000000 in
theorem w_J6_getChars_ba4f3_104 {p : Program} {l : Launch} {e : Env} {s : State} {m : MethodId} {args : Array Value} {below : List Frame} {meth : Method} {c : Code} {D : va_G} {cy : Nat → ClassId} {ad : Nat → Nat} {A : Nat → Prop} {adK adV adE : Nat → Nat} {tC : Nat} {z : (Int32 × tmM)} {κ : Nat} (C0 : tmC p s m args meth c cJ6_getChars_ba4f3 7 (some .int) RJ6 TMW tm_NWC D cy (tm_shB κ) ad 2 [] A) (hE : tmSc adK adV adE tC A s s.heap) (x5 x6 : Int32) (v : tmM) : tmG p l e ({ frames := 0, cells := 0, slots := 0, locals := 0 } : Room) s m args below meth c 0 0 (MQ below (va_Qi (fun r u => z = (r, u)) (tmAt (tm_shB κ) 2 D cy ad A) A) args s 0 0 A) 7 D cy (tm_shB κ) ad 2 [] A z 104 [(2, .ref (ad 1)), (5, .int x5), (6, .int x6)] [] v (f_J6_getChars_ba4f3_104 κ x5 x6 v) := by
  unfold f_J6_getChars_ba4f3_104
  refine tg_iload 2 C0 dJ6_getChars_ba4f3_104 rfl ?_
  refine tg_if_eq 118 C0 dJ6_getChars_ba4f3_106 (by decide) (fun _ => ?_) (fun _ => ?_)
  · refine tg_iload 1 C0 dJ6_getChars_ba4f3_118 rfl ?_
    exact tg_iret C0 dJ6_getChars_ba4f3_120
  · refine tg_aload_n 0 C0 dJ6_getChars_ba4f3_109 rfl rfl ?_
    refine tg_iinc [(5, .int (x5 + (-1))), (2, .ref (ad 1)), (6, .int x6)] 1 C0 dJ6_getChars_ba4f3_110 rfl rfl (by decide) rfl ?_
    refine tg_iload 0 C0 dJ6_getChars_ba4f3_113 rfl ?_
    refine tg_bipush (x := 45) C0 dJ6_getChars_ba4f3_115 (by decide) ?_
    refine tg_bast 1 C0 dJ6_getChars_ba4f3_117 (by decide) rfl (fun _ => ?_)
    refine tg_letm (fun v13 _ => ?_)
    refine tg_iload 0 C0 dJ6_getChars_ba4f3_118 rfl ?_
    exact tg_iret C0 dJ6_getChars_ba4f3_120
def f_J6_getChars_ba4f3_12 (κ : Nat) (x0 x5 s0 : Int32) (v : tmM) : Option (Int32 × tmM) := (if s0 = 0 then tm_lt (-x0) fun y16 => f_J6_getChars_ba4f3_22 κ (fun x17 x18 x19 v20 => tm_g (tm_ix (-x17) 100) (tm_g (tm_ix (x18 + (-1)) κ) (tm_lt (tm_up v20 1 (x18 + (-1)).toNatClampNeg (vp_nar .byte (tm_d1 (-x17).toNatClampNeg))) fun v22 => (if (-9) ≤ x17 then f_J6_getChars_ba4f3_104 κ (x18 + (-1)) x19 v22 else tm_g (tm_ix (-x17) 100) (tm_g (tm_ix ((x18 + (-1)) + (-1)) κ) (tm_lt (tm_up v22 1 ((x18 + (-1)) + (-1)).toNatClampNeg (vp_nar .byte (tm_d10 (-x17).toNatClampNeg))) fun v24 => f_J6_getChars_ba4f3_104 κ ((x18 + (-1)) + (-1)) x19 v24)))))) 10000 y16 x5 s0 v else f_J6_getChars_ba4f3_22 κ (fun x7 x8 x9 v10 => tm_g (tm_ix (-x7) 100) (tm_g (tm_ix (x8 + (-1)) κ) (tm_lt (tm_up v10 1 (x8 + (-1)).toNatClampNeg (vp_nar .byte (tm_d1 (-x7).toNatClampNeg))) fun v12 => (if (-9) ≤ x7 then f_J6_getChars_ba4f3_104 κ (x8 + (-1)) x9 v12 else tm_g (tm_ix (-x7) 100) (tm_g (tm_ix ((x8 + (-1)) + (-1)) κ) (tm_lt (tm_up v12 1 ((x8 + (-1)) + (-1)).toNatClampNeg (vp_nar .byte (tm_d10 (-x7).toNatClampNeg))) fun v15 => f_J6_getChars_ba4f3_104 κ ((x8 + (-1)) + (-1)) x9 v15)))))) 10000 x0 x5 s0 v)
set_option maxRecDepth 100000 in
set_option maxHeartbeats 4000000 in
theorem w_J6_getChars_ba4f3_12 {p : Program} {l : Launch} {e : Env} {s : State} {m : MethodId} {args : Array Value} {below : List Frame} {meth : Method} {c : Code} {D : va_G} {cy : Nat → ClassId} {ad : Nat → Nat} {A : Nat → Prop} {adK adV adE : Nat → Nat} {tC : Nat} {z : (Int32 × tmM)} {κ : Nat} (C0 : tmC p s m args meth c cJ6_getChars_ba4f3 7 (some .int) RJ6 TMW tm_NWC D cy (tm_shB κ) ad 2 [] A) (hE : tmSc adK adV adE tC A s s.heap) (x0 x5 s0 : Int32) (v : tmM) : tmG p l e ({ frames := 0, cells := 0, slots := 0, locals := 0 } : Room) s m args below meth c 0 0 (MQ below (va_Qi (fun r u => z = (r, u)) (tmAt (tm_shB κ) 2 D cy ad A) A) args s 0 0 A) 7 D cy (tm_shB κ) ad 2 [] A z 12 [(0, .int x0), (2, .ref (ad 1)), (5, .int x5)] [.int s0] v (f_J6_getChars_ba4f3_12 κ x0 x5 s0 v) := by
  unfold f_J6_getChars_ba4f3_12
  refine tg_istore [(6, .int s0), (0, .int x0), (2, .ref (ad 1)), (5, .int x5)] C0 dJ6_getChars_ba4f3_12 (by decide) rfl ?_
  refine tg_iload 0 C0 dJ6_getChars_ba4f3_14 rfl ?_
  refine tg_if_ne 22 C0 dJ6_getChars_ba4f3_16 (by decide) (fun _ => ?_) (fun _ => ?_)
  · refine tg_sub [1, 2, 3, 0] rfl ?_
    refine w_J6_getChars_ba4f3_22 C0 hE (fun x7 x8 x9 v10 => ?_) 10000 x0 x5 s0 v
    refine tg_aload_n 1 C0 dJ6_getChars_ba4f3_72 rfl rfl ?_
    refine tg_iinc [(5, .int (x8 + (-1))), (0, .int x7), (2, .ref (ad 1)), (6, .int x9)] 2 C0 dJ6_getChars_ba4f3_73 rfl rfl (by decide) rfl ?_
    refine tg_iload 0 C0 dJ6_getChars_ba4f3_76 rfl ?_
    refine tb_dig C0 dJ6_getChars_ba4f3_78 hE.2.2.2.2.2.2.2.2.2.2.2.2.2.1 tf_J6_83 (fun t11 ht11 => ?_)
    refine tg_iload_n 1 C0 dJ6_getChars_ba4f3_81 rfl rfl ?_
    refine tg_ineg C0 dJ6_getChars_ba4f3_82 ?_
    refine ty_obald C0 dJ6_getChars_ba4f3_83 ht11 rfl (fun _ => ?_)
    refine tg_bast 1 C0 dJ6_getChars_ba4f3_84 (by decide) rfl (fun _ => ?_)
    refine tg_letm (fun v12 _ => ?_)
    refine tg_iload_n 1 C0 dJ6_getChars_ba4f3_85 rfl rfl ?_
    refine tg_bipush (x := (-9)) C0 dJ6_getChars_ba4f3_86 (by decide) ?_
    refine tg_icmp_ge 104 C0 dJ6_getChars_ba4f3_88 (by decide) (fun _ => ?_) (fun _ => ?_)
    · refine tg_sub [2, 0, 3] rfl ?_
      exact w_J6_getChars_ba4f3_104 C0 hE (x8 + (-1)) x9 v12
    · refine tg_aload_n 2 C0 dJ6_getChars_ba4f3_91 rfl rfl ?_
      refine tg_iinc [(5, .int ((x8 + (-1)) + (-1))), (0, .int x7), (2, .ref (ad 1)), (6, .int x9)] 0 C0 dJ6_getChars_ba4f3_92 rfl rfl (by decide) rfl ?_
      refine tg_iload 0 C0 dJ6_getChars_ba4f3_95 rfl ?_
      refine tb_dig C0 dJ6_getChars_ba4f3_97 hE.2.2.2.2.2.2.2.2.2.2.2.2.2.2 tf_J6_87 (fun t14 ht14 => ?_)
      refine tg_iload_n 1 C0 dJ6_getChars_ba4f3_100 rfl rfl ?_
      refine tg_ineg C0 dJ6_getChars_ba4f3_101 ?_
      refine ty_obald C0 dJ6_getChars_ba4f3_102 ht14 rfl (fun _ => ?_)
      refine tg_bast 1 C0 dJ6_getChars_ba4f3_103 (by decide) rfl (fun _ => ?_)
      refine tg_letm (fun v15 _ => ?_)
      refine tg_sub [2, 0, 3] rfl ?_
      exact w_J6_getChars_ba4f3_104 C0 hE ((x8 + (-1)) + (-1)) x9 v15
  · refine tg_iload_n 1 C0 dJ6_getChars_ba4f3_19 rfl rfl ?_
    refine tg_ineg C0 dJ6_getChars_ba4f3_20 ?_
    refine tg_leti (fun y16 _ => ?_)
    refine tg_istore_n [(0, .int y16), (6, .int s0), (2, .ref (ad 1)), (5, .int x5)] C0 dJ6_getChars_ba4f3_21 rfl (by decide) rfl ?_
    refine tg_sub [0, 2, 3, 1] rfl ?_
    refine w_J6_getChars_ba4f3_22 C0 hE (fun x17 x18 x19 v20 => ?_) 10000 y16 x5 s0 v
    refine tg_aload_n 1 C0 dJ6_getChars_ba4f3_72 rfl rfl ?_
    refine tg_iinc [(5, .int (x18 + (-1))), (0, .int x17), (2, .ref (ad 1)), (6, .int x19)] 2 C0 dJ6_getChars_ba4f3_73 rfl rfl (by decide) rfl ?_
    refine tg_iload 0 C0 dJ6_getChars_ba4f3_76 rfl ?_
    refine tb_dig C0 dJ6_getChars_ba4f3_78 hE.2.2.2.2.2.2.2.2.2.2.2.2.2.1 tf_J6_83 (fun t21 ht21 => ?_)
    refine tg_iload_n 1 C0 dJ6_getChars_ba4f3_81 rfl rfl ?_
    refine tg_ineg C0 dJ6_getChars_ba4f3_82 ?_
    refine ty_obald C0 dJ6_getChars_ba4f3_83 ht21 rfl (fun _ => ?_)
    refine tg_bast 1 C0 dJ6_getChars_ba4f3_84 (by decide) rfl (fun _ => ?_)
    refine tg_letm (fun v22 _ => ?_)
    refine tg_iload_n 1 C0 dJ6_getChars_ba4f3_85 rfl rfl ?_
    refine tg_bipush (x := (-9)) C0 dJ6_getChars_ba4f3_86 (by decide) ?_
    refine tg_icmp_ge 104 C0 dJ6_getChars_ba4f3_88 (by decide) (fun _ => ?_) (fun _ => ?_)
    · refine tg_sub [2, 0, 3] rfl ?_
      exact w_J6_getChars_ba4f3_104 C0 hE (x18 + (-1)) x19 v22
    · refine tg_aload_n 2 C0 dJ6_getChars_ba4f3_91 rfl rfl ?_
      refine tg_iinc [(5, .int ((x18 + (-1)) + (-1))), (0, .int x17), (2, .ref (ad 1)), (6, .int x19)] 0 C0 dJ6_getChars_ba4f3_92 rfl rfl (by decide) rfl ?_
      refine tg_iload 0 C0 dJ6_getChars_ba4f3_95 rfl ?_
      refine tb_dig C0 dJ6_getChars_ba4f3_97 hE.2.2.2.2.2.2.2.2.2.2.2.2.2.2 tf_J6_87 (fun t23 ht23 => ?_)
      refine tg_iload_n 1 C0 dJ6_getChars_ba4f3_100 rfl rfl ?_
      refine tg_ineg C0 dJ6_getChars_ba4f3_101 ?_
      refine ty_obald C0 dJ6_getChars_ba4f3_102 ht23 rfl (fun _ => ?_)
      refine tg_bast 1 C0 dJ6_getChars_ba4f3_103 (by decide) rfl (fun _ => ?_)
      refine tg_letm (fun v24 _ => ?_)
      refine tg_sub [2, 0, 3] rfl ?_
      exact w_J6_getChars_ba4f3_104 C0 hE ((x18 + (-1)) + (-1)) x19 v24
def f_J6_getChars_ba4f3 (κ : Nat) (x0 x1 : Int32) (v : tmM) : Option (Int32 × tmM) := (if 0 ≤ x0 then f_J6_getChars_ba4f3_12 κ x0 x1 0 v else f_J6_getChars_ba4f3_12 κ x0 x1 1 v)
set_option maxRecDepth 100000 in
set_option maxHeartbeats 4000000 in
theorem w_J6_getChars_ba4f3 {p : Program} {l : Launch} {e : Env} {s : State} {m : MethodId} {args : Array Value} {below : List Frame} {meth : Method} {c : Code} {D : va_G} {cy : Nat → ClassId} {ad : Nat → Nat} {A : Nat → Prop} {adK adV adE : Nat → Nat} {tC : Nat} {z : (Int32 × tmM)} {κ : Nat} (C0 : tmC p s m args meth c cJ6_getChars_ba4f3 7 (some .int) RJ6 TMW tm_NWC D cy (tm_shB κ) ad 2 [] A) (hE : tmSc adK adV adE tC A s s.heap) (x0 x1 : Int32) (v : tmM) : tmG p l e ({ frames := 0, cells := 0, slots := 0, locals := 0 } : Room) s m args below meth c 0 0 (MQ below (va_Qi (fun r u => z = (r, u)) (tmAt (tm_shB κ) 2 D cy ad A) A) args s 0 0 A) 7 D cy (tm_shB κ) ad 2 [] A z 0 [(0, .int x0), (1, .int x1), (2, .ref (ad 1))] [] v (f_J6_getChars_ba4f3 κ x0 x1 v) := by
  unfold f_J6_getChars_ba4f3
  refine tg_iload_n 1 C0 dJ6_getChars_ba4f3_0 rfl rfl ?_
  refine tg_istore [(5, .int x1), (0, .int x0), (1, .int x1), (2, .ref (ad 1))] C0 dJ6_getChars_ba4f3_1 (by decide) rfl ?_
  refine tg_iload_n 1 C0 dJ6_getChars_ba4f3_3 rfl rfl ?_
  refine tg_if_ge 11 C0 dJ6_getChars_ba4f3_4 (by decide) (fun _ => ?_) (fun _ => ?_)
  · refine tg_iconst (x := 0) C0 dJ6_getChars_ba4f3_11 (by decide) ?_
    refine tg_sub [1, 3, 0] rfl ?_
    exact w_J6_getChars_ba4f3_12 C0 hE x0 x1 0 v
  · refine tg_iconst (x := 1) C0 dJ6_getChars_ba4f3_7 (by decide) ?_
    refine tg_goto 12 C0 dJ6_getChars_ba4f3_8 (by decide) ?_
    refine tg_sub [1, 3, 0] rfl ?_
    exact w_J6_getChars_ba4f3_12 C0 hE x0 x1 1 v
theorem c_J6_getChars_ba4f3 (l : Launch) {adK adV adE : Nat → Nat} {tC : Nat} (κ : Nat) (x0 x1 : Int32) (v : tmM) : tmYi tm_NWC (tm_shB κ) 2 l adK adV adE tC yJ6_getChars_ba4f3 (Cond.code yJ6_getChars_ba4f3 cJ6_getChars_ba4f3 7 (some .int) :: TMW) ({ frames := 0, cells := 0, slots := 0, locals := 0 } : Room) (fun ad => [.int x0, .int x1, .ref (ad 1)]) v (f_J6_getChars_ba4f3 κ x0 x1 v) := by
  exact tmYi.of (cc := cJ6_getChars_ba4f3) (nL := 7) (by decide +kernel) rfl tm_NWC_ok (fun _ => Nat.le_of_ble_eq_true rfl) (fun p e s m args below meth c A D cy ad z C0 hE => w_J6_getChars_ba4f3 C0 hE x0 x1 v)
-- ----- J5_charAt_5068e
theorem dJ5_charAt_5068e_0 : decode cJ5_charAt_5068e 0 = .ok (.aload_n 0, 1) := by decide +kernel
theorem dJ5_charAt_5068e_1 : decode cJ5_charAt_5068e 1 = .ok (.getfield 22, 3) := by decide +kernel
theorem dJ5_charAt_5068e_4 : decode cJ5_charAt_5068e 4 = .ok (.istore_n 2, 1) := by decide +kernel
theorem dJ5_charAt_5068e_5 : decode cJ5_charAt_5068e 5 = .ok (.aload_n 0, 1) := by decide +kernel
theorem dJ5_charAt_5068e_6 : decode cJ5_charAt_5068e 6 = .ok (.getfield 15, 3) := by decide +kernel
theorem dJ5_charAt_5068e_9 : decode cJ5_charAt_5068e 9 = .ok (.astore_n 3, 1) := by decide +kernel
theorem dJ5_charAt_5068e_10 : decode cJ5_charAt_5068e 10 = .ok (.aload_n 0, 1) := by decide +kernel
theorem dJ5_charAt_5068e_11 : decode cJ5_charAt_5068e 11 = .ok (.getfield 79, 3) := by decide +kernel
theorem dJ5_charAt_5068e_14 : decode cJ5_charAt_5068e 14 = .ok (.aload_n 3, 1) := by decide +kernel
theorem dJ5_charAt_5068e_15 : decode cJ5_charAt_5068e 15 = .ok (.arraylength, 1) := by decide +kernel
theorem dJ5_charAt_5068e_16 : decode cJ5_charAt_5068e 16 = .ok (.iload_n 2, 1) := by decide +kernel
theorem dJ5_charAt_5068e_17 : decode cJ5_charAt_5068e 17 = .ok (.ishr, 1) := by decide +kernel
theorem dJ5_charAt_5068e_18 : decode cJ5_charAt_5068e 18 = .ok (.invokestatic 138, 3) := by decide +kernel
theorem dJ5_charAt_5068e_21 : decode cJ5_charAt_5068e 21 = .ok (.istore 4, 2) := by decide +kernel
theorem dJ5_charAt_5068e_23 : decode cJ5_charAt_5068e 23 = .ok (.iload_n 1, 1) := by decide +kernel
theorem dJ5_charAt_5068e_24 : decode cJ5_charAt_5068e 24 = .ok (.iload 4, 2) := by decide +kernel
theorem dJ5_charAt_5068e_26 : decode cJ5_charAt_5068e 26 = .ok (.invokestatic 144, 3) := by decide +kernel
theorem dJ5_charAt_5068e_29 : decode cJ5_charAt_5068e 29 = .ok (.iload_n 2, 1) := by decide +kernel
theorem dJ5_charAt_5068e_30 : decode cJ5_charAt_5068e 30 = .ok (.ifCond .ne 12, 3) := by decide +kernel
theorem dJ5_charAt_5068e_33 : decode cJ5_charAt_5068e 33 = .ok (.aload_n 3, 1) := by decide +kernel
theorem dJ5_charAt_5068e_34 : decode cJ5_charAt_5068e 34 = .ok (.iload_n 1, 1) := by decide +kernel
theorem dJ5_charAt_5068e_35 : decode cJ5_charAt_5068e 35 = .ok (.baload, 1) := by decide +kernel
theorem dJ5_charAt_5068e_36 : decode cJ5_charAt_5068e 36 = .ok (.sipush 255, 3) := by decide +kernel
theorem dJ5_charAt_5068e_39 : decode cJ5_charAt_5068e 39 = .ok (.iand, 1) := by decide +kernel
theorem dJ5_charAt_5068e_40 : decode cJ5_charAt_5068e 40 = .ok (.i2c, 1) := by decide +kernel
theorem dJ5_charAt_5068e_41 : decode cJ5_charAt_5068e 41 = .ok (.ireturn, 1) := by decide +kernel
theorem tl_J5_138 : Cond.methodLink RJ5 138 Lib.Math.min.name ∈ TMW := tm_in 808 (by decide +kernel) (by decide +kernel)
theorem tl_J5_144 : Cond.methodLink RJ5 144 yJ0_checkIndex_df160 ∈ TMW := tm_in 809 (by decide +kernel) (by decide +kernel)
def f_J5_charAt_5068e (κ : Nat) (x1 : Int32) (v : tmM) : Option (Int32 × tmM) := tm_lt (v 0 1) fun y1 => tm_lt (if ((Int32.ofNat κ) >>> (y1 &&& 31)) < (v 0 3) then (Int32.ofNat κ) >>> (y1 &&& 31) else v 0 3) fun y2 => tm_cl (f_J0_checkIndex_df160 x1 y2 v) fun _ v3 => (if y1 = 0 then tm_g (tm_ix x1 κ) (tm_g (tm_ci ((((v3 1 x1.toNatClampNeg) &&& 255).toUInt32 % 65536).toInt32)) (some ((((v3 1 x1.toNatClampNeg) &&& 255).toUInt32 % 65536).toInt32, v3))) else none)
set_option maxRecDepth 100000 in
set_option maxHeartbeats 4000000 in
theorem w_J5_charAt_5068e {p : Program} {l : Launch} {e : Env} {s : State} {m : MethodId} {args : Array Value} {below : List Frame} {meth : Method} {c : Code} {D : va_G} {cy : Nat → ClassId} {ad : Nat → Nat} {A : Nat → Prop} {adK adV adE : Nat → Nat} {tC : Nat} {z : (Int32 × tmM)} {κ : Nat} (C0 : tmC p s m args meth c cJ5_charAt_5068e 5 (some .char) RJ5 TMW tm_NWC D cy (tm_shB κ) ad 2 [] A) (hE : tmSc adK adV adE tC A s s.heap) (x1 : Int32) (v : tmM) : tmG p l e ({ frames := 2, cells := 0, slots := 0, locals := 43 } : Room) s m args below meth c 0 0 (MQ below (va_Qi (fun r u => z = (r, u)) (tmAt (tm_shB κ) 2 D cy ad A) A) args s 0 0 A) 5 D cy (tm_shB κ) ad 2 [] A z 0 [(0, .ref (ad 0)), (1, .int x1)] [] v (f_J5_charAt_5068e κ x1 v) := by
  unfold f_J5_charAt_5068e
  refine tg_aload_n 0 C0 dJ5_charAt_5068e_0 rfl rfl ?_
  refine tg_get 0 1 C0 dJ5_charAt_5068e_1 (by decide) rfl rfl tu_J4 (by decide) tf_J5_22 rfl rfl rfl ?_
  refine tg_leti (fun y1 _ => ?_)
  refine tg_istore_n [(2, .int y1), (0, .ref (ad 0)), (1, .int x1)] C0 dJ5_charAt_5068e_4 rfl (by decide) rfl ?_
  refine tg_aload_n 1 C0 dJ5_charAt_5068e_5 rfl rfl ?_
  refine tg_get 0 0 C0 dJ5_charAt_5068e_6 (by decide) rfl rfl tu_J4 (by decide) tf_J5_15 rfl rfl rfl ?_
  refine tg_astore_n [(3, .ref (ad 1)), (2, .int y1), (0, .ref (ad 0)), (1, .int x1)] C0 dJ5_charAt_5068e_9 rfl (by decide) rfl ?_
  refine tg_aload_n 2 C0 dJ5_charAt_5068e_10 rfl rfl ?_
  refine tg_get 0 3 C0 dJ5_charAt_5068e_11 (by decide) rfl rfl tu_J4 (by decide) tf_J5_79 rfl rfl rfl ?_
  refine tg_aload_n 0 C0 dJ5_charAt_5068e_14 rfl rfl ?_
  refine tg_alen (x := Int32.ofNat κ) 1 C0 dJ5_charAt_5068e_15 (by decide) rfl (by decide) rfl ?_
  refine tg_iload_n 1 C0 dJ5_charAt_5068e_16 rfl rfl ?_
  refine tg_ishr C0 dJ5_charAt_5068e_17 ?_
  refine tg_mmin C0 dJ5_charAt_5068e_18 tl_J5_138 tmminst tmath tmminco (by decide) (Nat.le_of_ble_eq_true rfl) ⟨by decide, by decide⟩ ?_
  refine tg_leti (fun y2 _ => ?_)
  refine tg_istore [(4, .int y2), (3, .ref (ad 1)), (2, .int y1), (0, .ref (ad 0)), (1, .int x1)] C0 dJ5_charAt_5068e_21 (by decide) rfl ?_
  refine tg_iload_n 4 C0 dJ5_charAt_5068e_23 rfl rfl ?_
  refine tg_iload 0 C0 dJ5_charAt_5068e_24 rfl ?_
  refine ty_callSv (As := [.int x1, .int y2]) 2 C0 hE dJ5_charAt_5068e_26 (c_J0_checkIndex_df160 l x1 y2 v) rfl rfl (tm_gc tc_J0_checkIndex_df160) tl_J5_144 tn_J0 tst_J0_checkIndex_df160 rfl rfl rfl rfl (by decide +kernel) ⟨by decide, by decide⟩ (Nat.le_of_ble_eq_true rfl) ⟨by decide, by decide⟩ (fun v3 _ => ?_)
  refine tg_iload_n 2 C0 dJ5_charAt_5068e_29 rfl rfl ?_
  refine tg_if_ne 42 C0 dJ5_charAt_5068e_30 (by decide) (fun _ => ?_) (fun _ => ?_)
  · exact tg_none
  · refine tg_aload_n 1 C0 dJ5_charAt_5068e_33 rfl rfl ?_
    refine tg_iload_n 4 C0 dJ5_charAt_5068e_34 rfl rfl ?_
    refine tg_bald 1 C0 dJ5_charAt_5068e_35 (by decide) rfl (fun _ => ?_)
    refine tg_sipush (x := 255) C0 dJ5_charAt_5068e_36 (by decide) ?_
    refine tg_iand C0 dJ5_charAt_5068e_39 ?_
    refine tg_i2c C0 dJ5_charAt_5068e_40 ?_
    exact tg_cret C0 dJ5_charAt_5068e_41
theorem c_J5_charAt_5068e (l : Launch) {adK adV adE : Nat → Nat} {tC : Nat} (κ : Nat) (x1 : Int32) (v : tmM) : tmYi tm_NWC (tm_shB κ) 2 l adK adV adE tC yJ5_charAt_5068e (Cond.code yJ5_charAt_5068e cJ5_charAt_5068e 5 (some .char) :: TMW) ({ frames := 2, cells := 0, slots := 0, locals := 43 } : Room) (fun ad => [.ref (ad 0), .int x1]) v (f_J5_charAt_5068e κ x1 v) := by
  exact tmYi.of (cc := cJ5_charAt_5068e) (nL := 5) (by decide +kernel) rfl tm_NWC_ok (fun _ => Nat.le_of_ble_eq_true rfl) (fun p e s m args below meth c A D cy ad z C0 hE => w_J5_charAt_5068e C0 hE x1 v)
-- ----- J4_length_8abf5
theorem dJ4_length_8abf5_0 : decode cJ4_length_8abf5 0 = .ok (.aload_n 0, 1) := by decide +kernel
theorem dJ4_length_8abf5_1 : decode cJ4_length_8abf5 1 = .ok (.invokespecial 343, 3) := by decide +kernel
theorem dJ4_length_8abf5_4 : decode cJ4_length_8abf5 4 = .ok (.ireturn, 1) := by decide +kernel
theorem tsm_J5_length_8abf5 : Cond.sameMethod yJ5_length_8abf5.cls yJ5_length_8abf5.cls yJ5_length_8abf5.name yJ5_length_8abf5.desc ∈ TMW := tm_in 2156 (by decide +kernel) (by decide +kernel)
theorem tsu_J4_J5 : Cond.superclass RJ4 RJ5 ∈ TMW := tm_in 351 (by decide +kernel) (by decide +kernel)
theorem tl_J4_343 : Cond.methodLink RJ4 343 yJ5_length_8abf5 ∈ TMW := tm_in 798 (by decide +kernel) (by decide +kernel)
theorem ti_J5_length_8abf5 : Cond.instanceMethod yJ5_length_8abf5 ∈ TMW := tm_in 799 (by decide +kernel) (by decide +kernel)
theorem tc_J5_length_8abf5 : Cond.code yJ5_length_8abf5 cJ5_length_8abf5 1 (some .int) ∈ TMW := tm_in 800 (by decide +kernel) (by decide +kernel)
def f_J4_length_8abf5 (κ : Nat) (v : tmM) : Option (Int32 × tmM) := tm_cl (f_J5_length_8abf5 κ v) fun r2 v1 => some (r2, v1)
set_option maxRecDepth 100000 in
set_option maxHeartbeats 4000000 in
theorem w_J4_length_8abf5 {p : Program} {l : Launch} {e : Env} {s : State} {m : MethodId} {args : Array Value} {below : List Frame} {meth : Method} {c : Code} {D : va_G} {cy : Nat → ClassId} {ad : Nat → Nat} {A : Nat → Prop} {adK adV adE : Nat → Nat} {tC : Nat} {z : (Int32 × tmM)} {κ : Nat} (C0 : tmC p s m args meth c cJ4_length_8abf5 1 (some .int) RJ4 TMW tm_NWC D cy (tm_shB κ) ad 2 [] A) (hE : tmSc adK adV adE tC A s s.heap) (v : tmM) : tmG p l e ({ frames := 1, cells := 0, slots := 0, locals := 20 } : Room) s m args below meth c 0 0 (MQ below (va_Qi (fun r u => z = (r, u)) (tmAt (tm_shB κ) 2 D cy ad A) A) args s 0 0 A) 1 D cy (tm_shB κ) ad 2 [] A z 0 [(0, .ref (ad 0))] [] v (f_J4_length_8abf5 κ v) := by
  unfold f_J4_length_8abf5
  refine tg_aload_n 0 C0 dJ4_length_8abf5_0 rfl rfl ?_
  refine tp_callUi (As := []) 0 C0 hE dJ4_length_8abf5_1 (c_J5_length_8abf5 l κ v) rfl rfl (tm_gSU tl_J4_343 tsm_J5_length_8abf5 tsu_J4_J5 ti_J5_length_8abf5 tn_J5 tc_J5_length_8abf5) rfl rfl rfl rfl ⟨by decide, by decide +kernel⟩ ⟨by decide, by decide⟩ (Nat.le_of_ble_eq_true rfl) ⟨by decide, by decide⟩ (fun r2 v1 _ => ?_)
  exact tg_iret C0 dJ4_length_8abf5_4
theorem c_J4_length_8abf5 (l : Launch) {adK adV adE : Nat → Nat} {tC : Nat} (κ : Nat) (v : tmM) : tmYi tm_NWC (tm_shB κ) 2 l adK adV adE tC yJ4_length_8abf5 (Cond.code yJ4_length_8abf5 cJ4_length_8abf5 1 (some .int) :: TMW) ({ frames := 1, cells := 0, slots := 0, locals := 20 } : Room) (fun ad => [.ref (ad 0)]) v (f_J4_length_8abf5 κ v) := by
  exact tmYi.of (cc := cJ4_length_8abf5) (nL := 1) (by decide +kernel) rfl tm_NWC_ok (fun _ => Nat.le_of_ble_eq_true rfl) (fun p e s m args below meth c A D cy ad z C0 hE => w_J4_length_8abf5 C0 hE v)
-- ----- J4_charAt_5068e
theorem dJ4_charAt_5068e_0 : decode cJ4_charAt_5068e 0 = .ok (.aload_n 0, 1) := by decide +kernel
theorem dJ4_charAt_5068e_1 : decode cJ4_charAt_5068e 1 = .ok (.iload_n 1, 1) := by decide +kernel
theorem dJ4_charAt_5068e_2 : decode cJ4_charAt_5068e 2 = .ok (.invokespecial 329, 3) := by decide +kernel
theorem dJ4_charAt_5068e_5 : decode cJ4_charAt_5068e 5 = .ok (.ireturn, 1) := by decide +kernel
theorem tsm_J5_charAt_5068e : Cond.sameMethod yJ5_charAt_5068e.cls yJ5_charAt_5068e.cls yJ5_charAt_5068e.name yJ5_charAt_5068e.desc ∈ TMW := tm_in 2157 (by decide +kernel) (by decide +kernel)
theorem tl_J4_329 : Cond.methodLink RJ4 329 yJ5_charAt_5068e ∈ TMW := tm_in 805 (by decide +kernel) (by decide +kernel)
theorem ti_J5_charAt_5068e : Cond.instanceMethod yJ5_charAt_5068e ∈ TMW := tm_in 806 (by decide +kernel) (by decide +kernel)
theorem tc_J5_charAt_5068e : Cond.code yJ5_charAt_5068e cJ5_charAt_5068e 5 (some .char) ∈ TMW := tm_in 807 (by decide +kernel) (by decide +kernel)
def f_J4_charAt_5068e (κ : Nat) (x1 : Int32) (v : tmM) : Option (Int32 × tmM) := tm_cl (f_J5_charAt_5068e κ x1 v) fun r2 v1 => tm_g (tm_ci r2) (some (r2, v1))
set_option maxRecDepth 100000 in
set_option maxHeartbeats 4000000 in
theorem w_J4_charAt_5068e {p : Program} {l : Launch} {e : Env} {s : State} {m : MethodId} {args : Array Value} {below : List Frame} {meth : Method} {c : Code} {D : va_G} {cy : Nat → ClassId} {ad : Nat → Nat} {A : Nat → Prop} {adK adV adE : Nat → Nat} {tC : Nat} {z : (Int32 × tmM)} {κ : Nat} (C0 : tmC p s m args meth c cJ4_charAt_5068e 2 (some .char) RJ4 TMW tm_NWC D cy (tm_shB κ) ad 2 [] A) (hE : tmSc adK adV adE tC A s s.heap) (x1 : Int32) (v : tmM) : tmG p l e ({ frames := 3, cells := 0, slots := 0, locals := 67 } : Room) s m args below meth c 0 0 (MQ below (va_Qi (fun r u => z = (r, u)) (tmAt (tm_shB κ) 2 D cy ad A) A) args s 0 0 A) 2 D cy (tm_shB κ) ad 2 [] A z 0 [(0, .ref (ad 0)), (1, .int x1)] [] v (f_J4_charAt_5068e κ x1 v) := by
  unfold f_J4_charAt_5068e
  refine tg_aload_n 0 C0 dJ4_charAt_5068e_0 rfl rfl ?_
  refine tg_iload_n 1 C0 dJ4_charAt_5068e_1 rfl rfl ?_
  refine tp_callUi (As := [.int x1]) 1 C0 hE dJ4_charAt_5068e_2 (c_J5_charAt_5068e l κ x1 v) rfl rfl (tm_gSU tl_J4_329 tsm_J5_charAt_5068e tsu_J4_J5 ti_J5_charAt_5068e tn_J5 tc_J5_charAt_5068e) rfl rfl rfl rfl ⟨by decide, by decide +kernel⟩ ⟨by decide, by decide⟩ (Nat.le_of_ble_eq_true rfl) ⟨by decide, by decide⟩ (fun r2 v1 _ => ?_)
  exact tg_cret C0 dJ4_charAt_5068e_5
theorem c_J4_charAt_5068e (l : Launch) {adK adV adE : Nat → Nat} {tC : Nat} (κ : Nat) (x1 : Int32) (v : tmM) : tmYi tm_NWC (tm_shB κ) 2 l adK adV adE tC yJ4_charAt_5068e (Cond.code yJ4_charAt_5068e cJ4_charAt_5068e 2 (some .char) :: TMW) ({ frames := 3, cells := 0, slots := 0, locals := 67 } : Room) (fun ad => [.ref (ad 0), .int x1]) v (f_J4_charAt_5068e κ x1 v) := by
  exact tmYi.of (cc := cJ4_charAt_5068e) (nL := 2) (by decide +kernel) rfl tm_NWC_ok (fun _ => Nat.le_of_ble_eq_true rfl) (fun p e s m args below meth c A D cy ad z C0 hE => w_J4_charAt_5068e C0 hE x1 v)
