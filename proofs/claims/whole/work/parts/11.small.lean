-- ----- X7_isKey
theorem dX7_isKey_0 : decode cX7_isKey 0 = .ok (.iload_n 0, 1) := by decide +kernel
theorem dX7_isKey_1 : decode cX7_isKey 1 = .ok (.ifCond .lt 13, 3) := by decide +kernel
theorem dX7_isKey_4 : decode cX7_isKey 4 = .ok (.iload_n 0, 1) := by decide +kernel
theorem dX7_isKey_5 : decode cX7_isKey 5 = .ok (.bipush 60, 2) := by decide +kernel
theorem dX7_isKey_7 : decode cX7_isKey 7 = .ok (.if_icmp .ge 7, 3) := by decide +kernel
theorem dX7_isKey_10 : decode cX7_isKey 10 = .ok (.iconst 1, 1) := by decide +kernel
theorem dX7_isKey_11 : decode cX7_isKey 11 = .ok (.goto 4, 3) := by decide +kernel
theorem dX7_isKey_14 : decode cX7_isKey 14 = .ok (.iconst 0, 1) := by decide +kernel
theorem dX7_isKey_15 : decode cX7_isKey 15 = .ok (.ireturn, 1) := by decide +kernel
def f_X7_isKey (x0 : Int32) (v : tmM) : Option (Int32 × tmM) := (if x0 < 0 then some (0, v) else (if 60 ≤ x0 then some (0, v) else some (1, v)))
set_option maxRecDepth 100000 in
set_option maxHeartbeats 4000000 in
theorem w_X7_isKey {p : Program} {l : Launch} {e : Env} {s : State} {m : MethodId} {args : Array Value} {below : List Frame} {meth : Method} {c : Code} {D : va_G} {cy : Nat → ClassId} {ad : Nat → Nat} {A : Nat → Prop} {z : (Int32 × tmM)} (C0 : tmC p s m args meth c cX7_isKey 1 (some .boolean) RX7 TMW tm_NWC D cy tm_shC ad 256 [] A) (x0 : Int32) (v : tmM) : tmG p l e ({ frames := 0, cells := 0, slots := 0, locals := 0 } : Room) s m args below meth c 0 0 (MQ below (va_Qi (fun r u => z = (r, u)) (tmAt tm_shC 256 D cy ad A) A) args s 0 0 A) 1 D cy tm_shC ad 256 [] A z 0 [(0, .int x0)] [] v (f_X7_isKey x0 v) := by
  unfold f_X7_isKey
  refine tg_iload_n 0 C0 dX7_isKey_0 rfl rfl ?_
  refine tg_if_lt 14 C0 dX7_isKey_1 (by decide) (fun _ => ?_) (fun _ => ?_)
  · refine tg_iconst (x := 0) C0 dX7_isKey_14 (by decide) ?_
    exact tg_zret C0 dX7_isKey_15 rfl
  · refine tg_iload_n 0 C0 dX7_isKey_4 rfl rfl ?_
    refine tg_bipush (x := 60) C0 dX7_isKey_5 (by decide) ?_
    refine tg_icmp_ge 14 C0 dX7_isKey_7 (by decide) (fun _ => ?_) (fun _ => ?_)
    · refine tg_iconst (x := 0) C0 dX7_isKey_14 (by decide) ?_
      exact tg_zret C0 dX7_isKey_15 rfl
    · refine tg_iconst (x := 1) C0 dX7_isKey_10 (by decide) ?_
      refine tg_goto 15 C0 dX7_isKey_11 (by decide) ?_
      exact tg_zret C0 dX7_isKey_15 rfl
theorem c_X7_isKey (l : Launch) (x0 : Int32) (v : tmM) : tmMi tm_NWC tm_shC 256 l yX7_isKey (Cond.code yX7_isKey cX7_isKey 1 (some .boolean) :: TMW) ({ frames := 0, cells := 0, slots := 0, locals := 0 } : Room) (fun ad => [.int x0]) v (f_X7_isKey x0 v) :=
  tmMi.of (cc := cX7_isKey) (nL := 1) (by decide +kernel) rfl tm_NWC_ok (fun _ => Nat.le_of_ble_eq_true rfl) (fun p e s m args below meth c A D cy ad z C0 => w_X7_isKey C0 x0 v)
-- ----- X7_isRange
theorem dX7_isRange_0 : decode cX7_isRange 0 = .ok (.iload_n 0, 1) := by decide +kernel
theorem dX7_isRange_1 : decode cX7_isRange 1 = .ok (.invokestatic 123, 3) := by decide +kernel
theorem dX7_isRange_4 : decode cX7_isRange 4 = .ok (.ifCond .eq 19, 3) := by decide +kernel
theorem dX7_isRange_7 : decode cX7_isRange 7 = .ok (.iload_n 1, 1) := by decide +kernel
theorem dX7_isRange_8 : decode cX7_isRange 8 = .ok (.invokestatic 123, 3) := by decide +kernel
theorem dX7_isRange_11 : decode cX7_isRange 11 = .ok (.ifCond .eq 12, 3) := by decide +kernel
theorem dX7_isRange_14 : decode cX7_isRange 14 = .ok (.iload_n 0, 1) := by decide +kernel
theorem dX7_isRange_15 : decode cX7_isRange 15 = .ok (.iload_n 1, 1) := by decide +kernel
theorem dX7_isRange_16 : decode cX7_isRange 16 = .ok (.if_icmp .gt 7, 3) := by decide +kernel
theorem dX7_isRange_19 : decode cX7_isRange 19 = .ok (.iconst 1, 1) := by decide +kernel
theorem dX7_isRange_20 : decode cX7_isRange 20 = .ok (.goto 4, 3) := by decide +kernel
theorem dX7_isRange_23 : decode cX7_isRange 23 = .ok (.iconst 0, 1) := by decide +kernel
theorem dX7_isRange_24 : decode cX7_isRange 24 = .ok (.ireturn, 1) := by decide +kernel
theorem tc_X7_isKey : Cond.code yX7_isKey cX7_isKey 1 (some .boolean) ∈ TMW := tm_in 971 (by decide +kernel) (by decide +kernel)
theorem tl_X7_123 : Cond.methodLink RX7 123 yX7_isKey ∈ TMW := tm_in 969 (by decide +kernel) (by decide +kernel)
theorem tn_X7 : Cond.initialized RX7 ∈ TMW := tm_in 110 (by decide +kernel) (by decide +kernel)
theorem tst_X7_isKey : Cond.static yX7_isKey ∈ TMW := tm_in 970 (by decide +kernel) (by decide +kernel)
def f_X7_isRange (x0 x1 : Int32) (v : tmM) : Option (Int32 × tmM) := tm_cl (f_X7_isKey x0 v) fun r2 v1 => (if r2 = 0 then some (0, v1) else tm_cl (f_X7_isKey x1 v1) fun r4 v3 => (if r4 = 0 then some (0, v3) else (if x1 < x0 then some (0, v3) else some (1, v3))))
set_option maxRecDepth 100000 in
set_option maxHeartbeats 4000000 in
theorem w_X7_isRange {p : Program} {l : Launch} {e : Env} {s : State} {m : MethodId} {args : Array Value} {below : List Frame} {meth : Method} {c : Code} {D : va_G} {cy : Nat → ClassId} {ad : Nat → Nat} {A : Nat → Prop} {z : (Int32 × tmM)} (C0 : tmC p s m args meth c cX7_isRange 2 (some .boolean) RX7 TMW tm_NWC D cy tm_shC ad 256 [] A) (x0 x1 : Int32) (v : tmM) : tmG p l e ({ frames := 1, cells := 0, slots := 0, locals := 20 } : Room) s m args below meth c 0 0 (MQ below (va_Qi (fun r u => z = (r, u)) (tmAt tm_shC 256 D cy ad A) A) args s 0 0 A) 2 D cy tm_shC ad 256 [] A z 0 [(0, .int x0), (1, .int x1)] [] v (f_X7_isRange x0 x1 v) := by
  unfold f_X7_isRange
  refine tg_iload_n 0 C0 dX7_isRange_0 rfl rfl ?_
  refine tg_callSi (As := [.int x0]) 1 C0 dX7_isRange_1 (c_X7_isKey l x0 v) rfl rfl (tm_gc tc_X7_isKey) tl_X7_123 tn_X7 tst_X7_isKey  rfl rfl rfl rfl (by decide +kernel) ⟨by decide, by decide⟩ (Nat.le_of_ble_eq_true rfl) ⟨by decide, by decide⟩ (fun r2 v1 _ => ?_)
  refine tg_if_eq 23 C0 dX7_isRange_4 (by decide) (fun _ => ?_) (fun _ => ?_)
  · refine tg_iconst (x := 0) C0 dX7_isRange_23 (by decide) ?_
    exact tg_zret C0 dX7_isRange_24 rfl
  · refine tg_iload_n 1 C0 dX7_isRange_7 rfl rfl ?_
    refine tg_callSi (As := [.int x1]) 1 C0 dX7_isRange_8 (c_X7_isKey l x1 v1) rfl rfl (tm_gc tc_X7_isKey) tl_X7_123 tn_X7 tst_X7_isKey  rfl rfl rfl rfl (by decide +kernel) ⟨by decide, by decide⟩ (Nat.le_of_ble_eq_true rfl) ⟨by decide, by decide⟩ (fun r4 v3 _ => ?_)
    refine tg_if_eq 23 C0 dX7_isRange_11 (by decide) (fun _ => ?_) (fun _ => ?_)
    · refine tg_iconst (x := 0) C0 dX7_isRange_23 (by decide) ?_
      exact tg_zret C0 dX7_isRange_24 rfl
    · refine tg_iload_n 0 C0 dX7_isRange_14 rfl rfl ?_
      refine tg_iload_n 1 C0 dX7_isRange_15 rfl rfl ?_
      refine tg_icmp_gt 23 C0 dX7_isRange_16 (by decide) (fun _ => ?_) (fun _ => ?_)
      · refine tg_iconst (x := 0) C0 dX7_isRange_23 (by decide) ?_
        exact tg_zret C0 dX7_isRange_24 rfl
      · refine tg_iconst (x := 1) C0 dX7_isRange_19 (by decide) ?_
        refine tg_goto 24 C0 dX7_isRange_20 (by decide) ?_
        exact tg_zret C0 dX7_isRange_24 rfl
theorem c_X7_isRange (l : Launch) (x0 x1 : Int32) (v : tmM) : tmMi tm_NWC tm_shC 256 l yX7_isRange (Cond.code yX7_isRange cX7_isRange 2 (some .boolean) :: TMW) ({ frames := 1, cells := 0, slots := 0, locals := 20 } : Room) (fun ad => [.int x0, .int x1]) v (f_X7_isRange x0 x1 v) :=
  tmMi.of (cc := cX7_isRange) (nL := 2) (by decide +kernel) rfl tm_NWC_ok (fun _ => Nat.le_of_ble_eq_true rfl) (fun p e s m args below meth c A D cy ad z C0 => w_X7_isRange C0 x0 x1 v)
-- ----- X7_isChunk
theorem dX7_isChunk_0 : decode cX7_isChunk 0 = .ok (.iload_n 0, 1) := by decide +kernel
theorem dX7_isChunk_1 : decode cX7_isChunk 1 = .ok (.ifCond .lt 13, 3) := by decide +kernel
theorem dX7_isChunk_4 : decode cX7_isChunk 4 = .ok (.iload_n 0, 1) := by decide +kernel
theorem dX7_isChunk_5 : decode cX7_isChunk 5 = .ok (.bipush 15, 2) := by decide +kernel
theorem dX7_isChunk_7 : decode cX7_isChunk 7 = .ok (.if_icmp .ge 7, 3) := by decide +kernel
theorem dX7_isChunk_10 : decode cX7_isChunk 10 = .ok (.iconst 1, 1) := by decide +kernel
theorem dX7_isChunk_11 : decode cX7_isChunk 11 = .ok (.goto 4, 3) := by decide +kernel
theorem dX7_isChunk_14 : decode cX7_isChunk 14 = .ok (.iconst 0, 1) := by decide +kernel
theorem dX7_isChunk_15 : decode cX7_isChunk 15 = .ok (.ireturn, 1) := by decide +kernel
def f_X7_isChunk (x0 : Int32) (v : tmM) : Option (Int32 × tmM) := (if x0 < 0 then some (0, v) else (if 15 ≤ x0 then some (0, v) else some (1, v)))
set_option maxRecDepth 100000 in
set_option maxHeartbeats 4000000 in
theorem w_X7_isChunk {p : Program} {l : Launch} {e : Env} {s : State} {m : MethodId} {args : Array Value} {below : List Frame} {meth : Method} {c : Code} {D : va_G} {cy : Nat → ClassId} {ad : Nat → Nat} {A : Nat → Prop} {z : (Int32 × tmM)} (C0 : tmC p s m args meth c cX7_isChunk 1 (some .boolean) RX7 TMW tm_NWC D cy tm_shC ad 256 [] A) (x0 : Int32) (v : tmM) : tmG p l e ({ frames := 0, cells := 0, slots := 0, locals := 0 } : Room) s m args below meth c 0 0 (MQ below (va_Qi (fun r u => z = (r, u)) (tmAt tm_shC 256 D cy ad A) A) args s 0 0 A) 1 D cy tm_shC ad 256 [] A z 0 [(0, .int x0)] [] v (f_X7_isChunk x0 v) := by
  unfold f_X7_isChunk
  refine tg_iload_n 0 C0 dX7_isChunk_0 rfl rfl ?_
  refine tg_if_lt 14 C0 dX7_isChunk_1 (by decide) (fun _ => ?_) (fun _ => ?_)
  · refine tg_iconst (x := 0) C0 dX7_isChunk_14 (by decide) ?_
    exact tg_zret C0 dX7_isChunk_15 rfl
  · refine tg_iload_n 0 C0 dX7_isChunk_4 rfl rfl ?_
    refine tg_bipush (x := 15) C0 dX7_isChunk_5 (by decide) ?_
    refine tg_icmp_ge 14 C0 dX7_isChunk_7 (by decide) (fun _ => ?_) (fun _ => ?_)
    · refine tg_iconst (x := 0) C0 dX7_isChunk_14 (by decide) ?_
      exact tg_zret C0 dX7_isChunk_15 rfl
    · refine tg_iconst (x := 1) C0 dX7_isChunk_10 (by decide) ?_
      refine tg_goto 15 C0 dX7_isChunk_11 (by decide) ?_
      exact tg_zret C0 dX7_isChunk_15 rfl
theorem c_X7_isChunk (l : Launch) (x0 : Int32) (v : tmM) : tmMi tm_NWC tm_shC 256 l yX7_isChunk (Cond.code yX7_isChunk cX7_isChunk 1 (some .boolean) :: TMW) ({ frames := 0, cells := 0, slots := 0, locals := 0 } : Room) (fun ad => [.int x0]) v (f_X7_isChunk x0 v) :=
  tmMi.of (cc := cX7_isChunk) (nL := 1) (by decide +kernel) rfl tm_NWC_ok (fun _ => Nat.le_of_ble_eq_true rfl) (fun p e s m args below meth c A D cy ad z C0 => w_X7_isChunk C0 x0 v)
-- ----- X7_isReader
theorem dX7_isReader_0 : decode cX7_isReader 0 = .ok (.iload_n 0, 1) := by decide +kernel
theorem dX7_isReader_1 : decode cX7_isReader 1 = .ok (.ifCond .lt 13, 3) := by decide +kernel
theorem dX7_isReader_4 : decode cX7_isReader 4 = .ok (.iload_n 0, 1) := by decide +kernel
theorem dX7_isReader_5 : decode cX7_isReader 5 = .ok (.bipush 8, 2) := by decide +kernel
theorem dX7_isReader_7 : decode cX7_isReader 7 = .ok (.if_icmp .ge 7, 3) := by decide +kernel
theorem dX7_isReader_10 : decode cX7_isReader 10 = .ok (.iconst 1, 1) := by decide +kernel
theorem dX7_isReader_11 : decode cX7_isReader 11 = .ok (.goto 4, 3) := by decide +kernel
theorem dX7_isReader_14 : decode cX7_isReader 14 = .ok (.iconst 0, 1) := by decide +kernel
theorem dX7_isReader_15 : decode cX7_isReader 15 = .ok (.ireturn, 1) := by decide +kernel
def f_X7_isReader (x0 : Int32) (v : tmM) : Option (Int32 × tmM) := (if x0 < 0 then some (0, v) else (if 8 ≤ x0 then some (0, v) else some (1, v)))
set_option maxRecDepth 100000 in
set_option maxHeartbeats 4000000 in
theorem w_X7_isReader {p : Program} {l : Launch} {e : Env} {s : State} {m : MethodId} {args : Array Value} {below : List Frame} {meth : Method} {c : Code} {D : va_G} {cy : Nat → ClassId} {ad : Nat → Nat} {A : Nat → Prop} {z : (Int32 × tmM)} (C0 : tmC p s m args meth c cX7_isReader 1 (some .boolean) RX7 TMW tm_NWC D cy tm_shC ad 256 [] A) (x0 : Int32) (v : tmM) : tmG p l e ({ frames := 0, cells := 0, slots := 0, locals := 0 } : Room) s m args below meth c 0 0 (MQ below (va_Qi (fun r u => z = (r, u)) (tmAt tm_shC 256 D cy ad A) A) args s 0 0 A) 1 D cy tm_shC ad 256 [] A z 0 [(0, .int x0)] [] v (f_X7_isReader x0 v) := by
  unfold f_X7_isReader
  refine tg_iload_n 0 C0 dX7_isReader_0 rfl rfl ?_
  refine tg_if_lt 14 C0 dX7_isReader_1 (by decide) (fun _ => ?_) (fun _ => ?_)
  · refine tg_iconst (x := 0) C0 dX7_isReader_14 (by decide) ?_
    exact tg_zret C0 dX7_isReader_15 rfl
  · refine tg_iload_n 0 C0 dX7_isReader_4 rfl rfl ?_
    refine tg_bipush (x := 8) C0 dX7_isReader_5 (by decide) ?_
    refine tg_icmp_ge 14 C0 dX7_isReader_7 (by decide) (fun _ => ?_) (fun _ => ?_)
    · refine tg_iconst (x := 0) C0 dX7_isReader_14 (by decide) ?_
      exact tg_zret C0 dX7_isReader_15 rfl
    · refine tg_iconst (x := 1) C0 dX7_isReader_10 (by decide) ?_
      refine tg_goto 15 C0 dX7_isReader_11 (by decide) ?_
      exact tg_zret C0 dX7_isReader_15 rfl
theorem c_X7_isReader (l : Launch) (x0 : Int32) (v : tmM) : tmMi tm_NWC tm_shC 256 l yX7_isReader (Cond.code yX7_isReader cX7_isReader 1 (some .boolean) :: TMW) ({ frames := 0, cells := 0, slots := 0, locals := 0 } : Room) (fun ad => [.int x0]) v (f_X7_isReader x0 v) :=
  tmMi.of (cc := cX7_isReader) (nL := 1) (by decide +kernel) rfl tm_NWC_ok (fun _ => Nat.le_of_ble_eq_true rfl) (fun p e s m args below meth c A D cy ad z C0 => w_X7_isReader C0 x0 v)
-- ----- X7_isSide
theorem dX7_isSide_0 : decode cX7_isSide 0 = .ok (.iload_n 0, 1) := by decide +kernel
theorem dX7_isSide_1 : decode cX7_isSide 1 = .ok (.ifCond .eq 8, 3) := by decide +kernel
theorem dX7_isSide_4 : decode cX7_isSide 4 = .ok (.iload_n 0, 1) := by decide +kernel
theorem dX7_isSide_5 : decode cX7_isSide 5 = .ok (.iconst 1, 1) := by decide +kernel
theorem dX7_isSide_6 : decode cX7_isSide 6 = .ok (.if_icmp .ne 7, 3) := by decide +kernel
theorem dX7_isSide_9 : decode cX7_isSide 9 = .ok (.iconst 1, 1) := by decide +kernel
theorem dX7_isSide_10 : decode cX7_isSide 10 = .ok (.goto 4, 3) := by decide +kernel
theorem dX7_isSide_13 : decode cX7_isSide 13 = .ok (.iconst 0, 1) := by decide +kernel
theorem dX7_isSide_14 : decode cX7_isSide 14 = .ok (.ireturn, 1) := by decide +kernel
def f_X7_isSide_9 (v : tmM) : Option (Int32 × tmM) := some (1, v)
set_option maxRecDepth 100000 in
set_option maxHeartbeats 4000000 in
theorem w_X7_isSide_9 {p : Program} {l : Launch} {e : Env} {s : State} {m : MethodId} {args : Array Value} {below : List Frame} {meth : Method} {c : Code} {D : va_G} {cy : Nat → ClassId} {ad : Nat → Nat} {A : Nat → Prop} {z : (Int32 × tmM)} (C0 : tmC p s m args meth c cX7_isSide 1 (some .boolean) RX7 TMW tm_NWC D cy tm_shC ad 256 [] A) (v : tmM) : tmG p l e ({ frames := 0, cells := 0, slots := 0, locals := 0 } : Room) s m args below meth c 0 0 (MQ below (va_Qi (fun r u => z = (r, u)) (tmAt tm_shC 256 D cy ad A) A) args s 0 0 A) 1 D cy tm_shC ad 256 [] A z 9 [] [] v (f_X7_isSide_9 v) := by
  unfold f_X7_isSide_9
  refine tg_iconst (x := 1) C0 dX7_isSide_9 (by decide) ?_
  refine tg_goto 14 C0 dX7_isSide_10 (by decide) ?_
  exact tg_zret C0 dX7_isSide_14 rfl
def f_X7_isSide (x0 : Int32) (v : tmM) : Option (Int32 × tmM) := (if x0 = 0 then f_X7_isSide_9 v else (if x0 = 1 then f_X7_isSide_9 v else some (0, v)))
set_option maxRecDepth 100000 in
set_option maxHeartbeats 4000000 in
theorem w_X7_isSide {p : Program} {l : Launch} {e : Env} {s : State} {m : MethodId} {args : Array Value} {below : List Frame} {meth : Method} {c : Code} {D : va_G} {cy : Nat → ClassId} {ad : Nat → Nat} {A : Nat → Prop} {z : (Int32 × tmM)} (C0 : tmC p s m args meth c cX7_isSide 1 (some .boolean) RX7 TMW tm_NWC D cy tm_shC ad 256 [] A) (x0 : Int32) (v : tmM) : tmG p l e ({ frames := 0, cells := 0, slots := 0, locals := 0 } : Room) s m args below meth c 0 0 (MQ below (va_Qi (fun r u => z = (r, u)) (tmAt tm_shC 256 D cy ad A) A) args s 0 0 A) 1 D cy tm_shC ad 256 [] A z 0 [(0, .int x0)] [] v (f_X7_isSide x0 v) := by
  unfold f_X7_isSide
  refine tg_iload_n 0 C0 dX7_isSide_0 rfl rfl ?_
  refine tg_if_eq 9 C0 dX7_isSide_1 (by decide) (fun _ => ?_) (fun _ => ?_)
  · refine tg_sub [] rfl ?_
    exact w_X7_isSide_9 C0 v
  · refine tg_iload_n 0 C0 dX7_isSide_4 rfl rfl ?_
    refine tg_iconst (x := 1) C0 dX7_isSide_5 (by decide) ?_
    refine tg_icmp_ne 13 C0 dX7_isSide_6 (by decide) (fun _ => ?_) (fun _ => ?_)
    · refine tg_iconst (x := 0) C0 dX7_isSide_13 (by decide) ?_
      exact tg_zret C0 dX7_isSide_14 rfl
    · refine tg_sub [] rfl ?_
      exact w_X7_isSide_9 C0 v
theorem c_X7_isSide (l : Launch) (x0 : Int32) (v : tmM) : tmMi tm_NWC tm_shC 256 l yX7_isSide (Cond.code yX7_isSide cX7_isSide 1 (some .boolean) :: TMW) ({ frames := 0, cells := 0, slots := 0, locals := 0 } : Room) (fun ad => [.int x0]) v (f_X7_isSide x0 v) :=
  tmMi.of (cc := cX7_isSide) (nL := 1) (by decide +kernel) rfl tm_NWC_ok (fun _ => Nat.le_of_ble_eq_true rfl) (fun p e s m args below meth c A D cy ad z C0 => w_X7_isSide C0 x0 v)
-- ----- X7_isSlot
theorem dX7_isSlot_0 : decode cX7_isSlot 0 = .ok (.iload_n 0, 1) := by decide +kernel
theorem dX7_isSlot_1 : decode cX7_isSlot 1 = .ok (.ifCond .lt 12, 3) := by decide +kernel
theorem dX7_isSlot_4 : decode cX7_isSlot 4 = .ok (.iload_n 0, 1) := by decide +kernel
theorem dX7_isSlot_5 : decode cX7_isSlot 5 = .ok (.iconst 2, 1) := by decide +kernel
theorem dX7_isSlot_6 : decode cX7_isSlot 6 = .ok (.if_icmp .ge 7, 3) := by decide +kernel
theorem dX7_isSlot_9 : decode cX7_isSlot 9 = .ok (.iconst 1, 1) := by decide +kernel
theorem dX7_isSlot_10 : decode cX7_isSlot 10 = .ok (.goto 4, 3) := by decide +kernel
theorem dX7_isSlot_13 : decode cX7_isSlot 13 = .ok (.iconst 0, 1) := by decide +kernel
theorem dX7_isSlot_14 : decode cX7_isSlot 14 = .ok (.ireturn, 1) := by decide +kernel
def f_X7_isSlot (x0 : Int32) (v : tmM) : Option (Int32 × tmM) := (if x0 < 0 then some (0, v) else (if 2 ≤ x0 then some (0, v) else some (1, v)))
set_option maxRecDepth 100000 in
set_option maxHeartbeats 4000000 in
theorem w_X7_isSlot {p : Program} {l : Launch} {e : Env} {s : State} {m : MethodId} {args : Array Value} {below : List Frame} {meth : Method} {c : Code} {D : va_G} {cy : Nat → ClassId} {ad : Nat → Nat} {A : Nat → Prop} {z : (Int32 × tmM)} (C0 : tmC p s m args meth c cX7_isSlot 1 (some .boolean) RX7 TMW tm_NWC D cy tm_shC ad 256 [] A) (x0 : Int32) (v : tmM) : tmG p l e ({ frames := 0, cells := 0, slots := 0, locals := 0 } : Room) s m args below meth c 0 0 (MQ below (va_Qi (fun r u => z = (r, u)) (tmAt tm_shC 256 D cy ad A) A) args s 0 0 A) 1 D cy tm_shC ad 256 [] A z 0 [(0, .int x0)] [] v (f_X7_isSlot x0 v) := by
  unfold f_X7_isSlot
  refine tg_iload_n 0 C0 dX7_isSlot_0 rfl rfl ?_
  refine tg_if_lt 13 C0 dX7_isSlot_1 (by decide) (fun _ => ?_) (fun _ => ?_)
  · refine tg_iconst (x := 0) C0 dX7_isSlot_13 (by decide) ?_
    exact tg_zret C0 dX7_isSlot_14 rfl
  · refine tg_iload_n 0 C0 dX7_isSlot_4 rfl rfl ?_
    refine tg_iconst (x := 2) C0 dX7_isSlot_5 (by decide) ?_
    refine tg_icmp_ge 13 C0 dX7_isSlot_6 (by decide) (fun _ => ?_) (fun _ => ?_)
    · refine tg_iconst (x := 0) C0 dX7_isSlot_13 (by decide) ?_
      exact tg_zret C0 dX7_isSlot_14 rfl
    · refine tg_iconst (x := 1) C0 dX7_isSlot_9 (by decide) ?_
      refine tg_goto 14 C0 dX7_isSlot_10 (by decide) ?_
      exact tg_zret C0 dX7_isSlot_14 rfl
theorem c_X7_isSlot (l : Launch) (x0 : Int32) (v : tmM) : tmMi tm_NWC tm_shC 256 l yX7_isSlot (Cond.code yX7_isSlot cX7_isSlot 1 (some .boolean) :: TMW) ({ frames := 0, cells := 0, slots := 0, locals := 0 } : Room) (fun ad => [.int x0]) v (f_X7_isSlot x0 v) :=
  tmMi.of (cc := cX7_isSlot) (nL := 1) (by decide +kernel) rfl tm_NWC_ok (fun _ => Nat.le_of_ble_eq_true rfl) (fun p e s m args below meth c A D cy ad z C0 => w_X7_isSlot C0 x0 v)
-- ----- X7_isValue
theorem dX7_isValue_0 : decode cX7_isValue 0 = .ok (.iload_n 0, 1) := by decide +kernel
theorem dX7_isValue_1 : decode cX7_isValue 1 = .ok (.ifCond .lt 14, 3) := by decide +kernel
theorem dX7_isValue_4 : decode cX7_isValue 4 = .ok (.iload_n 0, 1) := by decide +kernel
theorem dX7_isValue_5 : decode cX7_isValue 5 = .ok (.sipush 999, 3) := by decide +kernel
theorem dX7_isValue_8 : decode cX7_isValue 8 = .ok (.if_icmp .gt 7, 3) := by decide +kernel
theorem dX7_isValue_11 : decode cX7_isValue 11 = .ok (.iconst 1, 1) := by decide +kernel
theorem dX7_isValue_12 : decode cX7_isValue 12 = .ok (.goto 4, 3) := by decide +kernel
theorem dX7_isValue_15 : decode cX7_isValue 15 = .ok (.iconst 0, 1) := by decide +kernel
theorem dX7_isValue_16 : decode cX7_isValue 16 = .ok (.ireturn, 1) := by decide +kernel
def f_X7_isValue (x0 : Int32) (v : tmM) : Option (Int32 × tmM) := (if x0 < 0 then some (0, v) else (if 999 < x0 then some (0, v) else some (1, v)))
set_option maxRecDepth 100000 in
set_option maxHeartbeats 4000000 in
theorem w_X7_isValue {p : Program} {l : Launch} {e : Env} {s : State} {m : MethodId} {args : Array Value} {below : List Frame} {meth : Method} {c : Code} {D : va_G} {cy : Nat → ClassId} {ad : Nat → Nat} {A : Nat → Prop} {z : (Int32 × tmM)} (C0 : tmC p s m args meth c cX7_isValue 1 (some .boolean) RX7 TMW tm_NWC D cy tm_shC ad 256 [] A) (x0 : Int32) (v : tmM) : tmG p l e ({ frames := 0, cells := 0, slots := 0, locals := 0 } : Room) s m args below meth c 0 0 (MQ below (va_Qi (fun r u => z = (r, u)) (tmAt tm_shC 256 D cy ad A) A) args s 0 0 A) 1 D cy tm_shC ad 256 [] A z 0 [(0, .int x0)] [] v (f_X7_isValue x0 v) := by
  unfold f_X7_isValue
  refine tg_iload_n 0 C0 dX7_isValue_0 rfl rfl ?_
  refine tg_if_lt 15 C0 dX7_isValue_1 (by decide) (fun _ => ?_) (fun _ => ?_)
  · refine tg_iconst (x := 0) C0 dX7_isValue_15 (by decide) ?_
    exact tg_zret C0 dX7_isValue_16 rfl
  · refine tg_iload_n 0 C0 dX7_isValue_4 rfl rfl ?_
    refine tg_sipush (x := 999) C0 dX7_isValue_5 (by decide) ?_
    refine tg_icmp_gt 15 C0 dX7_isValue_8 (by decide) (fun _ => ?_) (fun _ => ?_)
    · refine tg_iconst (x := 0) C0 dX7_isValue_15 (by decide) ?_
      exact tg_zret C0 dX7_isValue_16 rfl
    · refine tg_iconst (x := 1) C0 dX7_isValue_11 (by decide) ?_
      refine tg_goto 16 C0 dX7_isValue_12 (by decide) ?_
      exact tg_zret C0 dX7_isValue_16 rfl
theorem c_X7_isValue (l : Launch) (x0 : Int32) (v : tmM) : tmMi tm_NWC tm_shC 256 l yX7_isValue (Cond.code yX7_isValue cX7_isValue 1 (some .boolean) :: TMW) ({ frames := 0, cells := 0, slots := 0, locals := 0 } : Room) (fun ad => [.int x0]) v (f_X7_isValue x0 v) :=
  tmMi.of (cc := cX7_isValue) (nL := 1) (by decide +kernel) rfl tm_NWC_ok (fun _ => Nat.le_of_ble_eq_true rfl) (fun p e s m args below meth c A D cy ad z C0 => w_X7_isValue C0 x0 v)
-- ----- X7_isForm
theorem dX7_isForm_0 : decode cX7_isForm 0 = .ok (.iload_n 0, 1) := by decide +kernel
theorem dX7_isForm_1 : decode cX7_isForm 1 = .ok (.tableswitch 85 0 3 #[31, 41, 58, 75], 31) := by decide +kernel
theorem dX7_isForm_32 : decode cX7_isForm 32 = .ok (.iload_n 1, 1) := by decide +kernel
theorem dX7_isForm_33 : decode cX7_isForm 33 = .ok (.ifCond .ne 7, 3) := by decide +kernel
theorem dX7_isForm_36 : decode cX7_isForm 36 = .ok (.iconst 1, 1) := by decide +kernel
theorem dX7_isForm_37 : decode cX7_isForm 37 = .ok (.goto 4, 3) := by decide +kernel
theorem dX7_isForm_40 : decode cX7_isForm 40 = .ok (.iconst 0, 1) := by decide +kernel
theorem dX7_isForm_41 : decode cX7_isForm 41 = .ok (.ireturn, 1) := by decide +kernel
theorem dX7_isForm_42 : decode cX7_isForm 42 = .ok (.iload_n 1, 1) := by decide +kernel
theorem dX7_isForm_43 : decode cX7_isForm 43 = .ok (.ifCond .lt 14, 3) := by decide +kernel
theorem dX7_isForm_46 : decode cX7_isForm 46 = .ok (.iload_n 1, 1) := by decide +kernel
theorem dX7_isForm_47 : decode cX7_isForm 47 = .ok (.sipush 999, 3) := by decide +kernel
theorem dX7_isForm_50 : decode cX7_isForm 50 = .ok (.if_icmp .gt 7, 3) := by decide +kernel
theorem dX7_isForm_53 : decode cX7_isForm 53 = .ok (.iconst 1, 1) := by decide +kernel
theorem dX7_isForm_54 : decode cX7_isForm 54 = .ok (.goto 4, 3) := by decide +kernel
theorem dX7_isForm_57 : decode cX7_isForm 57 = .ok (.iconst 0, 1) := by decide +kernel
theorem dX7_isForm_58 : decode cX7_isForm 58 = .ok (.ireturn, 1) := by decide +kernel
theorem dX7_isForm_59 : decode cX7_isForm 59 = .ok (.iload_n 1, 1) := by decide +kernel
theorem dX7_isForm_60 : decode cX7_isForm 60 = .ok (.iconst 1, 1) := by decide +kernel
theorem dX7_isForm_61 : decode cX7_isForm 61 = .ok (.if_icmp .lt 13, 3) := by decide +kernel
theorem dX7_isForm_64 : decode cX7_isForm 64 = .ok (.iload_n 1, 1) := by decide +kernel
theorem dX7_isForm_65 : decode cX7_isForm 65 = .ok (.bipush 9, 2) := by decide +kernel
theorem dX7_isForm_67 : decode cX7_isForm 67 = .ok (.if_icmp .gt 7, 3) := by decide +kernel
theorem dX7_isForm_70 : decode cX7_isForm 70 = .ok (.iconst 1, 1) := by decide +kernel
theorem dX7_isForm_71 : decode cX7_isForm 71 = .ok (.goto 4, 3) := by decide +kernel
theorem dX7_isForm_74 : decode cX7_isForm 74 = .ok (.iconst 0, 1) := by decide +kernel
theorem dX7_isForm_75 : decode cX7_isForm 75 = .ok (.ireturn, 1) := by decide +kernel
theorem dX7_isForm_76 : decode cX7_isForm 76 = .ok (.iload_n 1, 1) := by decide +kernel
theorem dX7_isForm_77 : decode cX7_isForm 77 = .ok (.ifCond .ne 7, 3) := by decide +kernel
theorem dX7_isForm_80 : decode cX7_isForm 80 = .ok (.iconst 1, 1) := by decide +kernel
theorem dX7_isForm_81 : decode cX7_isForm 81 = .ok (.goto 4, 3) := by decide +kernel
theorem dX7_isForm_84 : decode cX7_isForm 84 = .ok (.iconst 0, 1) := by decide +kernel
theorem dX7_isForm_85 : decode cX7_isForm 85 = .ok (.ireturn, 1) := by decide +kernel
theorem dX7_isForm_86 : decode cX7_isForm 86 = .ok (.iconst 0, 1) := by decide +kernel
theorem dX7_isForm_87 : decode cX7_isForm 87 = .ok (.ireturn, 1) := by decide +kernel
def f_X7_isForm (x0 x1 : Int32) (v : tmM) : Option (Int32 × tmM) := (if x0 = 0 then (if x1 = 0 then some (1, v) else some (0, v)) else if x0 = 1 then (if x1 < 0 then some (0, v) else (if 999 < x1 then some (0, v) else some (1, v))) else if x0 = 2 then (if x1 < 1 then some (0, v) else (if 9 < x1 then some (0, v) else some (1, v))) else if x0 = 3 then (if x1 = 0 then some (1, v) else some (0, v)) else some (0, v))
set_option maxRecDepth 100000 in
set_option maxHeartbeats 4000000 in
theorem w_X7_isForm {p : Program} {l : Launch} {e : Env} {s : State} {m : MethodId} {args : Array Value} {below : List Frame} {meth : Method} {c : Code} {D : va_G} {cy : Nat → ClassId} {ad : Nat → Nat} {A : Nat → Prop} {z : (Int32 × tmM)} (C0 : tmC p s m args meth c cX7_isForm 2 (some .boolean) RX7 TMW tm_NWC D cy tm_shC ad 256 [] A) (x0 x1 : Int32) (v : tmM) : tmG p l e ({ frames := 0, cells := 0, slots := 0, locals := 0 } : Room) s m args below meth c 0 0 (MQ below (va_Qi (fun r u => z = (r, u)) (tmAt tm_shC 256 D cy ad A) A) args s 0 0 A) 2 D cy tm_shC ad 256 [] A z 0 [(0, .int x0), (1, .int x1)] [] v (f_X7_isForm x0 x1 v) := by
  unfold f_X7_isForm
  refine tg_iload_n 0 C0 dX7_isForm_0 rfl rfl ?_
  refine tg_tab 0 (cst := 0) 32 tg_tab0 C0 dX7_isForm_1 (by decide) rfl (by decide) (by decide) (fun _ => ?_) (fun h1 => ?_)
  · refine tg_iload_n 1 C0 dX7_isForm_32 rfl rfl ?_
    refine tg_if_ne 40 C0 dX7_isForm_33 (by decide) (fun _ => ?_) (fun _ => ?_)
    · refine tg_iconst (x := 0) C0 dX7_isForm_40 (by decide) ?_
      exact tg_zret C0 dX7_isForm_41 rfl
    · refine tg_iconst (x := 1) C0 dX7_isForm_36 (by decide) ?_
      refine tg_goto 41 C0 dX7_isForm_37 (by decide) ?_
      exact tg_zret C0 dX7_isForm_41 rfl
  refine tg_tab 1 (cst := 1) 42 h1 C0 dX7_isForm_1 (by decide) rfl (by decide) (by decide) (fun _ => ?_) (fun h2 => ?_)
  · refine tg_iload_n 1 C0 dX7_isForm_42 rfl rfl ?_
    refine tg_if_lt 57 C0 dX7_isForm_43 (by decide) (fun _ => ?_) (fun _ => ?_)
    · refine tg_iconst (x := 0) C0 dX7_isForm_57 (by decide) ?_
      exact tg_zret C0 dX7_isForm_58 rfl
    · refine tg_iload_n 1 C0 dX7_isForm_46 rfl rfl ?_
      refine tg_sipush (x := 999) C0 dX7_isForm_47 (by decide) ?_
      refine tg_icmp_gt 57 C0 dX7_isForm_50 (by decide) (fun _ => ?_) (fun _ => ?_)
      · refine tg_iconst (x := 0) C0 dX7_isForm_57 (by decide) ?_
        exact tg_zret C0 dX7_isForm_58 rfl
      · refine tg_iconst (x := 1) C0 dX7_isForm_53 (by decide) ?_
        refine tg_goto 58 C0 dX7_isForm_54 (by decide) ?_
        exact tg_zret C0 dX7_isForm_58 rfl
  refine tg_tab 2 (cst := 2) 59 h2 C0 dX7_isForm_1 (by decide) rfl (by decide) (by decide) (fun _ => ?_) (fun h3 => ?_)
  · refine tg_iload_n 1 C0 dX7_isForm_59 rfl rfl ?_
    refine tg_iconst (x := 1) C0 dX7_isForm_60 (by decide) ?_
    refine tg_icmp_lt 74 C0 dX7_isForm_61 (by decide) (fun _ => ?_) (fun _ => ?_)
    · refine tg_iconst (x := 0) C0 dX7_isForm_74 (by decide) ?_
      exact tg_zret C0 dX7_isForm_75 rfl
    · refine tg_iload_n 1 C0 dX7_isForm_64 rfl rfl ?_
      refine tg_bipush (x := 9) C0 dX7_isForm_65 (by decide) ?_
      refine tg_icmp_gt 74 C0 dX7_isForm_67 (by decide) (fun _ => ?_) (fun _ => ?_)
      · refine tg_iconst (x := 0) C0 dX7_isForm_74 (by decide) ?_
        exact tg_zret C0 dX7_isForm_75 rfl
      · refine tg_iconst (x := 1) C0 dX7_isForm_70 (by decide) ?_
        refine tg_goto 75 C0 dX7_isForm_71 (by decide) ?_
        exact tg_zret C0 dX7_isForm_75 rfl
  refine tg_tab 3 (cst := 3) 76 h3 C0 dX7_isForm_1 (by decide) rfl (by decide) (by decide) (fun _ => ?_) (fun h4 => ?_)
  · refine tg_iload_n 1 C0 dX7_isForm_76 rfl rfl ?_
    refine tg_if_ne 84 C0 dX7_isForm_77 (by decide) (fun _ => ?_) (fun _ => ?_)
    · refine tg_iconst (x := 0) C0 dX7_isForm_84 (by decide) ?_
      exact tg_zret C0 dX7_isForm_85 rfl
    · refine tg_iconst (x := 1) C0 dX7_isForm_80 (by decide) ?_
      refine tg_goto 85 C0 dX7_isForm_81 (by decide) ?_
      exact tg_zret C0 dX7_isForm_85 rfl
  refine tg_tabO 4 86 h4 C0 dX7_isForm_1 (by decide) (by decide) ?_
  refine tg_iconst (x := 0) C0 dX7_isForm_86 (by decide) ?_
  exact tg_zret C0 dX7_isForm_87 rfl
theorem c_X7_isForm (l : Launch) (x0 x1 : Int32) (v : tmM) : tmMi tm_NWC tm_shC 256 l yX7_isForm (Cond.code yX7_isForm cX7_isForm 2 (some .boolean) :: TMW) ({ frames := 0, cells := 0, slots := 0, locals := 0 } : Room) (fun ad => [.int x0, .int x1]) v (f_X7_isForm x0 x1 v) :=
  tmMi.of (cc := cX7_isForm) (nL := 2) (by decide +kernel) rfl tm_NWC_ok (fun _ => Nat.le_of_ble_eq_true rfl) (fun p e s m args below meth c A D cy ad z C0 => w_X7_isForm C0 x0 x1 v)
-- ----- X7_firstKey
theorem dX7_firstKey_0 : decode cX7_firstKey 0 = .ok (.iload_n 0, 1) := by decide +kernel
theorem dX7_firstKey_1 : decode cX7_firstKey 1 = .ok (.iconst 4, 1) := by decide +kernel
theorem dX7_firstKey_2 : decode cX7_firstKey 2 = .ok (.imul, 1) := by decide +kernel
theorem dX7_firstKey_3 : decode cX7_firstKey 3 = .ok (.ireturn, 1) := by decide +kernel
def f_X7_firstKey (x0 : Int32) (v : tmM) : Option (Int32 × tmM) := some (x0 * 4, v)
set_option maxRecDepth 100000 in
set_option maxHeartbeats 4000000 in
theorem w_X7_firstKey {p : Program} {l : Launch} {e : Env} {s : State} {m : MethodId} {args : Array Value} {below : List Frame} {meth : Method} {c : Code} {D : va_G} {cy : Nat → ClassId} {ad : Nat → Nat} {A : Nat → Prop} {z : (Int32 × tmM)} (C0 : tmC p s m args meth c cX7_firstKey 1 (some .int) RX7 TMW tm_NWC D cy tm_shC ad 256 [] A) (x0 : Int32) (v : tmM) : tmG p l e ({ frames := 0, cells := 0, slots := 0, locals := 0 } : Room) s m args below meth c 0 0 (MQ below (va_Qi (fun r u => z = (r, u)) (tmAt tm_shC 256 D cy ad A) A) args s 0 0 A) 1 D cy tm_shC ad 256 [] A z 0 [(0, .int x0)] [] v (f_X7_firstKey x0 v) := by
  unfold f_X7_firstKey
  refine tg_iload_n 0 C0 dX7_firstKey_0 rfl rfl ?_
  refine tg_iconst (x := 4) C0 dX7_firstKey_1 (by decide) ?_
  refine tg_imul C0 dX7_firstKey_2 ?_
  exact tg_iret C0 dX7_firstKey_3
theorem c_X7_firstKey (l : Launch) (x0 : Int32) (v : tmM) : tmMi tm_NWC tm_shC 256 l yX7_firstKey (Cond.code yX7_firstKey cX7_firstKey 1 (some .int) :: TMW) ({ frames := 0, cells := 0, slots := 0, locals := 0 } : Room) (fun ad => [.int x0]) v (f_X7_firstKey x0 v) :=
  tmMi.of (cc := cX7_firstKey) (nL := 1) (by decide +kernel) rfl tm_NWC_ok (fun _ => Nat.le_of_ble_eq_true rfl) (fun p e s m args below meth c A D cy ad z C0 => w_X7_firstKey C0 x0 v)
-- ----- X7_lastKey
theorem dX7_lastKey_0 : decode cX7_lastKey 0 = .ok (.iload_n 0, 1) := by decide +kernel
theorem dX7_lastKey_1 : decode cX7_lastKey 1 = .ok (.iconst 4, 1) := by decide +kernel
theorem dX7_lastKey_2 : decode cX7_lastKey 2 = .ok (.imul, 1) := by decide +kernel
theorem dX7_lastKey_3 : decode cX7_lastKey 3 = .ok (.iconst 4, 1) := by decide +kernel
theorem dX7_lastKey_4 : decode cX7_lastKey 4 = .ok (.iadd, 1) := by decide +kernel
theorem dX7_lastKey_5 : decode cX7_lastKey 5 = .ok (.iconst 1, 1) := by decide +kernel
theorem dX7_lastKey_6 : decode cX7_lastKey 6 = .ok (.isub, 1) := by decide +kernel
theorem dX7_lastKey_7 : decode cX7_lastKey 7 = .ok (.ireturn, 1) := by decide +kernel
def f_X7_lastKey (x0 : Int32) (v : tmM) : Option (Int32 × tmM) := some (((x0 * 4) + 4) - 1, v)
set_option maxRecDepth 100000 in
set_option maxHeartbeats 4000000 in
theorem w_X7_lastKey {p : Program} {l : Launch} {e : Env} {s : State} {m : MethodId} {args : Array Value} {below : List Frame} {meth : Method} {c : Code} {D : va_G} {cy : Nat → ClassId} {ad : Nat → Nat} {A : Nat → Prop} {z : (Int32 × tmM)} (C0 : tmC p s m args meth c cX7_lastKey 1 (some .int) RX7 TMW tm_NWC D cy tm_shC ad 256 [] A) (x0 : Int32) (v : tmM) : tmG p l e ({ frames := 0, cells := 0, slots := 0, locals := 0 } : Room) s m args below meth c 0 0 (MQ below (va_Qi (fun r u => z = (r, u)) (tmAt tm_shC 256 D cy ad A) A) args s 0 0 A) 1 D cy tm_shC ad 256 [] A z 0 [(0, .int x0)] [] v (f_X7_lastKey x0 v) := by
  unfold f_X7_lastKey
  refine tg_iload_n 0 C0 dX7_lastKey_0 rfl rfl ?_
  refine tg_iconst (x := 4) C0 dX7_lastKey_1 (by decide) ?_
  refine tg_imul C0 dX7_lastKey_2 ?_
  refine tg_iconst (x := 4) C0 dX7_lastKey_3 (by decide) ?_
  refine tg_iadd C0 dX7_lastKey_4 ?_
  refine tg_iconst (x := 1) C0 dX7_lastKey_5 (by decide) ?_
  refine tg_isub C0 dX7_lastKey_6 ?_
  exact tg_iret C0 dX7_lastKey_7
theorem c_X7_lastKey (l : Launch) (x0 : Int32) (v : tmM) : tmMi tm_NWC tm_shC 256 l yX7_lastKey (Cond.code yX7_lastKey cX7_lastKey 1 (some .int) :: TMW) ({ frames := 0, cells := 0, slots := 0, locals := 0 } : Room) (fun ad => [.int x0]) v (f_X7_lastKey x0 v) :=
  tmMi.of (cc := cX7_lastKey) (nL := 1) (by decide +kernel) rfl tm_NWC_ok (fun _ => Nat.le_of_ble_eq_true rfl) (fun p e s m args below meth c A D cy ad z C0 => w_X7_lastKey C0 x0 v)
-- ----- X7_has
theorem dX7_has_0 : decode cX7_has 0 = .ok (.iload_n 0, 1) := by decide +kernel
theorem dX7_has_1 : decode cX7_has 1 = .ok (.iload_n 1, 1) := by decide +kernel
theorem dX7_has_2 : decode cX7_has 2 = .ok (.ishr, 1) := by decide +kernel
theorem dX7_has_3 : decode cX7_has 3 = .ok (.iconst 1, 1) := by decide +kernel
theorem dX7_has_4 : decode cX7_has 4 = .ok (.iand, 1) := by decide +kernel
theorem dX7_has_5 : decode cX7_has 5 = .ok (.iconst 1, 1) := by decide +kernel
theorem dX7_has_6 : decode cX7_has 6 = .ok (.if_icmp .ne 7, 3) := by decide +kernel
theorem dX7_has_9 : decode cX7_has 9 = .ok (.iconst 1, 1) := by decide +kernel
theorem dX7_has_10 : decode cX7_has 10 = .ok (.goto 4, 3) := by decide +kernel
theorem dX7_has_13 : decode cX7_has 13 = .ok (.iconst 0, 1) := by decide +kernel
theorem dX7_has_14 : decode cX7_has 14 = .ok (.ireturn, 1) := by decide +kernel
def f_X7_has (x0 x1 : Int32) (v : tmM) : Option (Int32 × tmM) := (if ((x0 >>> (x1 &&& 31)) &&& 1) = 1 then some (1, v) else some (0, v))
set_option maxRecDepth 100000 in
set_option maxHeartbeats 4000000 in
theorem w_X7_has {p : Program} {l : Launch} {e : Env} {s : State} {m : MethodId} {args : Array Value} {below : List Frame} {meth : Method} {c : Code} {D : va_G} {cy : Nat → ClassId} {ad : Nat → Nat} {A : Nat → Prop} {z : (Int32 × tmM)} (C0 : tmC p s m args meth c cX7_has 2 (some .boolean) RX7 TMW tm_NWC D cy tm_shC ad 256 [] A) (x0 x1 : Int32) (v : tmM) : tmG p l e ({ frames := 0, cells := 0, slots := 0, locals := 0 } : Room) s m args below meth c 0 0 (MQ below (va_Qi (fun r u => z = (r, u)) (tmAt tm_shC 256 D cy ad A) A) args s 0 0 A) 2 D cy tm_shC ad 256 [] A z 0 [(0, .int x0), (1, .int x1)] [] v (f_X7_has x0 x1 v) := by
  unfold f_X7_has
  refine tg_iload_n 0 C0 dX7_has_0 rfl rfl ?_
  refine tg_iload_n 1 C0 dX7_has_1 rfl rfl ?_
  refine tg_ishr C0 dX7_has_2 ?_
  refine tg_iconst (x := 1) C0 dX7_has_3 (by decide) ?_
  refine tg_iand C0 dX7_has_4 ?_
  refine tg_iconst (x := 1) C0 dX7_has_5 (by decide) ?_
  refine tg_icmp_ne 13 C0 dX7_has_6 (by decide) (fun _ => ?_) (fun _ => ?_)
  · refine tg_iconst (x := 0) C0 dX7_has_13 (by decide) ?_
    exact tg_zret C0 dX7_has_14 rfl
  · refine tg_iconst (x := 1) C0 dX7_has_9 (by decide) ?_
    refine tg_goto 14 C0 dX7_has_10 (by decide) ?_
    exact tg_zret C0 dX7_has_14 rfl
theorem c_X7_has (l : Launch) (x0 x1 : Int32) (v : tmM) : tmMi tm_NWC tm_shC 256 l yX7_has (Cond.code yX7_has cX7_has 2 (some .boolean) :: TMW) ({ frames := 0, cells := 0, slots := 0, locals := 0 } : Room) (fun ad => [.int x0, .int x1]) v (f_X7_has x0 x1 v) :=
  tmMi.of (cc := cX7_has) (nL := 2) (by decide +kernel) rfl tm_NWC_ok (fun _ => Nat.le_of_ble_eq_true rfl) (fun p e s m args below meth c A D cy ad z C0 => w_X7_has C0 x0 x1 v)
-- ----- X7_lowestMissing
theorem dX7_lowestMissing_0 : decode cX7_lowestMissing 0 = .ok (.iconst 0, 1) := by decide +kernel
theorem dX7_lowestMissing_1 : decode cX7_lowestMissing 1 = .ok (.istore_n 2, 1) := by decide +kernel
theorem dX7_lowestMissing_2 : decode cX7_lowestMissing 2 = .ok (.iload_n 2, 1) := by decide +kernel
theorem dX7_lowestMissing_3 : decode cX7_lowestMissing 3 = .ok (.iload_n 1, 1) := by decide +kernel
theorem dX7_lowestMissing_4 : decode cX7_lowestMissing 4 = .ok (.if_icmp .ge 19, 3) := by decide +kernel
theorem dX7_lowestMissing_7 : decode cX7_lowestMissing 7 = .ok (.iload_n 0, 1) := by decide +kernel
theorem dX7_lowestMissing_8 : decode cX7_lowestMissing 8 = .ok (.iload_n 2, 1) := by decide +kernel
theorem dX7_lowestMissing_9 : decode cX7_lowestMissing 9 = .ok (.invokestatic 120, 3) := by decide +kernel
theorem dX7_lowestMissing_12 : decode cX7_lowestMissing 12 = .ok (.ifCond .ne 5, 3) := by decide +kernel
theorem dX7_lowestMissing_15 : decode cX7_lowestMissing 15 = .ok (.iload_n 2, 1) := by decide +kernel
theorem dX7_lowestMissing_16 : decode cX7_lowestMissing 16 = .ok (.ireturn, 1) := by decide +kernel
theorem dX7_lowestMissing_17 : decode cX7_lowestMissing 17 = .ok (.iinc 2 1, 3) := by decide +kernel
theorem dX7_lowestMissing_20 : decode cX7_lowestMissing 20 = .ok (.goto (-18), 3) := by decide +kernel
theorem dX7_lowestMissing_23 : decode cX7_lowestMissing 23 = .ok (.iconst (-1), 1) := by decide +kernel
theorem dX7_lowestMissing_24 : decode cX7_lowestMissing 24 = .ok (.ireturn, 1) := by decide +kernel
theorem tc_X7_has : Cond.code yX7_has cX7_has 2 (some .boolean) ∈ TMW := tm_in 492 (by decide +kernel) (by decide +kernel)
theorem tl_X7_120 : Cond.methodLink RX7 120 yX7_has ∈ TMW := tm_in 747 (by decide +kernel) (by decide +kernel)
theorem tst_X7_has : Cond.static yX7_has ∈ TMW := tm_in 491 (by decide +kernel) (by decide +kernel)
def f_X7_lowestMissing_2b (K0 : tmM → Option (Int32 × tmM)) (L : Int32 → Int32 → Int32 → tmM → Option (Int32 × tmM)) (x0 x1 x2 : Int32) (v : tmM) : Option (Int32 × tmM) := (if x1 ≤ x2 then K0 v else tm_cl (f_X7_has x0 x2 v) fun r2 v1 => (if r2 = 0 then some (x2, v1) else L x0 x1 (x2 + 1) v1))
set_option maxRecDepth 100000 in
set_option maxHeartbeats 4000000 in
theorem w_X7_lowestMissing_2b {p : Program} {l : Launch} {e : Env} {s : State} {m : MethodId} {args : Array Value} {below : List Frame} {meth : Method} {c : Code} {D : va_G} {cy : Nat → ClassId} {ad : Nat → Nat} {A : Nat → Prop} {z : (Int32 × tmM)} {K0 : tmM → Option (Int32 × tmM)} {L : Int32 → Int32 → Int32 → tmM → Option (Int32 × tmM)} (C0 : tmC p s m args meth c cX7_lowestMissing 3 (some .int) RX7 TMW tm_NWC D cy tm_shC ad 256 [] A) (hK0 : ∀ (w : tmM), tmG p l e ({ frames := 1, cells := 0, slots := 0, locals := 21 } : Room) s m args below meth c 0 0 (MQ below (va_Qi (fun r u => z = (r, u)) (tmAt tm_shC 256 D cy ad A) A) args s 0 0 A) 3 D cy tm_shC ad 256 [] A z 23 [] [] w (K0 w)) (hL : ∀ (a0 a1 a2 : Int32) (w : tmM), tmG p l e ({ frames := 1, cells := 0, slots := 0, locals := 21 } : Room) s m args below meth c 0 0 (MQ below (va_Qi (fun r u => z = (r, u)) (tmAt tm_shC 256 D cy ad A) A) args s 0 0 A) 3 D cy tm_shC ad 256 [] A z 2 [(0, .int a0), (1, .int a1), (2, .int a2)] [] w (L a0 a1 a2 w)) (x0 x1 x2 : Int32) (v : tmM) : tmG p l e ({ frames := 1, cells := 0, slots := 0, locals := 21 } : Room) s m args below meth c 0 0 (MQ below (va_Qi (fun r u => z = (r, u)) (tmAt tm_shC 256 D cy ad A) A) args s 0 0 A) 3 D cy tm_shC ad 256 [] A z 2 [(0, .int x0), (1, .int x1), (2, .int x2)] [] v (f_X7_lowestMissing_2b K0 L x0 x1 x2 v) := by
  unfold f_X7_lowestMissing_2b
  refine tg_iload_n 2 C0 dX7_lowestMissing_2 rfl rfl ?_
  refine tg_iload_n 1 C0 dX7_lowestMissing_3 rfl rfl ?_
  refine tg_icmp_ge 23 C0 dX7_lowestMissing_4 (by decide) (fun _ => ?_) (fun _ => ?_)
  · refine tg_sub [] rfl ?_
    exact hK0 v
  · refine tg_iload_n 0 C0 dX7_lowestMissing_7 rfl rfl ?_
    refine tg_iload_n 2 C0 dX7_lowestMissing_8 rfl rfl ?_
    refine tg_callSi (As := [.int x0, .int x2]) 2 C0 dX7_lowestMissing_9 (c_X7_has l x0 x2 v) rfl rfl (tm_gc tc_X7_has) tl_X7_120 tn_X7 tst_X7_has  rfl rfl rfl rfl (by decide +kernel) ⟨by decide, by decide⟩ (Nat.le_of_ble_eq_true rfl) ⟨by decide, by decide⟩ (fun r2 v1 _ => ?_)
    refine tg_if_ne 17 C0 dX7_lowestMissing_12 (by decide) (fun _ => ?_) (fun _ => ?_)
    · refine tg_iinc [(2, .int (x2 + 1)), (0, .int x0), (1, .int x1)] 2 C0 dX7_lowestMissing_17 rfl rfl (by decide) rfl ?_
      refine tg_goto 2 C0 dX7_lowestMissing_20 (by decide) ?_
      refine tg_sub [1, 2, 0] rfl ?_
      exact hL x0 x1 (x2 + 1) v1
    · refine tg_iload_n 2 C0 dX7_lowestMissing_15 rfl rfl ?_
      exact tg_iret C0 dX7_lowestMissing_16
def f_X7_lowestMissing_2 (K0 : tmM → Option (Int32 × tmM)) : Nat → Int32 → Int32 → Int32 → tmM → Option (Int32 × tmM)
  | 0 => fun _ _ _ _ => none
  | n + 1 => f_X7_lowestMissing_2b K0 (f_X7_lowestMissing_2 K0 n)
theorem w_X7_lowestMissing_2 {p : Program} {l : Launch} {e : Env} {s : State} {m : MethodId} {args : Array Value} {below : List Frame} {meth : Method} {c : Code} {D : va_G} {cy : Nat → ClassId} {ad : Nat → Nat} {A : Nat → Prop} {z : (Int32 × tmM)} {K0 : tmM → Option (Int32 × tmM)} (C0 : tmC p s m args meth c cX7_lowestMissing 3 (some .int) RX7 TMW tm_NWC D cy tm_shC ad 256 [] A) (hK0 : ∀ (w : tmM), tmG p l e ({ frames := 1, cells := 0, slots := 0, locals := 21 } : Room) s m args below meth c 0 0 (MQ below (va_Qi (fun r u => z = (r, u)) (tmAt tm_shC 256 D cy ad A) A) args s 0 0 A) 3 D cy tm_shC ad 256 [] A z 23 [] [] w (K0 w)) (nn : Nat) : ∀ (x0 x1 x2 : Int32) (v : tmM), tmG p l e ({ frames := 1, cells := 0, slots := 0, locals := 21 } : Room) s m args below meth c 0 0 (MQ below (va_Qi (fun r u => z = (r, u)) (tmAt tm_shC 256 D cy ad A) A) args s 0 0 A) 3 D cy tm_shC ad 256 [] A z 2 [(0, .int x0), (1, .int x1), (2, .int x2)] [] v (f_X7_lowestMissing_2 K0 nn x0 x1 x2 v) := by
  induction nn with
  | zero => intro _ _ _ _; exact tg_none
  | succ n ih => intro x0 x1 x2 v; exact w_X7_lowestMissing_2b C0 hK0 ih x0 x1 x2 v
def f_X7_lowestMissing (x0 x1 : Int32) (v : tmM) : Option (Int32 × tmM) := f_X7_lowestMissing_2 (fun v3 => some ((-1), v3)) 10000 x0 x1 0 v
set_option maxRecDepth 100000 in
set_option maxHeartbeats 4000000 in
theorem w_X7_lowestMissing {p : Program} {l : Launch} {e : Env} {s : State} {m : MethodId} {args : Array Value} {below : List Frame} {meth : Method} {c : Code} {D : va_G} {cy : Nat → ClassId} {ad : Nat → Nat} {A : Nat → Prop} {z : (Int32 × tmM)} (C0 : tmC p s m args meth c cX7_lowestMissing 3 (some .int) RX7 TMW tm_NWC D cy tm_shC ad 256 [] A) (x0 x1 : Int32) (v : tmM) : tmG p l e ({ frames := 1, cells := 0, slots := 0, locals := 21 } : Room) s m args below meth c 0 0 (MQ below (va_Qi (fun r u => z = (r, u)) (tmAt tm_shC 256 D cy ad A) A) args s 0 0 A) 3 D cy tm_shC ad 256 [] A z 0 [(0, .int x0), (1, .int x1)] [] v (f_X7_lowestMissing x0 x1 v) := by
  unfold f_X7_lowestMissing
  refine tg_iconst (x := 0) C0 dX7_lowestMissing_0 (by decide) ?_
  refine tg_istore_n [(2, .int 0), (0, .int x0), (1, .int x1)] C0 dX7_lowestMissing_1 rfl (by decide) rfl ?_
  refine tg_sub [1, 2, 0] rfl ?_
  refine w_X7_lowestMissing_2 C0 (fun v3 => ?_) 10000 x0 x1 0 v
  refine tg_iconst (x := (-1)) C0 dX7_lowestMissing_23 (by decide) ?_
  exact tg_iret C0 dX7_lowestMissing_24
theorem c_X7_lowestMissing (l : Launch) (x0 x1 : Int32) (v : tmM) : tmMi tm_NWC tm_shC 256 l yX7_lowestMissing (Cond.code yX7_lowestMissing cX7_lowestMissing 3 (some .int) :: TMW) ({ frames := 1, cells := 0, slots := 0, locals := 21 } : Room) (fun ad => [.int x0, .int x1]) v (f_X7_lowestMissing x0 x1 v) :=
  tmMi.of (cc := cX7_lowestMissing) (nL := 3) (by decide +kernel) rfl tm_NWC_ok (fun _ => Nat.le_of_ble_eq_true rfl) (fun p e s m args below meth c A D cy ad z C0 => w_X7_lowestMissing C0 x0 x1 v)
