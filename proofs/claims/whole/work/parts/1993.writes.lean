theorem dX7_write_0 : decode cX7_write 0 = .ok (.iload_n 1, 1) := by decide +kernel
theorem dX7_write_1 : decode cX7_write 1 = .ok (.invokestatic 189, 3) := by decide +kernel
theorem dX7_write_4 : decode cX7_write 4 = .ok (.invokestatic 114, 3) := by decide +kernel
theorem dX7_write_7 : decode cX7_write 7 = .ok (.aload_n 0, 1) := by decide +kernel
theorem dX7_write_8 : decode cX7_write 8 = .ok (.getfield 37, 3) := by decide +kernel
theorem dX7_write_11 : decode cX7_write 11 = .ok (.iconst 0, 1) := by decide +kernel
theorem dX7_write_12 : decode cX7_write 12 = .ok (.invokevirtual 277, 3) := by decide +kernel
theorem dX7_write_15 : decode cX7_write 15 = .ok (.aload_n 0, 1) := by decide +kernel
theorem dX7_write_16 : decode cX7_write 16 = .ok (.getfield 37, 3) := by decide +kernel
theorem dX7_write_19 : decode cX7_write 19 = .ok (.iload_n 1, 1) := by decide +kernel
theorem dX7_write_20 : decode cX7_write 20 = .ok (.invokevirtual 281, 3) := by decide +kernel
theorem dX7_write_23 : decode cX7_write 23 = .ok (.pop, 1) := by decide +kernel
theorem dX7_write_24 : decode cX7_write 24 = .ok (.aload_n 0, 1) := by decide +kernel
theorem dX7_write_25 : decode cX7_write 25 = .ok (.getfield 12, 3) := by decide +kernel
theorem dX7_write_28 : decode cX7_write 28 = .ok (.getfield 134, 3) := by decide +kernel
theorem dX7_write_31 : decode cX7_write 31 = .ok (.iload_n 1, 1) := by decide +kernel
theorem dX7_write_32 : decode cX7_write 32 = .ok (.invokestatic 120, 3) := by decide +kernel
theorem dX7_write_35 : decode cX7_write 35 = .ok (.ifCond .eq 14, 3) := by decide +kernel
theorem dX7_write_38 : decode cX7_write 38 = .ok (.aload_n 0, 1) := by decide +kernel
theorem dX7_write_39 : decode cX7_write 39 = .ok (.getfield 37, 3) := by decide +kernel
theorem dX7_write_42 : decode cX7_write 42 = .ok (.ldc_w 285, 3) := by decide +kernel
theorem dX7_write_45 : decode cX7_write 45 = .ok (.invokevirtual 287, 3) := by decide +kernel
theorem dX7_write_48 : decode cX7_write 48 = .ok (.pop, 1) := by decide +kernel
theorem dX7_write_49 : decode cX7_write 49 = .ok (.aload_n 0, 1) := by decide +kernel
theorem dX7_write_50 : decode cX7_write 50 = .ok (.getfield 12, 3) := by decide +kernel
theorem dX7_write_53 : decode cX7_write 53 = .ok (.getfield 142, 3) := by decide +kernel
theorem dX7_write_56 : decode cX7_write 56 = .ok (.iload_n 1, 1) := by decide +kernel
theorem dX7_write_57 : decode cX7_write 57 = .ok (.invokestatic 120, 3) := by decide +kernel
theorem dX7_write_60 : decode cX7_write 60 = .ok (.ifCond .eq 14, 3) := by decide +kernel
theorem dX7_write_63 : decode cX7_write 63 = .ok (.aload_n 0, 1) := by decide +kernel
theorem dX7_write_64 : decode cX7_write 64 = .ok (.getfield 37, 3) := by decide +kernel
theorem dX7_write_67 : decode cX7_write 67 = .ok (.ldc_w 290, 3) := by decide +kernel
theorem dX7_write_70 : decode cX7_write 70 = .ok (.invokevirtual 287, 3) := by decide +kernel
theorem dX7_write_73 : decode cX7_write 73 = .ok (.pop, 1) := by decide +kernel
theorem dX7_write_74 : decode cX7_write 74 = .ok (.iload_n 1, 1) := by decide +kernel
theorem dX7_write_75 : decode cX7_write 75 = .ok (.invokestatic 292, 3) := by decide +kernel
theorem dX7_write_78 : decode cX7_write 78 = .ok (.istore_n 2, 1) := by decide +kernel
theorem dX7_write_79 : decode cX7_write 79 = .ok (.iload_n 2, 1) := by decide +kernel
theorem dX7_write_80 : decode cX7_write 80 = .ok (.iload_n 1, 1) := by decide +kernel
theorem dX7_write_81 : decode cX7_write 81 = .ok (.invokestatic 295, 3) := by decide +kernel
theorem dX7_write_84 : decode cX7_write 84 = .ok (.if_icmp .gt 28, 3) := by decide +kernel
theorem dX7_write_87 : decode cX7_write 87 = .ok (.aload_n 0, 1) := by decide +kernel
theorem dX7_write_88 : decode cX7_write 88 = .ok (.getfield 12, 3) := by decide +kernel
theorem dX7_write_91 : decode cX7_write 91 = .ok (.getfield 98, 3) := by decide +kernel
theorem dX7_write_94 : decode cX7_write 94 = .ok (.iload_n 2, 1) := by decide +kernel
theorem dX7_write_95 : decode cX7_write 95 = .ok (.invokevirtual 255, 3) := by decide +kernel
theorem dX7_write_98 : decode cX7_write 98 = .ok (.ifCond .eq 8, 3) := by decide +kernel
theorem dX7_write_101 : decode cX7_write 101 = .ok (.aload_n 0, 1) := by decide +kernel
theorem dX7_write_102 : decode cX7_write 102 = .ok (.iload_n 2, 1) := by decide +kernel
theorem dX7_write_103 : decode cX7_write 103 = .ok (.invokevirtual 298, 3) := by decide +kernel
theorem dX7_write_106 : decode cX7_write 106 = .ok (.iinc 2 1, 3) := by decide +kernel
theorem dX7_write_109 : decode cX7_write 109 = .ok (.goto (-30), 3) := by decide +kernel
theorem dX7_write_112 : decode cX7_write 112 = .ok (.aload_n 0, 1) := by decide +kernel
theorem dX7_write_113 : decode cX7_write 113 = .ok (.getfield 37, 3) := by decide +kernel
theorem dX7_write_116 : decode cX7_write 116 = .ok (.invokevirtual 301, 3) := by decide +kernel
theorem dX7_write_119 : decode cX7_write 119 = .ok (.ireturn, 1) := by decide +kernel
theorem tl_X7_295 : Cond.methodLink RX7 295 yX7_lastKey ∈ TMW := tm_in 1505 (by decide +kernel) (by decide +kernel)
theorem tl_X7_292 : Cond.methodLink RX7 292 yX7_firstKey ∈ TMW := tm_in 1504 (by decide +kernel) (by decide +kernel)
theorem tl_X7_298 : Cond.methodLink RX7 298 yX7_describeRow ∈ TMW := tm_in 1506 (by decide +kernel) (by decide +kernel)
theorem ti_X7_describeRow : Cond.instanceMethod yX7_describeRow ∈ TMW := tm_in 1508 (by decide +kernel) (by decide +kernel)
theorem ts_X7_describeRow : Cond.selects RX7 yX7_describeRow yX7_describeRow ∈ TMW := tm_in 38 (by decide +kernel) (by decide +kernel)
theorem tc_X7_describeRow : Cond.code yX7_describeRow cX7_describeRow 2 none ∈ TMW := tm_in 1509 (by decide +kernel) (by decide +kernel)
theorem tl_X7_277 : Cond.methodLink RX7 277 yJ4_setLength_d00df ∈ TMW := tm_in 1260 (by decide +kernel) (by decide +kernel)
theorem ti_J4_setLength_d00df : Cond.instanceMethod yJ4_setLength_d00df ∈ TMW := tm_in 1261 (by decide +kernel) (by decide +kernel)
theorem ts_J4_setLength_d00df : Cond.selects RJ4 yJ4_setLength_d00df yJ4_setLength_d00df ∈ TMW := tm_in 1262 (by decide +kernel) (by decide +kernel)
theorem tc_J4_setLength_d00df : Cond.code yJ4_setLength_d00df cJ4_setLength_d00df 2 none ∈ TMW := tm_in 1263 (by decide +kernel) (by decide +kernel)
theorem tl_X7_287 : Cond.methodLink RX7 287 yJ4_append_15ec4 ∈ TMW := tm_in 1502 (by decide +kernel) (by decide +kernel)
theorem ti_J4_append_15ec4 : Cond.instanceMethod yJ4_append_15ec4 ∈ TMW := tm_in 1276 (by decide +kernel) (by decide +kernel)
theorem ts_J4_append_15ec4 : Cond.selects RJ4 yJ4_append_15ec4 yJ4_append_15ec4 ∈ TMW := tm_in 1277 (by decide +kernel) (by decide +kernel)
theorem tc_J4_append_15ec4 : Cond.code yJ4_append_15ec4 cJ4_append_15ec4 2 (some (.object "java/lang/StringBuilder")) ∈ TMW := tm_in 1278 (by decide +kernel) (by decide +kernel)
abbrev tmRW : Type := (Nat × Int32) × (tmM × List Int32)
def tmXXW (sh : Nat → tmE) (n : Nat) (D : va_G) (cy : Nat → ClassId) (ad : Nat → Nat) (A : Nat → Prop) (z : tmRW) : String → State → State → Prop := vx_X (fun w : Nat × (tmM × List Int32) => z = ((w.1 + 1, 0), w.2)) (fun E w t => E = tm_ex w.1 ∧ tmWt sh n D cy ad A w.2 t) A
def tm_cxw (o : Option tmR) (bs : List Int32) (k : tmM → Option tmRW) : Option tmRW := match o with
  | none => none
  | some ((0, _), v) => k v
  | some ((e + 1, _), v) => some ((e + 1, 0), (v, bs))
def tmXWP (NW : List Cond) (sh : Nat → tmE) (n : Nat) (adK adV adE : Nat → Nat) (tC : Nat) (D : va_G) (cy : Nat → ClassId) (ad : Nat → Nat) (sz : Nat) (v : tmM) (κ b0 : Nat) (u : tmM) : State → Prop := fun U => tmWP NW sh n adK adV adE tC D cy ad sz v κ b0 u U ∧ tmTh (va_A (tm_w cy sh ad n v ++ tmXB cy (ad 256) κ b0 u) sz) U U.heap
theorem tmXWP.blind {NW : List Cond} (hn : NW.all tm_isN = true) {sh : Nat → tmE} {n : Nat} {adK adV adE : Nat → Nat} {tC : Nat} {D : va_G} {cy : Nat → ClassId} {ad : Nat → Nat} {sz : Nat} {v : tmM} {κ b0 : Nat} {u : tmM} (av : List Value) : FrameBlind (va_Pc av (tmXWP NW sh n adK adV adE tC D cy ad sz v κ b0 u)) := fun a U g mk q => by
  obtain ⟨q0, q1, q2⟩ := q
  exact ⟨q0, (tmWP.blind hn av a U g mk ⟨q0, q1⟩).2, q2.call⟩
def tmXWi (NW : List Cond) (sh : Nat → tmE) (n : Nat) (l : Launch) (adK adV adE : Nat → Nat) (tC : Nat) (y : MethodName) (ws : List Cond) (rm : Room) (av : (Nat → Nat) → List Value) (v : tmM) (bs : List Int32) (mc ms : Nat) (o : Option tmRW) : Prop :=
  ∀ (D : va_G) (cy : Nat → ClassId) (ad : Nat → Nat) (sz κ b0 : Nat) (u : tmM) (z : tmRW), tmTx κ u bs → o = some z → vx_Met l y ws rm (va_Pc (av ad) (tmXWP NW sh n adK adV adE tC D cy ad sz v κ b0 u)) (va_Qi (fun r w => z = ((0, r), w)) (tmWt sh n D cy ad (va_A (tm_w cy sh ad n v ++ tmXB cy (ad 256) κ b0 u) sz)) (va_A (tm_w cy sh ad n v ++ tmXB cy (ad 256) κ b0 u) sz)) (tmXXW sh n D cy ad (va_A (tm_w cy sh ad n v ++ tmXB cy (ad 256) κ b0 u) sz) z) mc ms (va_A (tm_w cy sh ad n v ++ tmXB cy (ad 256) κ b0 u) sz)
section TMXW
variable {p : Program} {l : Launch} {e : Env} {R : Room} {s : State} {m : MethodId} {args : Array Value} {below : List Frame} {meth : Method} {c : Code} {cells slots mc ms : Nat} {cc : ByteArray} {nL : Nat} {ret : Option FieldType} {own : String} {Ts : List Cond} {NW : List Cond} {D : va_G} {cy : Nat → ClassId} {sh : Nat → tmE} {ad : Nat → Nat} {n : Nat} {A : Nat → Prop} {adK adV adE : Nat → Nat} {tC κ b0 : Nat} {u : tmM}
variable {z : tmRW} {pc : Nat} {lv lv' : List (Nat × Value)} {st : List Value} {v : tmM} {bs : List Int32}
theorem tmXWi.of {y : MethodName} {ws : List Cond} {rm : Room} {av : (Nat → Nat) → List Value} {o : Option tmRW} {rty : FieldType} (hy : plainName y.cls = true) (hw : ws = Cond.code y cc nL (some rty) :: Ts) (hn : NW.all tm_isN = true) (hlen : ∀ ad : Nat → Nat, (lg_sl (av ad)).length ≤ nL)
    (h : ∀ (p : Program) (e : Env) (s : State) (m : MethodId) (args : Array Value) (below : List Frame) (meth : Method) (c : Code) (A : Nat → Prop) (D : va_G) (cy : Nat → ClassId) (ad : Nat → Nat) (κ b0 : Nat) (u : tmM) (z : tmRW), tmC p s m args meth c cc nL (some rty) y.cls Ts NW D cy sh ad n (tmXB cy (ad 256) κ b0 u) A → tmSc adK adV adE tC A s s.heap → tmTx κ u bs → tmTh A s s.heap → (∀ x ∈ c.exceptionTable.toList, False) → tmG p l e rm s m args below meth c 0 0 (vx_MQ below (va_Qi (fun r w => z = ((0, r), w)) (tmWt sh n D cy ad A) A) (tmXXW sh n D cy ad A z) args s mc ms A) nL D cy sh ad n (tmXB cy (ad 256) κ b0 u) A z 0 (lv_args 0 (av ad)) [] v o) : tmXWi NW sh n l adK adV adE tC y ws rm av v bs mc ms o := by
  intro D cy ad sz κ b0 u z hT hz
  refine vx_ofW (cc := cc) (maxL := nL) (ret := some rty) hy hw ?_
  intro p e s m args below meth c s₁ B hml hno hv
  obtain ⟨rfl, ⟨⟨hsz, hP, hK, hN, hD0⟩, hE⟩, hTh⟩ := hv
  have hx := B.exec
  have hb := B.bytes
  have hr := B.returns
  have hts : ∀ w ∈ Ts, w.before _ s = true := fun w h => atoms_spec (ws := ws) B.pre w (by rw [hw]; exact List.mem_cons_of_mem _ h)
  have hown : s.vm.findClass y.cls = some m.cls := findClass_of_methodNamed B.named
  have hlocks := B.notSynchronized
  subst hsz
  have hD := hD0.self (sz := s.heap.size)
  generalize hAe : va_A (tm_w cy sh ad n v ++ tmXB cy (ad 256) κ b0 u) s.heap.size = A at hD hE hTh ⊢
  have hA : ∀ q : Nat, s.heap.size ≤ q → A q := fun q h => by rw [← hAe]; exact Or.inr h
  have hl := lv_entry (av ad) (n := nL) (hlen ad)
  rw [lg_entry_eq]
  exact h p e s m _ below meth c A D cy ad κ b0 u z ⟨hx, hb, hml, hr, hlocks, hown, hts, hK, hN, hn, tm_Dv hD, hA⟩ hE hT hTh hno hz s.heap [] _ hP va_S.rf hl
theorem tw_xiret {x : Int32} (C0 : tmC p s m args meth c cc nL (some .int) own Ts NW D cy sh ad n (tmXB cy (ad 256) κ b0 u) A) (hT : tmTx κ u bs) (hdg : decode cc pc = .ok (.ireturn, 1)) (hc : cells ≤ mc ∧ slots ≤ ms) : tmG p l e R s m args below meth c cells slots (vx_MQ below (va_Qi (fun r w => z = ((0, r), w)) (tmWt sh n D cy ad A) A) (tmXXW sh n D cy ad A z) args s mc ms A) nL D cy sh ad n (tmXB cy (ad 256) κ b0 u) A z pc lv [.int x] v (some ((0, x), (v, bs))) := fun hz H locs ls hP hS hL => vx_ret (W.widen hc.1 hc.2 (W.iret C0.1 C0.2.1 C0.2.2.2.1 (fun t ht hW => ⟨⟨x, (v, bs), rfl, (Option.some.inj hz).symm, κ, b0, u, hT, by rw [ht]; exact hP, C0.dd⟩, hS.F ht⟩) hS.2.2 hdg C0.2.2.2.2.1))
theorem tw_callSx {y : MethodName} {wsy ws' : List Cond} {rmy : Room} {av : (Nat → Nat) → List Value} {o : Option tmR} {K : tmM → Option tmRW} {bytes : ByteArray} {maxL idx : Nat} {rt : Option FieldType} {As st0 : List Value} (na : Nat) (C0 : tmC p s m args meth c cc nL ret own Ts NW D cy sh ad n (tmXB cy (ad 256) κ b0 u) A) (hT : tmTx κ u bs) (hE : tmTh A s s.heap) (hout : ∀ x ∈ c.exceptionTable.toList, False) (hdg : decode cc pc = .ok (.invokestatic idx, 3)) (hM : tmXv NW sh n l y wsy rmy av v 1 6 o) (hav : av ad = As) (hst : st0 = As.reverse ++ st) (hG : GoodIn Ts (wsS own idx y wsy)) (hna : As.length = na) (hw : wsy = Cond.code y bytes maxL rt :: ws') (hrc : rmy.cells = 1) (hrs : rmy.slots = 6) (hd : y.cls = own ∧ y.cls ≠ "java/lang/invoke/MethodHandle" ∧ y.cls ≠ "java/lang/invoke/VarHandle" ∧ (parseMethodDescriptor y.desc).map (fun d => d.parameters.length) = some na) (hR : rmy.frames + 1 ≤ R.frames ∧ 8 + (maxL + 11) + rmy.locals ≤ R.locals) (hcat : (st.map fun v => v.category).sum ≤ 8) (hcs : cells + 1 ≤ R.cells ∧ slots + 6 ≤ R.slots) (hc : cells + 1 ≤ mc ∧ slots + 6 ≤ ms) (k : ∀ (v' : tmM), o = some ((0, 0), v') → tmG p l e R s m args below meth c (cells + 1) (slots + 6) (vx_MQ below (va_Qi (fun r w => z = ((0, r), w)) (tmWt sh n D cy ad A) A) (tmXXW sh n D cy ad A z) args s mc ms A) nL D cy sh ad n (tmXB cy (ad 256) κ b0 u) A z (pc + 3) lv st v' (K v')) : tmG p l e R s m args below meth c cells slots (vx_MQ below (va_Qi (fun r w => z = ((0, r), w)) (tmWt sh n D cy ad A) A) (tmXXW sh n D cy ad A z) args s mc ms A) nL D cy sh ad n (tmXB cy (ad 256) κ b0 u) A z pc lv st0 v (tm_cxw o bs K) := by
  intro hz
  cases ho : o with
  | none => rw [ho] at hz; cases hz
  | some y0 =>
    rw [ho] at hz
    intro H locs ls hP hS hL
    have hMet := hM D cy ad H.size y0 ho
    have hts := C0.2.2.2.2.2.2.1
    have hF := tm_free (w1 := tm_w cy sh ad n v) (w2 := tmXB cy (ad 256) κ b0 u) C0.dd hS C0.2.2.2.2.2.2.2.2.2.2.2
    subst hst
    refine vx_callv (vx_runS (As := As) (rest := st) ⟨C0.1, C0.2.1, C0.2.2.1, C0.2.2.2.2.2.1, hts⟩ hMet (cwS na hts hG hw hrc hrs hd hR) ⟨tmXP.blind C0.2.2.2.2.2.2.2.2.2.1 _, fun U hU hW => ⟨congrArg List.toArray hav.symm, ⟨by rw [hU], by rw [hU]; exact tm_Pleft hP, va_K.moved hW.alike C0.2.2.2.2.2.2.2.1, tmNs.warm C0.2.2.2.2.2.2.2.2.2.1 hW C0.2.2.2.2.2.2.2.2.1, (tm_Dleft C0.dd).weaken (fun _ _ _ _ => trivial)⟩, hE.go hS hF hU hW⟩⟩ rfl hna hL.1 rfl (lv_room hcat) hdg hcs) hS (fun q _ h => hF q h) hF (fun q _ h => hF q h) (fun E ce q9 w t H1 locs1 ht hvm hpx hBX hz1 hk1 hS1 hq9 hcv hcl => ?_) (fun w t H1 locs1 ht hvm hw2 hB hz1 hk1 hS1 => ?_)
    · obtain ⟨hEx, hP1, hD1⟩ := hBX
      rw [ht] at hP1
      have hj := tm_join hP C0.dd hk1 hF hP1 hD1
      have hz2 : some ((w.1 + 1, (0 : Int32)), (w.2, bs)) = some z := by
        rw [hpx] at hz
        exact hz
      refine vx_out (fun x hx => (hout x hx).elim) C0.2.2.2.2.1 hq9 hcv hcl (fun t2 ht2 hvm2 => ⟨(w.1, (w.2, bs)), (Option.some.inj hz2).symm, ⟨hEx, κ, b0, u, hT, by rw [ht2]; exact hj.1, hj.2⟩, hS1.F ht2⟩) hS1.2.2 hc.1 hc.2
    · obtain ⟨hP1, hD1⟩ := hB
      rw [ht] at hP1
      have hj := tm_join hP C0.dd hk1 hF hP1 hD1
      rw [hw2] at hz ho
      exact k w ho hz H1 locs1 ls hj.1 hS1 hL
end TMXW
def f_X7_write_79b (L : Int32 → Int32 → tmM → List Int32 → Option tmRW) (x1 x2 : Int32) (v : tmM) (bs : List Int32) : Option tmRW := tm_cl (f_X7_lastKey x1 v) fun r1 v1 => (if r1 < x2 then tm_lt (nI bs.length) fun r => some ((0, r), (v1, bs)) else tm_cl (f_X5_hasRowSomewhere x2 v1) fun r2 v2 => (if r2 = 0 then L x1 (x2 + 1) v2 bs else tm_cw (f_X7_describeRow x2 v2 bs) fun _ v3 bs3 => L x1 (x2 + 1) v3 bs3))
def f_X7_write_79 : Nat → Int32 → Int32 → tmM → List Int32 → Option tmRW
  | 0 => fun _ _ _ _ => none
  | n + 1 => f_X7_write_79b (f_X7_write_79 n)
def f_X7_write_74 (x1 : Int32) (v : tmM) (bs : List Int32) : Option tmRW := tm_cl (f_X7_firstKey x1 v) fun r v1 => f_X7_write_79 5 x1 r v1 bs
def f_X7_write_49 (x1 : Int32) (v : tmM) (bs : List Int32) : Option tmRW := tm_cl (f_X7_has (v 0 3) x1 v) fun r v1 => (if r = 0 then f_X7_write_74 x1 v1 bs else tm_g (decide (bs.length + 8 ≤ 70)) (tm_lt (bs ++ tm_wrd 14) fun bs1 => f_X7_write_74 x1 v1 bs1))
def f_X7_write (x1 : Int32) (v : tmM) (bs : List Int32) : Option tmRW := tm_cl (f_X7_isChunk x1 v) fun r2 v1 => tm_cxw (f_X7_requireIndex r2 v1) bs fun v3 => tm_lt ([] : List Int32) fun bs4 => tm_g (decide (¬ x1 < 0 ∧ x1.toNatClampNeg < 1000 ∧ bs4.length + 3 ≤ 70)) (tm_lt (bs4 ++ tm_dec x1.toNatClampNeg) fun bs5 => tm_cl (f_X7_has (v3 0 2) x1 v3) fun r6 v7 => (if r6 = 0 then f_X7_write_49 x1 v7 bs5 else tm_g (decide (bs5.length + 8 ≤ 70)) (tm_lt (bs5 ++ tm_wrd 13) fun bs8 => f_X7_write_49 x1 v7 bs8)))
set_option maxRecDepth 100000 in
theorem w_X7_write_79b {p : Program} {l : Launch} {e : Env} {s : State} {m : MethodId} {args : Array Value} {below : List Frame} {meth : Method} {c : Code} {D : va_G} {cy : Nat → ClassId} {ad : Nat → Nat} {A : Nat → Prop} {adK adV adE : Nat → Nat} {tC : Nat} {z : tmRW} (hE : tmSc adK adV adE tC A s s.heap) {L : Int32 → Int32 → tmM → List Int32 → Option tmRW} (nn : Nat) (hL : ∀ (a1 a2 : Int32) (v : tmM) (bs : List Int32) (κ b0 : Nat) (u : tmM), tmC p s m args meth c cX7_write 3 (some .int) RX7 TMW tm_NWC D cy tm_shC ad 256 (tmXB cy (ad 256) κ b0 u) A → tmTx κ u bs → ∀ cw sw : Nat, cw + 7 * nn ≤ 40 ∧ sw + 490 * nn ≤ 3000 → tmG p l e ({ frames := 8, cells := 40, slots := 3000, locals := 300 } : Room) s m args below meth c cw sw (vx_MQ below (va_Qi (fun r w => z = ((0, r), w)) (tmWt tm_shC 256 D cy ad A) A) (tmXXW tm_shC 256 D cy ad A z) args s 40 3000 A) 3 D cy tm_shC ad 256 (tmXB cy (ad 256) κ b0 u) A z 79 [(2, .int a2), (0, .ref (ad 247)), (1, .int a1)] [] v (L a1 a2 v bs))
    (x1 x2 : Int32) (v : tmM) (bs : List Int32) (κ b0 : Nat) (u : tmM) (C0 : tmC p s m args meth c cX7_write 3 (some .int) RX7 TMW tm_NWC D cy tm_shC ad 256 (tmXB cy (ad 256) κ b0 u) A) (hT : tmTx κ u bs) (cw sw : Nat) (hc : cw + 7 * (nn + 1) ≤ 40 ∧ sw + 490 * (nn + 1) ≤ 3000) : tmG p l e ({ frames := 8, cells := 40, slots := 3000, locals := 300 } : Room) s m args below meth c cw sw (vx_MQ below (va_Qi (fun r w => z = ((0, r), w)) (tmWt tm_shC 256 D cy ad A) A) (tmXXW tm_shC 256 D cy ad A z) args s 40 3000 A) 3 D cy tm_shC ad 256 (tmXB cy (ad 256) κ b0 u) A z 79 [(2, .int x2), (0, .ref (ad 247)), (1, .int x1)] [] v (f_X7_write_79b L x1 x2 v bs) := by
  unfold f_X7_write_79b
  have h0 : cw ≤ 40 ∧ sw ≤ 3000 := ⟨by omega, by omega⟩
  have h7 : cw + 7 ≤ 40 ∧ sw + 490 ≤ 3000 := ⟨by omega, by omega⟩
  refine tg_iload_n 0 C0 dX7_write_79 rfl rfl ?_
  refine tg_iload_n 2 C0 dX7_write_80 rfl rfl ?_
  refine tg_callSi (As := [.int x1]) 1 C0 dX7_write_81 (c_X7_lastKey l x1 v) rfl rfl (tm_gc tc_X7_lastKey) tl_X7_295 tn_X7 tst_X7_lastKey  rfl rfl rfl rfl (by decide +kernel) ⟨by decide, by decide⟩ (Nat.le_of_ble_eq_true rfl) h0 (fun r1 v1 _ => ?_)
  refine tg_icmp_gt 112 C0 dX7_write_84 (by decide) (fun _ => ?_) (fun _ => ?_)
  · refine tg_aload_n 1 C0 dX7_write_112 rfl rfl ?_
    refine tg_get 247 8 C0 dX7_write_113 (by decide) rfl rfl tu_X7 (by decide) tf_X7_37 rfl rfl rfl ?_
    refine tw_len C0 hE hT dX7_write_116 (tm_gV tl_X7_301 ti_J4_length_8abf5 ts_J4_length_8abf5 tn_J4 tc_J4_length_8abf5) ⟨by decide, by decide⟩ (Nat.le_of_ble_eq_true rfl) h0 (fun r _ => ?_)
    exact tw_xiret C0 hT dX7_write_119 h0
  · refine tg_aload_n 1 C0 dX7_write_87 rfl rfl ?_
    refine tg_get 247 0 C0 dX7_write_88 (by decide) rfl rfl tu_X7 (by decide) tf_X7_12 rfl rfl rfl ?_
    refine tg_getN 0 5 C0 dX7_write_91 (by decide) rfl rfl tu_X4 (by decide) tm_nwC_X7_98 rfl rfl rfl ?_
    refine tg_iload_n 0 C0 dX7_write_94 rfl rfl ?_
    refine tg_callVi (As := [.int x2]) 1 1 C0 dX7_write_95 (c_X5_hasRowSomewhere l x2 v1) rfl rfl (by decide) rfl rfl (tm_gV tl_X7_255 ti_X5_hasRowSomewhere ts_X5_hasRowSomewhere tn_X5 tc_X5_hasRowSomewhere) rfl rfl rfl rfl (by decide +kernel) ⟨by decide, by decide⟩ (Nat.le_of_ble_eq_true rfl) h0 (fun r2 v2 _ => ?_)
    refine tg_if_eq 106 C0 dX7_write_98 (by decide) (fun _ => ?_) (fun _ => ?_)
    · refine tg_iinc [(2, .int (x2 + 1)), (0, .ref (ad 247)), (1, .int x1)] 0 C0 dX7_write_106 rfl rfl (by decide) rfl ?_
      refine tg_goto 79 C0 dX7_write_109 (by decide) ?_
      exact hL x1 (x2 + 1) v2 bs κ b0 u C0 hT cw sw ⟨by omega, by omega⟩
    · refine tg_aload_n 1 C0 dX7_write_101 rfl rfl ?_
      refine tg_iload_n 0 C0 dX7_write_102 rfl rfl ?_
      refine tw_callWv (As := [.int x2]) 247 1 C0 hE hT dX7_write_103 (c_X7_describeRow l x2 v2 bs) rfl rfl (by decide) rfl rfl (tm_gV tl_X7_298 ti_X7_describeRow ts_X7_describeRow tn_X7 tc_X7_describeRow) rfl rfl rfl rfl (by decide +kernel) ⟨by decide, by decide⟩ (Nat.le_of_ble_eq_true rfl) h7 (fun κ b0 u v3 bs3 _ C0 hT => ?_)
      refine tg_iinc [(2, .int (x2 + 1)), (0, .ref (ad 247)), (1, .int x1)] 0 C0 dX7_write_106 rfl rfl (by decide) rfl ?_
      refine tg_goto 79 C0 dX7_write_109 (by decide) ?_
      exact hL x1 (x2 + 1) v3 bs3 κ b0 u C0 hT (cw + 7) (sw + 490) ⟨by omega, by omega⟩
theorem w_X7_write_79 {p : Program} {l : Launch} {e : Env} {s : State} {m : MethodId} {args : Array Value} {below : List Frame} {meth : Method} {c : Code} {D : va_G} {cy : Nat → ClassId} {ad : Nat → Nat} {A : Nat → Prop} {adK adV adE : Nat → Nat} {tC : Nat} {z : tmRW} (hE : tmSc adK adV adE tC A s s.heap) (nn : Nat) : ∀ (x1 x2 : Int32) (v : tmM) (bs : List Int32) (κ b0 : Nat) (u : tmM), tmC p s m args meth c cX7_write 3 (some .int) RX7 TMW tm_NWC D cy tm_shC ad 256 (tmXB cy (ad 256) κ b0 u) A → tmTx κ u bs → ∀ cw sw : Nat, cw + 7 * nn ≤ 40 ∧ sw + 490 * nn ≤ 3000 → tmG p l e ({ frames := 8, cells := 40, slots := 3000, locals := 300 } : Room) s m args below meth c cw sw (vx_MQ below (va_Qi (fun r w => z = ((0, r), w)) (tmWt tm_shC 256 D cy ad A) A) (tmXXW tm_shC 256 D cy ad A z) args s 40 3000 A) 3 D cy tm_shC ad 256 (tmXB cy (ad 256) κ b0 u) A z 79 [(2, .int x2), (0, .ref (ad 247)), (1, .int x1)] [] v (f_X7_write_79 nn x1 x2 v bs) := by
  induction nn with
  | zero => intro _ _ _ _ _ _ _ _ _ _ _ _; exact tg_none
  | succ n ih => intro x1 x2 v bs κ b0 u C0 hT cw sw hc; exact w_X7_write_79b hE n ih x1 x2 v bs κ b0 u C0 hT cw sw hc
theorem w_X7_write_74 {p : Program} {l : Launch} {e : Env} {s : State} {m : MethodId} {args : Array Value} {below : List Frame} {meth : Method} {c : Code} {D : va_G} {cy : Nat → ClassId} {ad : Nat → Nat} {A : Nat → Prop} {adK adV adE : Nat → Nat} {tC : Nat} {z : tmRW} (hE : tmSc adK adV adE tC A s s.heap) (x1 : Int32) (v : tmM) (bs : List Int32) (κ b0 : Nat) (u : tmM) (C0 : tmC p s m args meth c cX7_write 3 (some .int) RX7 TMW tm_NWC D cy tm_shC ad 256 (tmXB cy (ad 256) κ b0 u) A) (hT : tmTx κ u bs) (cw sw : Nat) (hc : cw ≤ 5 ∧ sw ≤ 500) : tmG p l e ({ frames := 8, cells := 40, slots := 3000, locals := 300 } : Room) s m args below meth c cw sw (vx_MQ below (va_Qi (fun r w => z = ((0, r), w)) (tmWt tm_shC 256 D cy ad A) A) (tmXXW tm_shC 256 D cy ad A z) args s 40 3000 A) 3 D cy tm_shC ad 256 (tmXB cy (ad 256) κ b0 u) A z 74 [(0, .ref (ad 247)), (1, .int x1)] [] v (f_X7_write_74 x1 v bs) := by
  unfold f_X7_write_74
  have h0 : cw ≤ 40 ∧ sw ≤ 3000 := ⟨by omega, by omega⟩
  refine tg_iload_n 1 C0 dX7_write_74 rfl rfl ?_
  refine tg_callSi (As := [.int x1]) 1 C0 dX7_write_75 (c_X7_firstKey l x1 v) rfl rfl (tm_gc tc_X7_firstKey) tl_X7_292 tn_X7 tst_X7_firstKey  rfl rfl rfl rfl (by decide +kernel) ⟨by decide, by decide⟩ (Nat.le_of_ble_eq_true rfl) h0 (fun r v1 _ => ?_)
  refine tg_istore_n [(2, .int r), (0, .ref (ad 247)), (1, .int x1)] C0 dX7_write_78 rfl (by decide) rfl ?_
  exact w_X7_write_79 hE 5 x1 r v1 bs κ b0 u C0 hT cw sw ⟨by omega, by omega⟩
set_option maxRecDepth 100000 in
theorem w_X7_write_49 {p : Program} {l : Launch} {e : Env} {s : State} {m : MethodId} {args : Array Value} {below : List Frame} {meth : Method} {c : Code} {D : va_G} {cy : Nat → ClassId} {ad : Nat → Nat} {A : Nat → Prop} {adK adV adE : Nat → Nat} {tC : Nat} {z : tmRW} (hE : tmSc adK adV adE tC A s s.heap) (x1 : Int32) (v : tmM) (bs : List Int32) (κ b0 : Nat) (u : tmM) (C0 : tmC p s m args meth c cX7_write 3 (some .int) RX7 TMW tm_NWC D cy tm_shC ad 256 (tmXB cy (ad 256) κ b0 u) A) (hT : tmTx κ u bs) (cw sw : Nat) (hc : cw ≤ 4 ∧ sw ≤ 300) : tmG p l e ({ frames := 8, cells := 40, slots := 3000, locals := 300 } : Room) s m args below meth c cw sw (vx_MQ below (va_Qi (fun r w => z = ((0, r), w)) (tmWt tm_shC 256 D cy ad A) A) (tmXXW tm_shC 256 D cy ad A z) args s 40 3000 A) 3 D cy tm_shC ad 256 (tmXB cy (ad 256) κ b0 u) A z 49 [(0, .ref (ad 247)), (1, .int x1)] [] v (f_X7_write_49 x1 v bs) := by
  unfold f_X7_write_49
  have h0 : cw ≤ 40 ∧ sw ≤ 3000 := ⟨by omega, by omega⟩
  have h1 : cw + 1 ≤ 40 ∧ sw + 70 ≤ 3000 := ⟨by omega, by omega⟩
  refine tg_aload_n 0 C0 dX7_write_49 rfl rfl ?_
  refine tg_get 247 0 C0 dX7_write_50 (by decide) rfl rfl tu_X7 (by decide) tf_X7_12 rfl rfl rfl ?_
  refine tg_getN 0 3 C0 dX7_write_53 (by decide) rfl rfl tu_X4 (by decide) tm_nwC_X7_142 rfl rfl rfl ?_
  refine tg_iload_n 1 C0 dX7_write_56 rfl rfl ?_
  refine tg_callSi (As := [.int (v 0 3), .int x1]) 2 C0 dX7_write_57 (c_X7_has l (v 0 3) x1 v) rfl rfl (tm_gc tc_X7_has) tl_X7_120 tn_X7 tst_X7_has  rfl rfl rfl rfl (by decide +kernel) ⟨by decide, by decide⟩ (Nat.le_of_ble_eq_true rfl) h0 (fun r v1 _ => ?_)
  refine tg_if_eq 74 C0 dX7_write_60 (by decide) (fun _ => ?_) (fun _ => ?_)
  · exact w_X7_write_74 hE x1 v1 bs κ b0 u C0 hT cw sw ⟨by omega, by omega⟩
  · refine tg_aload_n 0 C0 dX7_write_63 rfl rfl ?_
    refine tg_get 247 8 C0 dX7_write_64 (by decide) rfl rfl tu_X7 (by decide) tf_X7_37 rfl rfl rfl ?_
    refine ty_ldcws C0 dX7_write_67 hE.2.2.2.2.2.2.2.2.2.2.2.2.1 ?_
    refine tw_apps 14 (Or.inr rfl) C0 hE hT dX7_write_70 (tm_gV tl_X7_287 ti_J4_append_15ec4 ts_J4_append_15ec4 tn_J4 tc_J4_append_15ec4) ⟨by decide, by decide⟩ (Nat.le_of_ble_eq_true rfl) h1 (fun κ b0 u bs1 _ C0 hT => ?_)
    refine tg_pop C0 dX7_write_73 rfl ?_
    exact w_X7_write_74 hE x1 v1 bs1 κ b0 u C0 hT (cw + 1) (sw + 70) ⟨by omega, by omega⟩
set_option maxRecDepth 100000 in
theorem w_X7_write {p : Program} {l : Launch} {e : Env} {s : State} {m : MethodId} {args : Array Value} {below : List Frame} {meth : Method} {c : Code} {D : va_G} {cy : Nat → ClassId} {ad : Nat → Nat} {A : Nat → Prop} {adK adV adE : Nat → Nat} {tC : Nat} {z : tmRW} (hE : tmSc adK adV adE tC A s s.heap) (x1 : Int32) (v : tmM) (bs : List Int32) (κ b0 : Nat) (u : tmM) (C0 : tmC p s m args meth c cX7_write 3 (some .int) RX7 TMW tm_NWC D cy tm_shC ad 256 (tmXB cy (ad 256) κ b0 u) A) (hT : tmTx κ u bs) (hl : l.stackTraces = false) (hTh : tmTh A s s.heap) (hout : ∀ x ∈ c.exceptionTable.toList, False) : tmG p l e ({ frames := 8, cells := 40, slots := 3000, locals := 300 } : Room) s m args below meth c 0 0 (vx_MQ below (va_Qi (fun r w => z = ((0, r), w)) (tmWt tm_shC 256 D cy ad A) A) (tmXXW tm_shC 256 D cy ad A z) args s 40 3000 A) 3 D cy tm_shC ad 256 (tmXB cy (ad 256) κ b0 u) A z 0 [(0, .ref (ad 247)), (1, .int x1)] [] v (f_X7_write x1 v bs) := by
  unfold f_X7_write
  refine tg_iload_n 1 C0 dX7_write_0 rfl rfl ?_
  refine tg_callSi (As := [.int x1]) 1 C0 dX7_write_1 (c_X7_isChunk l x1 v) rfl rfl (tm_gc tc_X7_isChunk) tl_X7_189 tn_X7 tst_X7_isChunk  rfl rfl rfl rfl (by decide +kernel) ⟨by decide, by decide⟩ (Nat.le_of_ble_eq_true rfl) ⟨by decide, by decide⟩ (fun r2 v1 _ => ?_)
  refine tw_callSx (As := [.int r2]) 1 C0 hT hTh hout dX7_write_4 (c_X7_requireIndex l hl r2 v1) rfl rfl (tm_gS tl_X7_114 tst_X7_requireIndex tn_X7 tc_X7_requireIndex) rfl rfl rfl rfl (by decide +kernel) ⟨by decide, by decide⟩ (Nat.le_of_ble_eq_true rfl) ⟨by decide, by decide⟩ ⟨by decide, by decide⟩ (fun v3 _ => ?_)
  refine tg_aload_n 0 C0 dX7_write_7 rfl rfl ?_
  refine tg_get 247 8 C0 dX7_write_8 (by decide) rfl rfl tu_X7 (by decide) tf_X7_37 rfl rfl rfl ?_
  refine tg_iconst (x := 0) C0 dX7_write_11 (by decide) ?_
  refine tw_set0 C0 hE hT dX7_write_12 (tm_gV tl_X7_277 ti_J4_setLength_d00df ts_J4_setLength_d00df tn_J4 tc_J4_setLength_d00df) ⟨by decide, by decide⟩ (Nat.le_of_ble_eq_true rfl) ⟨by decide, by decide⟩ (fun b0 u bs4 _ C0 hT => ?_)
  refine tg_aload_n 0 C0 dX7_write_15 rfl rfl ?_
  refine tg_get 247 8 C0 dX7_write_16 (by decide) rfl rfl tu_X7 (by decide) tf_X7_37 rfl rfl rfl ?_
  refine tg_iload_n 1 C0 dX7_write_19 rfl rfl ?_
  refine tw_appi C0 hE hT dX7_write_20 (tm_gV tl_X7_281 ti_J4_append_bf812 ts_J4_append_bf812 tn_J4 tc_J4_append_bf812) ⟨by decide, by decide⟩ (Nat.le_of_ble_eq_true rfl) ⟨by decide, by decide⟩ (fun κ b0 u bs5 _ C0 hT => ?_)
  refine tg_pop C0 dX7_write_23 rfl ?_
  refine tg_aload_n 0 C0 dX7_write_24 rfl rfl ?_
  refine tg_get 247 0 C0 dX7_write_25 (by decide) rfl rfl tu_X7 (by decide) tf_X7_12 rfl rfl rfl ?_
  refine tg_getN 0 2 C0 dX7_write_28 (by decide) rfl rfl tu_X4 (by decide) tm_nwC_X7_134 rfl rfl rfl ?_
  refine tg_iload_n 1 C0 dX7_write_31 rfl rfl ?_
  refine tg_callSi (As := [.int (v3 0 2), .int x1]) 2 C0 dX7_write_32 (c_X7_has l (v3 0 2) x1 v3) rfl rfl (tm_gc tc_X7_has) tl_X7_120 tn_X7 tst_X7_has  rfl rfl rfl rfl (by decide +kernel) ⟨by decide, by decide⟩ (Nat.le_of_ble_eq_true rfl) ⟨by decide, by decide⟩ (fun r6 v7 _ => ?_)
  refine tg_if_eq 49 C0 dX7_write_35 (by decide) (fun _ => ?_) (fun _ => ?_)
  · exact w_X7_write_49 hE x1 v7 bs5 κ b0 u C0 hT _ _ ⟨by decide, by decide⟩
  · refine tg_aload_n 0 C0 dX7_write_38 rfl rfl ?_
    refine tg_get 247 8 C0 dX7_write_39 (by decide) rfl rfl tu_X7 (by decide) tf_X7_37 rfl rfl rfl ?_
    refine ty_ldcws C0 dX7_write_42 hE.2.2.2.2.2.2.2.2.2.2.2.1 ?_
    refine tw_apps 13 (Or.inl rfl) C0 hE hT dX7_write_45 (tm_gV tl_X7_287 ti_J4_append_15ec4 ts_J4_append_15ec4 tn_J4 tc_J4_append_15ec4) ⟨by decide, by decide⟩ (Nat.le_of_ble_eq_true rfl) ⟨by decide, by decide⟩ (fun κ b0 u bs8 _ C0 hT => ?_)
    refine tg_pop C0 dX7_write_48 rfl ?_
    exact w_X7_write_49 hE x1 v7 bs8 κ b0 u C0 hT _ _ ⟨by decide, by decide⟩
theorem c_X7_write (l : Launch) (hl : l.stackTraces = false) {adK adV adE : Nat → Nat} {tC : Nat} (x1 : Int32) (v : tmM) (bs : List Int32) : tmXWi tm_NWC tm_shC 256 l adK adV adE tC yX7_write (Cond.code yX7_write cX7_write 3 (some .int) :: TMW) ({ frames := 8, cells := 40, slots := 3000, locals := 300 } : Room) (fun ad => [.ref (ad 247), .int x1]) v bs 40 3000 (f_X7_write x1 v bs) :=
  tmXWi.of (cc := cX7_write) (nL := 3) (by decide +kernel) rfl tm_NWC_ok (fun _ => Nat.le_of_ble_eq_true rfl) (fun p e s m args below meth c A D cy ad κ b0 u z C0 hE hT hTh hout => w_X7_write hE x1 v bs κ b0 u C0 hT hl hTh hout)

