/-! ===== floats: quotients that are no NaN (looked at by a guard), and their ends ===== -/
def tm_n64 (r : UInt64) : Bool := decide (r &&& 0x7fffffffffffffff ≤ 0x7ff0000000000000)
def tm_n32 (r : UInt32) : Bool := decide (r &&& 0x7fffffff ≤ 0x7f800000)
theorem tm_n64n {r : UInt64} (h : tm_n64 r = true) : vf_n64 r := by have h2 : r &&& 0x7fffffffffffffff ≤ 0x7ff0000000000000 := of_decide_eq_true h; exact h2
theorem tm_n32n {r : UInt32} (h : tm_n32 r = true) : vf_n32 r := by have h2 : r &&& 0x7fffffff ≤ 0x7f800000 := of_decide_eq_true h; exact h2
def tmMf (NW : List Cond) (sh : Nat → tmE) (n : Nat) (l : Launch) (y : MethodName) (ws : List Cond) (rm : Room) (av : (Nat → Nat) → List Value) (v : tmM) (o : Option (UInt32 × tmM)) : Prop :=
  ∀ (D : va_G) (cy : Nat → ClassId) (ad : Nat → Nat) (sz : Nat) (z : UInt32 × tmM), o = some z → Met l y ws rm (va_Pc (av ad) (tmPre NW sh n D cy ad sz v)) (va_Qf (fun r u => z = (r, u)) (tmAt sh n D cy ad (va_A (tm_w cy sh ad n v) sz)) (va_A (tm_w cy sh ad n v) sz)) 0 0 (va_A (tm_w cy sh ad n v) sz)
def tmMd (NW : List Cond) (sh : Nat → tmE) (n : Nat) (l : Launch) (y : MethodName) (ws : List Cond) (rm : Room) (av : (Nat → Nat) → List Value) (v : tmM) (o : Option (UInt64 × tmM)) : Prop :=
  ∀ (D : va_G) (cy : Nat → ClassId) (ad : Nat → Nat) (sz : Nat) (z : UInt64 × tmM), o = some z → Met l y ws rm (va_Pc (av ad) (tmPre NW sh n D cy ad sz v)) (va_Qd (fun r u => z = (r, u)) (tmAt sh n D cy ad (va_A (tm_w cy sh ad n v) sz)) (va_A (tm_w cy sh ad n v) sz)) 0 0 (va_A (tm_w cy sh ad n v) sz)
def tmXd (NW : List Cond) (sh : Nat → tmE) (n : Nat) (l : Launch) (y : MethodName) (ws : List Cond) (rm : Room) (av : (Nat → Nat) → List Value) (v : tmM) (mc ms : Nat) (o : Option ((Nat × UInt64) × tmM)) : Prop :=
  ∀ (D : va_G) (cy : Nat → ClassId) (ad : Nat → Nat) (sz : Nat) (z : (Nat × UInt64) × tmM), o = some z → vx_Met l y ws rm (va_Pc (av ad) (tmXP NW sh n D cy ad sz v)) (va_Qd (fun r u => z = ((0, r), u)) (tmAt sh n D cy ad (va_A (tm_w cy sh ad n v) sz)) (va_A (tm_w cy sh ad n v) sz)) (tmXX sh n D cy ad (va_A (tm_w cy sh ad n v) sz) (0 : UInt64) z) mc ms (va_A (tm_w cy sh ad n v) sz)
section TMF
variable {p : Program} {l : Launch} {e : Env} {R : Room} {s : State} {m : MethodId} {args : Array Value} {below : List Frame} {meth : Method} {c : Code} {cells slots : Nat} {Q : State → Prop} {cc : ByteArray} {nL : Nat} {ret : Option FieldType} {own : String} {Ts : List Cond} {NW : List Cond} {D : va_G} {cy : Nat → ClassId} {sh : Nat → tmE} {ad : Nat → Nat} {n : Nat} {X : va_W} {A : Nat → Prop}
variable {β : Type} {z : β} {pc : Nat} {lv lv' : List (Nat × Value)} {st : List Value} {v : tmM} {res r1 r2 : Option β}
theorem tg_i2d {x : Int32} (C0 : tmC p s m args meth c cc nL ret own Ts NW D cy sh ad n X A) (hdg : decode cc pc = .ok (.i2d, 1)) (k : tmG p l e R s m args below meth c cells slots Q nL D cy sh ad n X A z (pc + 1) lv (.double (FP.i2d x) :: st) v res) : tmG p l e R s m args below meth c cells slots Q nL D cy sh ad n X A z pc lv (.int x :: st) v res := fun hz H locs ls hP hS hL => by
  have hx := C0.1
  have hb := C0.2.1
  exact lv_i2d hx hb hdg (k hz H locs ls hP hS hL)
theorem tg_i2f {x : Int32} (C0 : tmC p s m args meth c cc nL ret own Ts NW D cy sh ad n X A) (hdg : decode cc pc = .ok (.i2f, 1)) (k : tmG p l e R s m args below meth c cells slots Q nL D cy sh ad n X A z (pc + 1) lv (.float (FP.i2f x) :: st) v res) : tmG p l e R s m args below meth c cells slots Q nL D cy sh ad n X A z pc lv (.int x :: st) v res := fun hz H locs ls hP hS hL => by
  have hx := C0.1
  have hb := C0.2.1
  exact lv_i2f hx hb hdg (k hz H locs ls hP hS hL)
theorem tg_fconst1 (C0 : tmC p s m args meth c cc nL ret own Ts NW D cy sh ad n X A) (hdg : decode cc pc = .ok (.fconst 1, 1)) (k : tmG p l e R s m args below meth c cells slots Q nL D cy sh ad n X A z (pc + 1) lv (.float FP.fconst1 :: st) v res) : tmG p l e R s m args below meth c cells slots Q nL D cy sh ad n X A z pc lv st v res := fun hz H locs ls hP hS hL => by
  have hx := C0.1
  have hb := C0.2.1
  exact lv_fconst1 hx hb hdg (k hz H locs ls hP hS hL)
theorem tg_dconst0 (C0 : tmC p s m args meth c cc nL ret own Ts NW D cy sh ad n X A) (hdg : decode cc pc = .ok (.dconst 0, 1)) (k : tmG p l e R s m args below meth c cells slots Q nL D cy sh ad n X A z (pc + 1) lv (.double FP.dconst0 :: st) v res) : tmG p l e R s m args below meth c cells slots Q nL D cy sh ad n X A z pc lv st v res := fun hz H locs ls hP hS hL => by
  have hx := C0.1
  have hb := C0.2.1
  exact lv_dconst0 hx hb hdg (k hz H locs ls hP hS hL)
theorem tg_ldc2d {index : Nat} {x : UInt64} (C0 : tmC p s m args meth c cc nL ret own Ts NW D cy sh ad n X A) (hdg : decode cc pc = .ok (.ldc2_w index, 3)) (hw : Cond.constantDouble own index x ∈ Ts) (k : tmG p l e R s m args below meth c cells slots Q nL D cy sh ad n X A z (pc + 3) lv (.double x :: st) v res) : tmG p l e R s m args below meth c cells slots Q nL D cy sh ad n X A z pc lv st v res := fun hz H locs ls hP hS hL => lv_ldc2d C0.1 C0.2.1 C0.2.2.2.2.2.1 (C0.2.2.2.2.2.2.1 _ hw) hdg (k hz H locs ls hP hS hL)
theorem tg_ddiv {x y : UInt64} (C0 : tmC p s m args meth c cc nL ret own Ts NW D cy sh ad n X A) (hdg : decode cc pc = .ok (.ddiv, 1)) (k : tmG p l e R s m args below meth c cells slots Q nL D cy sh ad n X A z (pc + 1) lv (.double (FP.ddiv x y) :: st) v res) : tmG p l e R s m args below meth c cells slots Q nL D cy sh ad n X A z pc lv (.double y :: .double x :: st) v (tm_g (tm_n64 (FP.ddiv x y)) res) := tg_g fun hn hz H locs ls hP hS hL => lv_ddiv C0.1 C0.2.1 hdg (tm_n64n hn) (k hz H locs ls hP hS hL)
theorem tg_fdiv {x y : UInt32} (C0 : tmC p s m args meth c cc nL ret own Ts NW D cy sh ad n X A) (hdg : decode cc pc = .ok (.fdiv, 1)) (k : tmG p l e R s m args below meth c cells slots Q nL D cy sh ad n X A z (pc + 1) lv (.float (FP.fdiv x y) :: st) v res) : tmG p l e R s m args below meth c cells slots Q nL D cy sh ad n X A z pc lv (.float y :: .float x :: st) v (tm_g (tm_n32 (FP.fdiv x y)) res) := tg_g fun hn hz H locs ls hP hS hL => lv_fdiv C0.1 C0.2.1 hdg (tm_n32n hn) (k hz H locs ls hP hS hL)
end TMF
section TMFR
variable {p : Program} {l : Launch} {e : Env} {R : Room} {s : State} {m : MethodId} {args : Array Value} {below : List Frame} {meth : Method} {c : Code} {cells slots mc ms : Nat} {cc : ByteArray} {nL : Nat} {ret : Option FieldType} {own : String} {Ts : List Cond} {NW : List Cond} {D : va_G} {cy : Nat → ClassId} {sh : Nat → tmE} {ad : Nat → Nat} {n : Nat} {A : Nat → Prop}
variable {pc : Nat} {lv lv' : List (Nat × Value)} {st : List Value} {v : tmM}
theorem tg_fret {z : UInt32 × tmM} {x : UInt32} (C0 : tmC p s m args meth c cc nL (some .float) own Ts NW D cy sh ad n [] A) (hdg : decode cc pc = .ok (.freturn, 1)) : tmG p l e R s m args below meth c 0 0 (MQ below (va_Qf (fun r u => z = (r, u)) (tmAt sh n D cy ad A) A) args s 0 0 A) nL D cy sh ad n [] A z pc lv [.float x] v (some (x, v)) := fun hz H locs ls hP hS hL => W.fret C0.1 C0.2.1 C0.2.2.2.1 (fun t ht hW => ⟨⟨x, v, rfl, (Option.some.inj hz).symm, by rw [ht]; exact tm_Pleft hP, tm_Dleft C0.dd⟩, hS.F ht⟩) hS.2.2 hdg C0.2.2.2.2.1
theorem tg_dret {z : UInt64 × tmM} {x : UInt64} (C0 : tmC p s m args meth c cc nL (some .double) own Ts NW D cy sh ad n [] A) (hdg : decode cc pc = .ok (.dreturn, 1)) : tmG p l e R s m args below meth c 0 0 (MQ below (va_Qd (fun r u => z = (r, u)) (tmAt sh n D cy ad A) A) args s 0 0 A) nL D cy sh ad n [] A z pc lv [.double x] v (some (x, v)) := fun hz H locs ls hP hS hL => W.dret C0.1 C0.2.1 C0.2.2.2.1 (fun t ht hW => ⟨⟨x, v, rfl, (Option.some.inj hz).symm, by rw [ht]; exact tm_Pleft hP, tm_Dleft C0.dd⟩, hS.F ht⟩) hS.2.2 hdg C0.2.2.2.2.1
theorem tg_xdret {z : (Nat × UInt64) × tmM} {x : UInt64} (C0 : tmC p s m args meth c cc nL (some .double) own Ts NW D cy sh ad n [] A) (hdg : decode cc pc = .ok (.dreturn, 1)) (hc : cells ≤ mc ∧ slots ≤ ms) : tmG p l e R s m args below meth c cells slots (vx_MQ below (va_Qd (fun r u => z = ((0, r), u)) (tmAt sh n D cy ad A) A) (tmXX sh n D cy ad A (0 : UInt64) z) args s mc ms A) nL D cy sh ad n [] A z pc lv [.double x] v (some ((0, x), v)) := fun hz H locs ls hP hS hL => vx_ret (W.widen hc.1 hc.2 (W.dret C0.1 C0.2.1 C0.2.2.2.1 (fun t ht hW => ⟨⟨x, v, rfl, (Option.some.inj hz).symm, by rw [ht]; exact tm_Pleft hP, tm_Dleft C0.dd⟩, hS.F ht⟩) hS.2.2 hdg C0.2.2.2.2.1))

theorem tmMf.of {y : MethodName} {ws : List Cond} {rm : Room} {av : (Nat → Nat) → List Value} {o : Option (UInt32 × tmM)} {rty : FieldType} (hy : plainName y.cls = true) (hw : ws = Cond.code y cc nL (some rty) :: Ts) (hn : NW.all tm_isN = true) (hlen : ∀ ad : Nat → Nat, (lg_sl (av ad)).length ≤ nL)
    (h : ∀ (p : Program) (e : Env) (s : State) (m : MethodId) (args : Array Value) (below : List Frame) (meth : Method) (c : Code) (A : Nat → Prop) (D : va_G) (cy : Nat → ClassId) (ad : Nat → Nat) (z : UInt32 × tmM), tmC p s m args meth c cc nL (some rty) y.cls Ts NW D cy sh ad n [] A → tmG p l e rm s m args below meth c 0 0 (MQ below (va_Qf (fun r u => z = (r, u)) (tmAt sh n D cy ad A) A) args s 0 0 A) nL D cy sh ad n [] A z 0 (lv_args 0 (av ad)) [] v o) : tmMf NW sh n l y ws rm av v o := by
  intro D cy ad sz z hz
  refine Met.ofW (cc := cc) (maxL := nL) (ret := (some rty)) hy hw ?_
  intro p e s m args below meth c s₁ B hml hv
  obtain ⟨rfl, hsz, hP, hK, hN, hD0⟩ := hv
  have hx := B.exec
  have hb := B.bytes
  have hr := B.returns
  have hts : ∀ w ∈ Ts, w.before _ s = true := fun w h => atoms_spec (ws := ws) B.pre w (by rw [hw]; exact List.mem_cons_of_mem _ h)
  have hown : s.vm.findClass y.cls = some m.cls := findClass_of_methodNamed B.named
  have hlocks := B.notSynchronized
  subst hsz
  have hD := hD0.self (sz := s.heap.size)
  generalize hAe : va_A (tm_w cy sh ad n v) s.heap.size = A at hD ⊢
  have hA : ∀ q : Nat, s.heap.size ≤ q → A q := fun q h => by rw [← hAe]; exact Or.inr h
  have hl := lv_entry (av ad) (n := nL) (hlen ad)
  rw [lg_entry_eq]
  exact h p e s m _ below meth c A D cy ad z ⟨hx, hb, hml, hr, hlocks, hown, hts, hK, hN, hn, by rw [List.append_nil]; exact tm_Dw hD, hA⟩ hz s.heap [] _ (by rw [List.append_nil]; exact hP) va_S.rf hl
theorem tmMd.of {y : MethodName} {ws : List Cond} {rm : Room} {av : (Nat → Nat) → List Value} {o : Option (UInt64 × tmM)} {rty : FieldType} (hy : plainName y.cls = true) (hw : ws = Cond.code y cc nL (some rty) :: Ts) (hn : NW.all tm_isN = true) (hlen : ∀ ad : Nat → Nat, (lg_sl (av ad)).length ≤ nL)
    (h : ∀ (p : Program) (e : Env) (s : State) (m : MethodId) (args : Array Value) (below : List Frame) (meth : Method) (c : Code) (A : Nat → Prop) (D : va_G) (cy : Nat → ClassId) (ad : Nat → Nat) (z : UInt64 × tmM), tmC p s m args meth c cc nL (some rty) y.cls Ts NW D cy sh ad n [] A → tmG p l e rm s m args below meth c 0 0 (MQ below (va_Qd (fun r u => z = (r, u)) (tmAt sh n D cy ad A) A) args s 0 0 A) nL D cy sh ad n [] A z 0 (lv_args 0 (av ad)) [] v o) : tmMd NW sh n l y ws rm av v o := by
  intro D cy ad sz z hz
  refine Met.ofW (cc := cc) (maxL := nL) (ret := (some rty)) hy hw ?_
  intro p e s m args below meth c s₁ B hml hv
  obtain ⟨rfl, hsz, hP, hK, hN, hD0⟩ := hv
  have hx := B.exec
  have hb := B.bytes
  have hr := B.returns
  have hts : ∀ w ∈ Ts, w.before _ s = true := fun w h => atoms_spec (ws := ws) B.pre w (by rw [hw]; exact List.mem_cons_of_mem _ h)
  have hown : s.vm.findClass y.cls = some m.cls := findClass_of_methodNamed B.named
  have hlocks := B.notSynchronized
  subst hsz
  have hD := hD0.self (sz := s.heap.size)
  generalize hAe : va_A (tm_w cy sh ad n v) s.heap.size = A at hD ⊢
  have hA : ∀ q : Nat, s.heap.size ≤ q → A q := fun q h => by rw [← hAe]; exact Or.inr h
  have hl := lv_entry (av ad) (n := nL) (hlen ad)
  rw [lg_entry_eq]
  exact h p e s m _ below meth c A D cy ad z ⟨hx, hb, hml, hr, hlocks, hown, hts, hK, hN, hn, by rw [List.append_nil]; exact tm_Dw hD, hA⟩ hz s.heap [] _ (by rw [List.append_nil]; exact hP) va_S.rf hl
theorem tmXd.of {rty : FieldType} {y : MethodName} {ws : List Cond} {rm : Room} {av : (Nat → Nat) → List Value} {o : Option ((Nat × UInt64) × tmM)} (hy : plainName y.cls = true) (hw : ws = Cond.code y cc nL (some rty) :: Ts) (hn : NW.all tm_isN = true) (hlen : ∀ ad : Nat → Nat, (lg_sl (av ad)).length ≤ nL)
    (h : ∀ (p : Program) (e : Env) (s : State) (m : MethodId) (args : Array Value) (below : List Frame) (meth : Method) (c : Code) (A : Nat → Prop) (D : va_G) (cy : Nat → ClassId) (ad : Nat → Nat) (z : ((Nat × UInt64) × tmM)), tmC p s m args meth c cc nL (some rty) y.cls Ts NW D cy sh ad n [] A → tmTh A s s.heap → (∀ x ∈ c.exceptionTable.toList, False) → tmG p l e rm s m args below meth c 0 0 (vx_MQ below (va_Qd (fun r u => z = ((0, r), u)) (tmAt sh n D cy ad A) A) (tmXX sh n D cy ad A (0 : UInt64) z) args s mc ms A) nL D cy sh ad n [] A z 0 (lv_args 0 (av ad)) [] v o) : tmXd NW sh n l y ws rm av v mc ms o := by
  intro D cy ad sz z hz
  refine vx_ofW (cc := cc) (maxL := nL) (ret := (some rty)) hy hw ?_
  intro p e s m args below meth c s₁ B hml hno hv
  obtain ⟨rfl, ⟨hsz, hP, hK, hN, hD0⟩, hE⟩ := hv
  have hx := B.exec
  have hb := B.bytes
  have hr := B.returns
  have hts : ∀ w ∈ Ts, w.before _ s = true := fun w h => atoms_spec (ws := ws) B.pre w (by rw [hw]; exact List.mem_cons_of_mem _ h)
  have hown : s.vm.findClass y.cls = some m.cls := findClass_of_methodNamed B.named
  have hlocks := B.notSynchronized
  subst hsz
  have hD := hD0.self (sz := s.heap.size)
  generalize hAe : va_A (tm_w cy sh ad n v) s.heap.size = A at hD hE ⊢
  have hA : ∀ q : Nat, s.heap.size ≤ q → A q := fun q h => by rw [← hAe]; exact Or.inr h
  have hl := lv_entry (av ad) (n := nL) (hlen ad)
  rw [lg_entry_eq]
  exact h p e s m _ below meth c A D cy ad z ⟨hx, hb, hml, hr, hlocks, hown, hts, hK, hN, hn, by rw [List.append_nil]; exact tm_Dw hD, hA⟩ hE hno hz s.heap [] _ (by rw [List.append_nil]; exact hP) va_S.rf hl
theorem tg_callSxd {z : (Nat × UInt64) × tmM} {y : MethodName} {wsy ws' : List Cond} {rmy : Room} {av : (Nat → Nat) → List Value} {o : Option tmR} {K : Int32 → tmM → Option ((Nat × UInt64) × tmM)} {bytes : ByteArray} {maxL idx : Nat} {rt : Option FieldType} {As st0 : List Value} (na : Nat) (C0 : tmC p s m args meth c cc nL ret own Ts NW D cy sh ad n [] A) (hE : tmTh A s s.heap) (hout : ∀ x ∈ c.exceptionTable.toList, False) (hdg : decode cc pc = .ok (.invokestatic idx, 3)) (hM : tmXv NW sh n l y wsy rmy av v 1 6 o) (hav : av ad = As) (hst : st0 = As.reverse ++ st) (hG : GoodIn Ts (wsS own idx y wsy)) (hna : As.length = na) (hw : wsy = Cond.code y bytes maxL rt :: ws') (hrc : rmy.cells = 1) (hrs : rmy.slots = 6) (hd : y.cls = own ∧ y.cls ≠ "java/lang/invoke/MethodHandle" ∧ y.cls ≠ "java/lang/invoke/VarHandle" ∧ (parseMethodDescriptor y.desc).map (fun d => d.parameters.length) = some na) (hR : rmy.frames + 1 ≤ R.frames ∧ 8 + (maxL + 11) + rmy.locals ≤ R.locals) (hcat : (st.map fun v => v.category).sum ≤ 8) (hcs : cells + 1 ≤ R.cells ∧ slots + 6 ≤ R.slots) (hc : cells + 1 ≤ mc ∧ slots + 6 ≤ ms) (k : ∀ (v' : tmM), o = some ((0, 0), v') → tmG p l e R s m args below meth c (cells + 1) (slots + 6) (vx_MQ below (va_Qd (fun r u => z = ((0, r), u)) (tmAt sh n D cy ad A) A) (tmXX sh n D cy ad A (0 : UInt64) z) args s mc ms A) nL D cy sh ad n [] A z (pc + 3) lv st v' (K 0 v')) : tmG p l e R s m args below meth c cells slots (vx_MQ below (va_Qd (fun r u => z = ((0, r), u)) (tmAt sh n D cy ad A) A) (tmXX sh n D cy ad A (0 : UInt64) z) args s mc ms A) nL D cy sh ad n [] A z pc lv st0 v (tm_cx o K (0 : UInt64)) := by
  intro hz
  cases ho : o with
  | none => rw [ho] at hz; cases hz
  | some y0 =>
    rw [ho] at hz
    intro H locs ls hP hS hL
    have hMet := hM D cy ad H.size y0 ho
    have hts := C0.2.2.2.2.2.2.1
    have hF := tm_free (w1 := tm_w cy sh ad n v) (w2 := []) C0.dd hS C0.2.2.2.2.2.2.2.2.2.2.2
    subst hst
    refine vx_callv (vx_runS (As := As) (rest := st) ⟨C0.1, C0.2.1, C0.2.2.1, C0.2.2.2.2.2.1, hts⟩ hMet (cwS na hts hG hw hrc hrs hd hR) ⟨tmXP.blind C0.2.2.2.2.2.2.2.2.2.1 _, fun U hU hW => ⟨by rw [hav], ⟨by rw [hU], by rw [hU]; exact tm_Pleft hP, va_K.moved hW.alike C0.2.2.2.2.2.2.2.1, tmNs.warm C0.2.2.2.2.2.2.2.2.2.1 hW C0.2.2.2.2.2.2.2.2.1, (tm_Dleft C0.dd).weaken (fun _ _ _ _ => trivial)⟩, hE.go hS hF hU hW⟩⟩ rfl hna hL.1 rfl (lv_room hcat) hdg hcs) hS (fun q _ h => hF q h) hF (fun q _ h => hF q h) (fun E ce q9 u t H1 locs1 ht hvm hpx hBX hz1 hk1 hS1 hq9 hcv hcl => ?_) (fun u t H1 locs1 ht hvm hw2 hB hz1 hk1 hS1 => ?_)
    · obtain ⟨hEx, hP1, hD1⟩ := hBX
      rw [ht] at hP1
      have hj := tm_join hP C0.dd hk1 hF hP1 hD1
      have hz2 : some ((u.1 + 1, (0 : UInt64)), u.2) = some z := by
        rw [hpx] at hz
        exact hz
      refine vx_out (fun x hx => (hout x hx).elim) C0.2.2.2.2.1 hq9 hcv hcl (fun t2 ht2 hvm2 => ⟨u, (Option.some.inj hz2).symm, ⟨hEx, by rw [ht2]; exact tm_Pleft hj.1, tm_Dleft hj.2⟩, hS1.F ht2⟩) hS1.2.2 hc.1 hc.2
    · obtain ⟨hP1, hD1⟩ := hB
      rw [ht] at hP1
      have hj := tm_join hP C0.dd hk1 hF hP1 hD1
      rw [hw2] at hz ho
      exact k u ho hz H1 locs1 ls hj.1 hS1 hL
end TMFR
