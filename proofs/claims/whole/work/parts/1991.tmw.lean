/-! ===== the class's cells and its text beside them ===== -/
def tmXB (cy : Nat → ClassId) (a0 κ b0 : Nat) (u : tmM) : va_W := tm_w cy (tm_shB κ) (tm_aB a0 b0) 2 u
def tmWt (sh : Nat → tmE) (n : Nat) (D : va_G) (cy : Nat → ClassId) (ad : Nat → Nat) (A : Nat → Prop) (y : tmM × List Int32) (t : State) : Prop := ∃ (κ b0 : Nat) (u : tmM), tmTx κ u y.2 ∧ va_P D vwCl (tm_w cy sh ad n y.1 ++ tmXB cy (ad 256) κ b0 u) t.heap ∧ va_D A (tm_w cy sh ad n y.1 ++ tmXB cy (ad 256) κ b0 u)
def tmWP (NW : List Cond) (sh : Nat → tmE) (n : Nat) (adK adV adE : Nat → Nat) (tC : Nat) (D : va_G) (cy : Nat → ClassId) (ad : Nat → Nat) (sz : Nat) (v : tmM) (κ b0 : Nat) (u : tmM) : State → Prop := fun U => (U.heap.size = sz ∧ va_P D vwCl (tm_w cy sh ad n v ++ tmXB cy (ad 256) κ b0 u) U.heap ∧ va_K D vwCl (tm_tys cy) U ∧ tmNs NW U ∧ va_D (fun _ => True) (tm_w cy sh ad n v ++ tmXB cy (ad 256) κ b0 u)) ∧ tmSc adK adV adE tC (va_A (tm_w cy sh ad n v ++ tmXB cy (ad 256) κ b0 u) sz) U U.heap
theorem tmWP.blind {NW : List Cond} (hn : NW.all tm_isN = true) {sh : Nat → tmE} {n : Nat} {adK adV adE : Nat → Nat} {tC : Nat} {D : va_G} {cy : Nat → ClassId} {ad : Nat → Nat} {sz : Nat} {v : tmM} {κ b0 : Nat} {u : tmM} (av : List Value) : FrameBlind (va_Pc av (tmWP NW sh n adK adV adE tC D cy ad sz v κ b0 u)) := fun a U g mk q => by
  obtain ⟨q0, ⟨h1, h2, h3, h4, h5⟩, q2⟩ := q
  exact ⟨q0, ⟨h1, h2, va_K.moved (u := U) (U := U.calling g mk a) (Vm.Alike.refl U.vm) h3, tmNs.same (u := U) hn rfl h4, h5⟩, q2.call⟩
def tmWv (NW : List Cond) (sh : Nat → tmE) (n : Nat) (l : Launch) (adK adV adE : Nat → Nat) (tC : Nat) (y : MethodName) (ws : List Cond) (rm : Room) (av : (Nat → Nat) → List Value) (v : tmM) (bs : List Int32) (mc ms : Nat) (o : Option (Unit × (tmM × List Int32))) : Prop :=
  ∀ (D : va_G) (cy : Nat → ClassId) (ad : Nat → Nat) (sz κ b0 : Nat) (u : tmM) (z : Unit × (tmM × List Int32)), tmTx κ u bs → o = some z → Met l y ws rm (va_Pc (av ad) (tmWP NW sh n adK adV adE tC D cy ad sz v κ b0 u)) (va_Qv (fun r => z = ((), r)) (tmWt sh n D cy ad (va_A (tm_w cy sh ad n v ++ tmXB cy (ad 256) κ b0 u) sz)) (va_A (tm_w cy sh ad n v ++ tmXB cy (ad 256) κ b0 u) sz)) mc ms (va_A (tm_w cy sh ad n v ++ tmXB cy (ad 256) κ b0 u) sz)
def tmWi (NW : List Cond) (sh : Nat → tmE) (n : Nat) (l : Launch) (adK adV adE : Nat → Nat) (tC : Nat) (y : MethodName) (ws : List Cond) (rm : Room) (av : (Nat → Nat) → List Value) (v : tmM) (bs : List Int32) (mc ms : Nat) (o : Option (Int32 × (tmM × List Int32))) : Prop :=
  ∀ (D : va_G) (cy : Nat → ClassId) (ad : Nat → Nat) (sz κ b0 : Nat) (u : tmM) (z : Int32 × (tmM × List Int32)), tmTx κ u bs → o = some z → Met l y ws rm (va_Pc (av ad) (tmWP NW sh n adK adV adE tC D cy ad sz v κ b0 u)) (va_Qi (fun r w => z = (r, w)) (tmWt sh n D cy ad (va_A (tm_w cy sh ad n v ++ tmXB cy (ad 256) κ b0 u) sz)) (va_A (tm_w cy sh ad n v ++ tmXB cy (ad 256) κ b0 u) sz)) mc ms (va_A (tm_w cy sh ad n v ++ tmXB cy (ad 256) κ b0 u) sz)
def tm_cw {α β : Type} (o : Option (α × (tmM × List Int32))) (k : α → tmM → List Int32 → Option β) : Option β := match o with
  | none => none
  | some y => k y.1 y.2.1 y.2.2
section TMW0
variable {p : Program} {l : Launch} {e : Env} {R : Room} {s : State} {m : MethodId} {args : Array Value} {below : List Frame} {meth : Method} {c : Code} {cells slots mc ms : Nat} {Q : State → Prop} {cc : ByteArray} {nL : Nat} {ret : Option FieldType} {own : String} {Ts : List Cond} {NW : List Cond} {D : va_G} {cy : Nat → ClassId} {sh : Nat → tmE} {ad : Nat → Nat} {n : Nat} {A : Nat → Prop} {adK adV adE : Nat → Nat} {tC κ b0 : Nat} {u : tmM}
variable {γ : Type} {z : γ} {pc : Nat} {lv lv' : List (Nat × Value)} {st : List Value} {v : tmM} {bs : List Int32}
theorem tw_iret {z : Int32 × (tmM × List Int32)} {x : Int32} (C0 : tmC p s m args meth c cc nL (some .int) own Ts NW D cy sh ad n (tmXB cy (ad 256) κ b0 u) A) (hT : tmTx κ u bs) (hdg : decode cc pc = .ok (.ireturn, 1)) (hc : cells ≤ mc ∧ slots ≤ ms) : tmG p l e R s m args below meth c cells slots (MQ below (va_Qi (fun r w => z = (r, w)) (tmWt sh n D cy ad A) A) args s mc ms A) nL D cy sh ad n (tmXB cy (ad 256) κ b0 u) A z pc lv [.int x] v (some (x, (v, bs))) := fun hz H locs ls hP hS hL => W.widen hc.1 hc.2 (W.iret C0.1 C0.2.1 C0.2.2.2.1 (fun t ht hW => ⟨⟨x, (v, bs), rfl, (Option.some.inj hz).symm, κ, b0, u, hT, by rw [ht]; exact hP, C0.dd⟩, hS.F ht⟩) hS.2.2 hdg C0.2.2.2.2.1)
theorem tw_vret {z : Unit × (tmM × List Int32)} (C0 : tmC p s m args meth c cc nL none own Ts NW D cy sh ad n (tmXB cy (ad 256) κ b0 u) A) (hT : tmTx κ u bs) (hdg : decode cc pc = .ok (.return_, 1)) (hc : cells ≤ mc ∧ slots ≤ ms) : tmG p l e R s m args below meth c cells slots (MQ below (va_Qv (fun r => z = ((), r)) (tmWt sh n D cy ad A) A) args s mc ms A) nL D cy sh ad n (tmXB cy (ad 256) κ b0 u) A z pc lv [] v (some ((), (v, bs))) := fun hz H locs ls hP hS hL => W.widen hc.1 hc.2 (W.vret C0.1 C0.2.1 C0.2.2.2.1 (fun t ht hW => ⟨⟨(v, bs), rfl, (Option.some.inj hz).symm, κ, b0, u, hT, by rw [ht]; exact hP, C0.dd⟩, hS.F ht⟩) hS.2.2 hdg C0.2.2.2.2.1)
theorem tmWv.of {y : MethodName} {ws : List Cond} {rm : Room} {av : (Nat → Nat) → List Value} {o : Option (Unit × (tmM × List Int32))} (hy : plainName y.cls = true) (hw : ws = Cond.code y cc nL none :: Ts) (hn : NW.all tm_isN = true) (hlen : ∀ ad : Nat → Nat, (lg_sl (av ad)).length ≤ nL)
    (h : ∀ (p : Program) (e : Env) (s : State) (m : MethodId) (args : Array Value) (below : List Frame) (meth : Method) (c : Code) (A : Nat → Prop) (D : va_G) (cy : Nat → ClassId) (ad : Nat → Nat) (κ b0 : Nat) (u : tmM) (z : Unit × (tmM × List Int32)), tmC p s m args meth c cc nL none y.cls Ts NW D cy sh ad n (tmXB cy (ad 256) κ b0 u) A → tmSc adK adV adE tC A s s.heap → tmTx κ u bs → tmG p l e rm s m args below meth c 0 0 (MQ below (va_Qv (fun r => z = ((), r)) (tmWt sh n D cy ad A) A) args s mc ms A) nL D cy sh ad n (tmXB cy (ad 256) κ b0 u) A z 0 (lv_args 0 (av ad)) [] v o) : tmWv NW sh n l adK adV adE tC y ws rm av v bs mc ms o := by
  intro D cy ad sz κ b0 u z hT hz
  refine Met.ofW (cc := cc) (maxL := nL) (ret := none) hy hw ?_
  intro p e s m args below meth c s₁ B hml hv
  obtain ⟨rfl, ⟨hsz, hP, hK, hN, hD0⟩, hE⟩ := hv
  have hx := B.exec
  have hb := B.bytes
  have hr := B.returns
  have hts : ∀ w ∈ Ts, w.before _ s = true := fun w h => atoms_spec (ws := ws) B.pre w (by rw [hw]; exact List.mem_cons_of_mem _ h)
  have hown : s.vm.findClass y.cls = some m.cls := findClass_of_methodNamed B.named
  have hlocks := B.notSynchronized
  subst hsz
  have hD := hD0.self (sz := s.heap.size)
  generalize hAe : va_A (tm_w cy sh ad n v ++ tmXB cy (ad 256) κ b0 u) s.heap.size = A at hD hE ⊢
  have hA : ∀ q : Nat, s.heap.size ≤ q → A q := fun q h => by rw [← hAe]; exact Or.inr h
  have hl := lv_entry (av ad) (n := nL) (hlen ad)
  rw [lg_entry_eq]
  exact h p e s m _ below meth c A D cy ad κ b0 u z ⟨hx, hb, hml, hr, hlocks, hown, hts, hK, hN, hn, tm_Dv hD, hA⟩ hE hT hz s.heap [] _ hP va_S.rf hl
theorem tmWi.of {y : MethodName} {ws : List Cond} {rm : Room} {av : (Nat → Nat) → List Value} {o : Option (Int32 × (tmM × List Int32))} {rty : FieldType} (hy : plainName y.cls = true) (hw : ws = Cond.code y cc nL (some rty) :: Ts) (hn : NW.all tm_isN = true) (hlen : ∀ ad : Nat → Nat, (lg_sl (av ad)).length ≤ nL)
    (h : ∀ (p : Program) (e : Env) (s : State) (m : MethodId) (args : Array Value) (below : List Frame) (meth : Method) (c : Code) (A : Nat → Prop) (D : va_G) (cy : Nat → ClassId) (ad : Nat → Nat) (κ b0 : Nat) (u : tmM) (z : Int32 × (tmM × List Int32)), tmC p s m args meth c cc nL (some rty) y.cls Ts NW D cy sh ad n (tmXB cy (ad 256) κ b0 u) A → tmSc adK adV adE tC A s s.heap → tmTx κ u bs → tmG p l e rm s m args below meth c 0 0 (MQ below (va_Qi (fun r w => z = (r, w)) (tmWt sh n D cy ad A) A) args s mc ms A) nL D cy sh ad n (tmXB cy (ad 256) κ b0 u) A z 0 (lv_args 0 (av ad)) [] v o) : tmWi NW sh n l adK adV adE tC y ws rm av v bs mc ms o := by
  intro D cy ad sz κ b0 u z hT hz
  refine Met.ofW (cc := cc) (maxL := nL) (ret := (some rty)) hy hw ?_
  intro p e s m args below meth c s₁ B hml hv
  obtain ⟨rfl, ⟨hsz, hP, hK, hN, hD0⟩, hE⟩ := hv
  have hx := B.exec
  have hb := B.bytes
  have hr := B.returns
  have hts : ∀ w ∈ Ts, w.before _ s = true := fun w h => atoms_spec (ws := ws) B.pre w (by rw [hw]; exact List.mem_cons_of_mem _ h)
  have hown : s.vm.findClass y.cls = some m.cls := findClass_of_methodNamed B.named
  have hlocks := B.notSynchronized
  subst hsz
  have hD := hD0.self (sz := s.heap.size)
  generalize hAe : va_A (tm_w cy sh ad n v ++ tmXB cy (ad 256) κ b0 u) s.heap.size = A at hD hE ⊢
  have hA : ∀ q : Nat, s.heap.size ≤ q → A q := fun q h => by rw [← hAe]; exact Or.inr h
  have hl := lv_entry (av ad) (n := nL) (hlen ad)
  rw [lg_entry_eq]
  exact h p e s m _ below meth c A D cy ad κ b0 u z ⟨hx, hb, hml, hr, hlocks, hown, hts, hK, hN, hn, tm_Dv hD, hA⟩ hE hT hz s.heap [] _ hP va_S.rf hl
theorem tw_callr {y : MethodName} {wsy ws' : List Cond} {rmy : Room} {av : Nat → Nat → List Value} {bytes : ByteArray} {maxL idx : Nat} {rt : Option FieldType} {As st0 : List Value} {κ1 mc1 ms1 : Nat} {u1 : tmM} {res : Option γ} (na : Nat) (C0 : tmC p s m args meth c cc nL ret own Ts NW D cy sh ad n (tmXB cy (ad 256) κ b0 u) A) (hE : tmSc adK adV adE tC A s s.heap) (hdg : decode cc pc = .ok (.invokevirtual idx, 3)) (hM : tmBr NW l adK adV adE tC y wsy rmy av κ u mc1 ms1 (some ((), (κ1, u1)))) (hav : av (ad 256) b0 = .ref (ad 256) :: As) (hst : st0 = As.reverse ++ .ref (ad 256) :: st) (hG : GoodIn Ts (wsV own idx RJ4 y wsy)) (hna : As.length = na) (hw : wsy = Cond.code y bytes maxL rt :: ws') (hrc : rmy.cells = mc1) (hrs : rmy.slots = ms1) (hd : y.cls = RJ4 ∧ y.cls ≠ "java/lang/invoke/MethodHandle" ∧ y.cls ≠ "java/lang/invoke/VarHandle" ∧ (parseMethodDescriptor y.desc).map (fun d => d.parameters.length) = some na) (hR : rmy.frames + 1 ≤ R.frames ∧ 8 + (maxL + 11) + rmy.locals ≤ R.locals) (hcat : (st.map fun v => v.category).sum ≤ 8) (hcs : cells + mc1 ≤ R.cells ∧ slots + ms1 ≤ R.slots) (k : ∀ b1 : Nat, tmC p s m args meth c cc nL ret own Ts NW D cy sh ad n (tmXB cy (ad 256) κ1 b1 u1) A → tmG p l e R s m args below meth c (cells + mc1) (slots + ms1) Q nL D cy sh ad n (tmXB cy (ad 256) κ1 b1 u1) A z (pc + 3) lv (.ref (ad 256) :: st) v res) : tmG p l e R s m args below meth c cells slots Q nL D cy sh ad n (tmXB cy (ad 256) κ b0 u) A z pc lv st0 v res := by
  intro hz H locs ls hP hS hL
  have hMet := hM D cy (ad 256) b0 H.size ((), (κ1, u1)) rfl
  have hts := C0.2.2.2.2.2.2.1
  have hP2 := tm_swapP hP
  have hD2 := tm_swapD (C0.dd (v := v))
  have hF := tm_free (w1 := tmXB cy (ad 256) κ b0 u) (w2 := tm_w cy sh ad n v) hD2 hS C0.2.2.2.2.2.2.2.2.2.2.2
  have ha := tm_wget (cy := cy) (sh := tm_shB κ) (ad := tm_aB (ad 256) b0) (n := 2) (v := u) (X := tm_w cy sh ad n v) (k := 0) (by decide)
  subst hst
  refine va_callr (va_runV (As := As) (rest := st) ⟨C0.1, C0.2.1, C0.2.2.1, C0.2.2.2.2.2.1, hts⟩ hMet (cwV na hts hG hw hrc hrs hd hR) ⟨tmYP.blind C0.2.2.2.2.2.2.2.2.2.1 _, va_recv (q0 := 0) (ci := 1) (q := (RJ4, TJ4, 4)) C0.2.2.2.2.2.2.2.1 hP2 rfl ha, fun U hU hW => ⟨congrArg List.toArray hav.symm, ⟨by rw [hU], by rw [hU]; exact tm_Pleft hP2, va_K.moved hW.alike C0.2.2.2.2.2.2.2.1, tmNs.warm C0.2.2.2.2.2.2.2.2.2.1 hW C0.2.2.2.2.2.2.2.2.1, (tm_Dleft hD2).weaken (fun _ _ _ _ => trivial)⟩, hE.go hS hF hU hW⟩⟩ rfl hna hL.1 rfl (lv_room hcat) hdg ⟨hcs.1, hcs.2⟩) hS (fun q _ h => hF q h) hF (fun w ra t H1 locs1 ht hvm hw2 hB hz1 hk1 hS1 => ?_)
  obtain ⟨ra1, b1, hP1, hD1⟩ := hB
  subst ra1
  rw [ht] at hP1
  cases hw2
  have hj := tm_join hP2 hD2 hk1 hF hP1 hD1
  exact k b1 (C0.ad (v := v) (tm_swapD hj.2)) hz H1 locs1 ls (tm_swapP hj.1) hS1 hL
theorem tw_callv {y : MethodName} {wsy ws' : List Cond} {rmy : Room} {av : Nat → Nat → List Value} {bytes : ByteArray} {maxL idx : Nat} {rt : Option FieldType} {As st0 : List Value} {κ1 mc1 ms1 : Nat} {u1 : tmM} {res : Option γ} (na : Nat) (C0 : tmC p s m args meth c cc nL ret own Ts NW D cy sh ad n (tmXB cy (ad 256) κ b0 u) A) (hE : tmSc adK adV adE tC A s s.heap) (hdg : decode cc pc = .ok (.invokevirtual idx, 3)) (hM : tmBv NW l adK adV adE tC y wsy rmy av κ u mc1 ms1 (some ((), (κ1, u1)))) (hav : av (ad 256) b0 = .ref (ad 256) :: As) (hst : st0 = As.reverse ++ .ref (ad 256) :: st) (hG : GoodIn Ts (wsV own idx RJ4 y wsy)) (hna : As.length = na) (hw : wsy = Cond.code y bytes maxL rt :: ws') (hrc : rmy.cells = mc1) (hrs : rmy.slots = ms1) (hd : y.cls = RJ4 ∧ y.cls ≠ "java/lang/invoke/MethodHandle" ∧ y.cls ≠ "java/lang/invoke/VarHandle" ∧ (parseMethodDescriptor y.desc).map (fun d => d.parameters.length) = some na) (hR : rmy.frames + 1 ≤ R.frames ∧ 8 + (maxL + 11) + rmy.locals ≤ R.locals) (hcat : (st.map fun v => v.category).sum ≤ 8) (hcs : cells + mc1 ≤ R.cells ∧ slots + ms1 ≤ R.slots) (k : ∀ b1 : Nat, tmC p s m args meth c cc nL ret own Ts NW D cy sh ad n (tmXB cy (ad 256) κ1 b1 u1) A → tmG p l e R s m args below meth c (cells + mc1) (slots + ms1) Q nL D cy sh ad n (tmXB cy (ad 256) κ1 b1 u1) A z (pc + 3) lv st v res) : tmG p l e R s m args below meth c cells slots Q nL D cy sh ad n (tmXB cy (ad 256) κ b0 u) A z pc lv st0 v res := by
  intro hz H locs ls hP hS hL
  have hMet := hM D cy (ad 256) b0 H.size ((), (κ1, u1)) rfl
  have hts := C0.2.2.2.2.2.2.1
  have hP2 := tm_swapP hP
  have hD2 := tm_swapD (C0.dd (v := v))
  have hF := tm_free (w1 := tmXB cy (ad 256) κ b0 u) (w2 := tm_w cy sh ad n v) hD2 hS C0.2.2.2.2.2.2.2.2.2.2.2
  have ha := tm_wget (cy := cy) (sh := tm_shB κ) (ad := tm_aB (ad 256) b0) (n := 2) (v := u) (X := tm_w cy sh ad n v) (k := 0) (by decide)
  subst hst
  refine va_callv (va_runV (As := As) (rest := st) ⟨C0.1, C0.2.1, C0.2.2.1, C0.2.2.2.2.2.1, hts⟩ hMet (cwV na hts hG hw hrc hrs hd hR) ⟨tmYP.blind C0.2.2.2.2.2.2.2.2.2.1 _, va_recv (q0 := 0) (ci := 1) (q := (RJ4, TJ4, 4)) C0.2.2.2.2.2.2.2.1 hP2 rfl ha, fun U hU hW => ⟨congrArg List.toArray hav.symm, ⟨by rw [hU], by rw [hU]; exact tm_Pleft hP2, va_K.moved hW.alike C0.2.2.2.2.2.2.2.1, tmNs.warm C0.2.2.2.2.2.2.2.2.2.1 hW C0.2.2.2.2.2.2.2.2.1, (tm_Dleft hD2).weaken (fun _ _ _ _ => trivial)⟩, hE.go hS hF hU hW⟩⟩ rfl hna hL.1 rfl (lv_room hcat) hdg ⟨hcs.1, hcs.2⟩) hS (fun q _ h => hF q h) hF (fun w t H1 locs1 ht hvm hw2 hB hz1 hk1 hS1 => ?_)
  obtain ⟨b1, hP1, hD1⟩ := hB
  rw [ht] at hP1
  cases hw2
  have hj := tm_join hP2 hD2 hk1 hF hP1 hD1
  exact k b1 (C0.ad (v := v) (tm_swapD hj.2)) hz H1 locs1 ls (tm_swapP hj.1) hS1 hL
theorem tw_calli {y : MethodName} {wsy ws' : List Cond} {rmy : Room} {av : (Nat → Nat) → List Value} {bytes : ByteArray} {maxL idx : Nat} {rt : Option FieldType} {As st0 : List Value} {r : Int32} {u1 : tmM} {res : Option γ} (na : Nat) (C0 : tmC p s m args meth c cc nL ret own Ts NW D cy sh ad n (tmXB cy (ad 256) κ b0 u) A) (hE : tmSc adK adV adE tC A s s.heap) (hdg : decode cc pc = .ok (.invokevirtual idx, 3)) (hM : tmYi NW (tm_shB κ) 2 l adK adV adE tC y wsy rmy av u (some (r, u1))) (hav : av (tm_aB (ad 256) b0) = .ref (ad 256) :: As) (hst : st0 = As.reverse ++ .ref (ad 256) :: st) (hG : GoodIn Ts (wsV own idx RJ4 y wsy)) (hna : As.length = na) (hw : wsy = Cond.code y bytes maxL rt :: ws') (hrc : rmy.cells = 0) (hrs : rmy.slots = 0) (hd : y.cls = RJ4 ∧ y.cls ≠ "java/lang/invoke/MethodHandle" ∧ y.cls ≠ "java/lang/invoke/VarHandle" ∧ (parseMethodDescriptor y.desc).map (fun d => d.parameters.length) = some na) (hR : rmy.frames + 1 ≤ R.frames ∧ 8 + (maxL + 11) + rmy.locals ≤ R.locals) (hcat : (st.map fun v => v.category).sum ≤ 8) (hcs : cells ≤ R.cells ∧ slots ≤ R.slots) (k : tmC p s m args meth c cc nL ret own Ts NW D cy sh ad n (tmXB cy (ad 256) κ b0 u1) A → tmG p l e R s m args below meth c cells slots Q nL D cy sh ad n (tmXB cy (ad 256) κ b0 u1) A z (pc + 3) lv (.int r :: st) v res) : tmG p l e R s m args below meth c cells slots Q nL D cy sh ad n (tmXB cy (ad 256) κ b0 u) A z pc lv st0 v res := by
  intro hz H locs ls hP hS hL
  have hMet := hM D cy (tm_aB (ad 256) b0) H.size (r, u1) rfl
  have hts := C0.2.2.2.2.2.2.1
  have hP2 := tm_swapP hP
  have hD2 := tm_swapD (C0.dd (v := v))
  have hF := tm_free (w1 := tmXB cy (ad 256) κ b0 u) (w2 := tm_w cy sh ad n v) hD2 hS C0.2.2.2.2.2.2.2.2.2.2.2
  have ha := tm_wget (cy := cy) (sh := tm_shB κ) (ad := tm_aB (ad 256) b0) (n := 2) (v := u) (X := tm_w cy sh ad n v) (k := 0) (by decide)
  subst hst
  refine va_calli (va_runV (As := As) (rest := st) ⟨C0.1, C0.2.1, C0.2.2.1, C0.2.2.2.2.2.1, hts⟩ hMet (cwV na hts hG hw hrc hrs hd hR) ⟨tmYP.blind C0.2.2.2.2.2.2.2.2.2.1 _, va_recv (q0 := 0) (ci := 1) (q := (RJ4, TJ4, 4)) C0.2.2.2.2.2.2.2.1 hP2 rfl ha, fun U hU hW => ⟨congrArg List.toArray hav.symm, ⟨by rw [hU], by rw [hU]; exact tm_Pleft hP2, va_K.moved hW.alike C0.2.2.2.2.2.2.2.1, tmNs.warm C0.2.2.2.2.2.2.2.2.2.1 hW C0.2.2.2.2.2.2.2.2.1, (tm_Dleft hD2).weaken (fun _ _ _ _ => trivial)⟩, hE.go hS hF hU hW⟩⟩ rfl hna hL.1 rfl (lv_room hcat) hdg ⟨hcs.1, hcs.2⟩) hS (fun q _ h => hF q h) hF (fun r w t H1 locs1 ht hvm hw2 hB hz1 hk1 hS1 => ?_)
  obtain ⟨hP1, hD1⟩ := hB
  rw [ht] at hP1
  cases hw2
  have hj := tm_join hP2 hD2 hk1 hF hP1 hD1
  exact k (C0.ad (v := v) (tm_swapD hj.2)) hz H1 locs1 ls (tm_swapP hj.1) hS1 hL
theorem tg_widen {X : va_W} {res : Option γ} {cells1 slots1 : Nat} (h1 : cells ≤ cells1) (h2 : slots ≤ slots1) (k : tmG p l e R s m args below meth c cells1 slots1 Q nL D cy sh ad n X A z pc lv st v res) : tmG p l e R s m args below meth c cells slots Q nL D cy sh ad n X A z pc lv st v res := fun hz H locs ls hP hS hL => W.widen h1 h2 (k hz H locs ls hP hS hL)
theorem tw_appc {idx : Nat} {K : List Int32 → Option γ} (c0 : Nat) {x : Int32} (hx : x = nI c0) (hc0 : c0 < 128) (C0 : tmC p s m args meth c cc nL ret own TMW tm_NWC D cy sh ad n (tmXB cy (ad 256) κ b0 u) A) (hE : tmSc adK adV adE tC A s s.heap) (hT : tmTx κ u bs) (hdg : decode cc pc = .ok (.invokevirtual idx, 3)) (hG : GoodIn TMW (wsV own idx RJ4 yJ4_append_cf468 (Cond.code yJ4_append_cf468 cJ4_append_cf468 2 (some (.object "java/lang/StringBuilder")) :: TMW))) (hR : 6 ≤ R.frames ∧ 160 ≤ R.locals) (hcat : (st.map fun v => v.category).sum ≤ 8) (hcs : cells + 1 ≤ R.cells ∧ slots + 70 ≤ R.slots) (k : ∀ (κ b0 : Nat) (u : tmM) (bs1 : List Int32), bs1 = bs ++ [x] → tmC p s m args meth c cc nL ret own TMW tm_NWC D cy sh ad n (tmXB cy (ad 256) κ b0 u) A → tmTx κ u bs1 → tmG p l e R s m args below meth c (cells + 1) (slots + 70) Q nL D cy sh ad n (tmXB cy (ad 256) κ b0 u) A z (pc + 3) lv (.ref (ad 256) :: st) v (K bs1)) : tmG p l e R s m args below meth c cells slots Q nL D cy sh ad n (tmXB cy (ad 256) κ b0 u) A z pc lv (.int x :: .ref (ad 256) :: st) v (tm_g (decide (bs.length + 1 ≤ 70)) (tm_lt (bs ++ [x]) K)) := tg_g (fun hg => by
  subst hx
  obtain ⟨gr, κ1, u1, e1, hT1, hgr⟩ := tx_appc hT hc0 (of_decide_eq_true hg)
  have hM := c_J4_append_cf468 l (adK := adK) (adV := adV) (adE := adE) (tC := tC) gr κ (nI c0) u
  rw [e1] at hM
  have h1 : cells + gr ≤ R.cells := by have := hcs.1; omega
  have h2 : slots + 70 * gr ≤ R.slots := by have := hcs.2; omega
  exact tw_callr (As := [.int (nI c0)]) 1 C0 hE hdg hM rfl rfl hG rfl rfl rfl rfl (by decide +kernel) ⟨hR.1, Nat.le_trans (Nat.le_of_ble_eq_true rfl) hR.2⟩ hcat ⟨h1, h2⟩ (fun b1 C1 => tg_widen (by omega) (by omega) (k κ1 b1 u1 _ rfl C1 hT1)))
theorem tw_appi {idx : Nat} {K : List Int32 → Option γ} {x : Int32} (C0 : tmC p s m args meth c cc nL ret own TMW tm_NWC D cy sh ad n (tmXB cy (ad 256) κ b0 u) A) (hE : tmSc adK adV adE tC A s s.heap) (hT : tmTx κ u bs) (hdg : decode cc pc = .ok (.invokevirtual idx, 3)) (hG : GoodIn TMW (wsV own idx RJ4 yJ4_append_bf812 (Cond.code yJ4_append_bf812 cJ4_append_bf812 2 (some (.object "java/lang/StringBuilder")) :: TMW))) (hR : 6 ≤ R.frames ∧ 160 ≤ R.locals) (hcat : (st.map fun v => v.category).sum ≤ 8) (hcs : cells + 1 ≤ R.cells ∧ slots + 70 ≤ R.slots) (k : ∀ (κ b0 : Nat) (u : tmM) (bs1 : List Int32), bs1 = bs ++ tm_dec x.toNatClampNeg → tmC p s m args meth c cc nL ret own TMW tm_NWC D cy sh ad n (tmXB cy (ad 256) κ b0 u) A → tmTx κ u bs1 → tmG p l e R s m args below meth c (cells + 1) (slots + 70) Q nL D cy sh ad n (tmXB cy (ad 256) κ b0 u) A z (pc + 3) lv (.ref (ad 256) :: st) v (K bs1)) : tmG p l e R s m args below meth c cells slots Q nL D cy sh ad n (tmXB cy (ad 256) κ b0 u) A z pc lv (.int x :: .ref (ad 256) :: st) v (tm_g (decide (¬ x < 0 ∧ x.toNatClampNeg < 1000 ∧ bs.length + 3 ≤ 70)) (tm_lt (bs ++ tm_dec x.toNatClampNeg) K)) := tg_g (fun hg => by
  replace hg := of_decide_eq_true hg
  have hx : nI x.toNatClampNeg = x := by
    obtain ⟨j, hj, rfl⟩ := nI_of hg.1
    rw [nI_clamp hj]
  obtain ⟨gr, κ1, u1, e1, hT1, hgr⟩ := tx_appi hT hg.2.1 hg.2.2
  rw [hx] at e1
  have hM := c_J4_append_bf812 l (adK := adK) (adV := adV) (adE := adE) (tC := tC) gr κ x u
  rw [e1] at hM
  have h1 : cells + gr ≤ R.cells := by have := hcs.1; omega
  have h2 : slots + 70 * gr ≤ R.slots := by have := hcs.2; omega
  exact tw_callr (As := [.int x]) 1 C0 hE hdg hM rfl rfl hG rfl rfl rfl rfl (by decide +kernel) ⟨hR.1, Nat.le_trans (Nat.le_of_ble_eq_true rfl) hR.2⟩ hcat ⟨h1, h2⟩ (fun b1 C1 => tg_widen (by omega) (by omega) (k κ1 b1 u1 _ rfl C1 hT1)))
theorem tw_apps {idx : Nat} {K : List Int32 → Option γ} (o0 : Nat) (ho : o0 = 13 ∨ o0 = 14) (C0 : tmC p s m args meth c cc nL ret own TMW tm_NWC D cy sh ad n (tmXB cy (ad 256) κ b0 u) A) (hE : tmSc adK adV adE tC A s s.heap) (hT : tmTx κ u bs) (hdg : decode cc pc = .ok (.invokevirtual idx, 3)) (hG : GoodIn TMW (wsV own idx RJ4 yJ4_append_15ec4 (Cond.code yJ4_append_15ec4 cJ4_append_15ec4 2 (some (.object "java/lang/StringBuilder")) :: TMW))) (hR : 6 ≤ R.frames ∧ 160 ≤ R.locals) (hcat : (st.map fun v => v.category).sum ≤ 8) (hcs : cells + 1 ≤ R.cells ∧ slots + 70 ≤ R.slots) (k : ∀ (κ b0 : Nat) (u : tmM) (bs1 : List Int32), bs1 = bs ++ tm_wrd o0 → tmC p s m args meth c cc nL ret own TMW tm_NWC D cy sh ad n (tmXB cy (ad 256) κ b0 u) A → tmTx κ u bs1 → tmG p l e R s m args below meth c (cells + 1) (slots + 70) Q nL D cy sh ad n (tmXB cy (ad 256) κ b0 u) A z (pc + 3) lv (.ref (ad 256) :: st) v (K bs1)) : tmG p l e R s m args below meth c cells slots Q nL D cy sh ad n (tmXB cy (ad 256) κ b0 u) A z pc lv (.ref (adK o0) :: .ref (ad 256) :: st) v (tm_g (decide (bs.length + 8 ≤ 70)) (tm_lt (bs ++ tm_wrd o0) K)) := tg_g (fun hg => by
  
  obtain ⟨gr, κ1, u1, e1, hT1, hgr⟩ := tx_apps hT ho (of_decide_eq_true hg)
  have hM := c_J4_append_15ec4 l (adK := adK) (adV := adV) (adE := adE) (tC := tC) gr κ o0 u
  rw [e1] at hM
  have h1 : cells + gr ≤ R.cells := by have := hcs.1; omega
  have h2 : slots + 70 * gr ≤ R.slots := by have := hcs.2; omega
  exact tw_callr (As := [.ref (adK o0)]) 1 C0 hE hdg hM rfl rfl hG rfl rfl rfl rfl (by decide +kernel) ⟨hR.1, Nat.le_trans (Nat.le_of_ble_eq_true rfl) hR.2⟩ hcat ⟨h1, h2⟩ (fun b1 C1 => tg_widen (by omega) (by omega) (k κ1 b1 u1 _ rfl C1 hT1)))
theorem tw_set0 {idx : Nat} {K : List Int32 → Option γ} (C0 : tmC p s m args meth c cc nL ret own TMW tm_NWC D cy sh ad n (tmXB cy (ad 256) κ b0 u) A) (hE : tmSc adK adV adE tC A s s.heap) (hT : tmTx κ u bs) (hdg : decode cc pc = .ok (.invokevirtual idx, 3)) (hG : GoodIn TMW (wsV own idx RJ4 yJ4_setLength_d00df (Cond.code yJ4_setLength_d00df cJ4_setLength_d00df 2 none :: TMW))) (hR : 6 ≤ R.frames ∧ 160 ≤ R.locals) (hcat : (st.map fun v => v.category).sum ≤ 8) (hcs : cells ≤ R.cells ∧ slots ≤ R.slots) (k : ∀ (b0 : Nat) (u : tmM) (bs1 : List Int32), bs1 = [] → tmC p s m args meth c cc nL ret own TMW tm_NWC D cy sh ad n (tmXB cy (ad 256) κ b0 u) A → tmTx κ u bs1 → tmG p l e R s m args below meth c cells slots Q nL D cy sh ad n (tmXB cy (ad 256) κ b0 u) A z (pc + 3) lv st v (K bs1)) : tmG p l e R s m args below meth c cells slots Q nL D cy sh ad n (tmXB cy (ad 256) κ b0 u) A z pc lv (.int 0 :: .ref (ad 256) :: st) v (tm_lt ([] : List Int32) K) := by
  obtain ⟨u1, e1, hT1⟩ := tx_set0 hT
  have hM := c_J4_setLength_d00df l (adK := adK) (adV := adV) (adE := adE) (tC := tC) 0 κ 0 u
  rw [e1] at hM
  exact tw_callv (As := [.int 0]) 1 C0 hE hdg hM rfl rfl hG rfl rfl rfl rfl (by decide +kernel) ⟨hR.1, Nat.le_trans (Nat.le_of_ble_eq_true rfl) hR.2⟩ hcat hcs (fun b1 C1 => k b1 u1 _ rfl C1 hT1)
theorem tw_len {idx : Nat} {K : Int32 → Option γ} (C0 : tmC p s m args meth c cc nL ret own TMW tm_NWC D cy sh ad n (tmXB cy (ad 256) κ b0 u) A) (hE : tmSc adK adV adE tC A s s.heap) (hT : tmTx κ u bs) (hdg : decode cc pc = .ok (.invokevirtual idx, 3)) (hG : GoodIn TMW (wsV own idx RJ4 yJ4_length_8abf5 (Cond.code yJ4_length_8abf5 cJ4_length_8abf5 1 (some .int) :: TMW))) (hR : 6 ≤ R.frames ∧ 160 ≤ R.locals) (hcat : (st.map fun v => v.category).sum ≤ 8) (hcs : cells ≤ R.cells ∧ slots ≤ R.slots) (k : ∀ r : Int32, r = nI bs.length → tmG p l e R s m args below meth c cells slots Q nL D cy sh ad n (tmXB cy (ad 256) κ b0 u) A z (pc + 3) lv (.int r :: st) v (K r)) : tmG p l e R s m args below meth c cells slots Q nL D cy sh ad n (tmXB cy (ad 256) κ b0 u) A z pc lv (.ref (ad 256) :: st) v (tm_lt (nI bs.length) K) := by
  have hM := c_J4_length_8abf5 l (adK := adK) (adV := adV) (adE := adE) (tC := tC) κ u
  rw [tx_length hT] at hM
  exact tw_calli (As := []) 0 C0 hE hdg hM rfl rfl hG rfl rfl rfl rfl (by decide +kernel) ⟨Nat.le_trans (Nat.le_of_ble_eq_true rfl) hR.1, Nat.le_trans (Nat.le_of_ble_eq_true rfl) hR.2⟩ hcat hcs (fun C1 => k _ rfl)
theorem tw_chr {idx : Nat} {x : Int32} {K : Int32 → Option γ} (C0 : tmC p s m args meth c cc nL ret own TMW tm_NWC D cy sh ad n (tmXB cy (ad 256) κ b0 u) A) (hE : tmSc adK adV adE tC A s s.heap) (hT : tmTx κ u bs) (hdg : decode cc pc = .ok (.invokevirtual idx, 3)) (hG : GoodIn TMW (wsV own idx RJ4 yJ4_charAt_5068e (Cond.code yJ4_charAt_5068e cJ4_charAt_5068e 2 (some .char) :: TMW))) (hR : 6 ≤ R.frames ∧ 160 ≤ R.locals) (hcat : (st.map fun v => v.category).sum ≤ 8) (hcs : cells ≤ R.cells ∧ slots ≤ R.slots) (k : ∀ r : Int32, r = bs.getD x.toNatClampNeg 0 → tmG p l e R s m args below meth c cells slots Q nL D cy sh ad n (tmXB cy (ad 256) κ b0 u) A z (pc + 3) lv (.int r :: st) v (K r)) : tmG p l e R s m args below meth c cells slots Q nL D cy sh ad n (tmXB cy (ad 256) κ b0 u) A z pc lv (.int x :: .ref (ad 256) :: st) v (tm_g (decide (¬ x < 0 ∧ x.toNatClampNeg < bs.length)) (tm_lt (bs.getD x.toNatClampNeg 0) K)) := tg_g (fun hg => by
  replace hg := of_decide_eq_true hg
  have hx : nI x.toNatClampNeg = x := by
    obtain ⟨j, hj, rfl⟩ := nI_of hg.1
    rw [nI_clamp hj]
  have hM := c_J4_charAt_5068e l (adK := adK) (adV := adV) (adE := adE) (tC := tC) κ x u
  have e1 := tx_charAt hT hg.2
  rw [hx] at e1
  rw [e1] at hM
  exact tw_calli (As := [.int x]) 1 C0 hE hdg hM rfl rfl hG rfl rfl rfl rfl (by decide +kernel) ⟨Nat.le_trans (Nat.le_of_ble_eq_true rfl) hR.1, Nat.le_trans (Nat.le_of_ble_eq_true rfl) hR.2⟩ hcat hcs (fun C1 => k _ rfl))
theorem tw_callWv {y : MethodName} {wsy ws' : List Cond} {rmy : Room} {av : (Nat → Nat) → List Value} {bytes : ByteArray} {maxL idx mc1 ms1 : Nat} {rt : Option FieldType} {As st0 : List Value} {o : Option (Unit × (tmM × List Int32))} {K : tmM → List Int32 → Option γ} {CC : String} {T : u_T} {N ci : Nat} {fs : List (Option Nat)} (k0 na : Nat) (C0 : tmC p s m args meth c cc nL ret own Ts NW D cy sh ad n (tmXB cy (ad 256) κ b0 u) A) (hE : tmSc adK adV adE tC A s s.heap) (hT : tmTx κ u bs) (hdg : decode cc pc = .ok (.invokevirtual idx, 3)) (hM : tmWv NW sh n l adK adV adE tC y wsy rmy av v bs mc1 ms1 o) (hav : av ad = .ref (ad k0) :: As) (hst : st0 = As.reverse ++ .ref (ad k0) :: st) (hk : k0 < n) (hsh : sh k0 = .inr (.inr (ci, fs))) (hcl : vwCl[ci]? = some (CC, T, N)) (hG : GoodIn Ts (wsV own idx CC y wsy)) (hna : As.length = na) (hw : wsy = Cond.code y bytes maxL rt :: ws') (hrc : rmy.cells = mc1) (hrs : rmy.slots = ms1) (hd : y.cls = CC ∧ y.cls ≠ "java/lang/invoke/MethodHandle" ∧ y.cls ≠ "java/lang/invoke/VarHandle" ∧ (parseMethodDescriptor y.desc).map (fun d => d.parameters.length) = some na) (hR : rmy.frames + 1 ≤ R.frames ∧ 8 + (maxL + 11) + rmy.locals ≤ R.locals) (hcat : (st.map fun v => v.category).sum ≤ 8) (hcs : cells + mc1 ≤ R.cells ∧ slots + ms1 ≤ R.slots) (k : ∀ (κ b0 : Nat) (u v1 : tmM) (bs1 : List Int32), o = some ((), (v1, bs1)) → tmC p s m args meth c cc nL ret own Ts NW D cy sh ad n (tmXB cy (ad 256) κ b0 u) A → tmTx κ u bs1 → tmG p l e R s m args below meth c (cells + mc1) (slots + ms1) Q nL D cy sh ad n (tmXB cy (ad 256) κ b0 u) A z (pc + 3) lv st v1 (K v1 bs1)) : tmG p l e R s m args below meth c cells slots Q nL D cy sh ad n (tmXB cy (ad 256) κ b0 u) A z pc lv st0 v (tm_cw o (fun _ v1 bs1 => K v1 bs1)) := by
  intro hz
  cases ho : o with
  | none => rw [ho] at hz; cases hz
  | some y0 =>
    rw [ho] at hz
    intro H locs ls hP hS hL
    obtain ⟨r0, v0, bs0⟩ := y0
    have hMet := hM D cy ad H.size κ b0 u (r0, (v0, bs0)) hT ho
    have hts := C0.2.2.2.2.2.2.1
    have hP2 : va_P D vwCl ((tm_w cy sh ad n v ++ tmXB cy (ad 256) κ b0 u) ++ []) H := by rw [List.append_nil]; exact hP
    have hD2 : va_D A ((tm_w cy sh ad n v ++ tmXB cy (ad 256) κ b0 u) ++ []) := by rw [List.append_nil]; exact C0.dd
    have hF := tm_free hD2 hS C0.2.2.2.2.2.2.2.2.2.2.2
    have ha := tm_wget (cy := cy) (sh := sh) (ad := ad) (v := v) (X := tmXB cy (ad 256) κ b0 u) hk
    rw [hsh] at ha
    subst hst
    refine va_callv (va_runV (As := As) (rest := st) ⟨C0.1, C0.2.1, C0.2.2.1, C0.2.2.2.2.2.1, hts⟩ hMet (cwV na hts hG hw hrc hrs hd hR) ⟨tmWP.blind C0.2.2.2.2.2.2.2.2.2.1 _, va_recv C0.2.2.2.2.2.2.2.1 hP hcl ha, fun U hU hW => ⟨congrArg List.toArray hav.symm, ⟨by rw [hU], by rw [hU]; exact hP, va_K.moved hW.alike C0.2.2.2.2.2.2.2.1, tmNs.warm C0.2.2.2.2.2.2.2.2.2.1 hW C0.2.2.2.2.2.2.2.2.1, C0.dd.weaken (fun _ _ _ _ => trivial)⟩, hE.go hS hF hU hW⟩⟩ rfl hna hL.1 rfl (lv_room hcat) hdg ⟨hcs.1, hcs.2⟩) hS (fun q _ h => hF q h) hF (fun w t H1 locs1 ht hvm hw2 hB hz1 hk1 hS1 => ?_)
    obtain ⟨κ1, b1, u1, hT1, hP1, hD1⟩ := hB
    rw [ht] at hP1
    cases hw2
    have hj := tm_join hP2 hD2 hk1 hF hP1 hD1
    have hj1 : va_P D vwCl (tm_w cy sh ad n v0 ++ tmXB cy (ad 256) κ1 b1 u1) H1 := by have := hj.1; rwa [List.append_nil] at this
    have hj2 : va_D A (tm_w cy sh ad n v0 ++ tmXB cy (ad 256) κ1 b1 u1) := by have := hj.2; rwa [List.append_nil] at this
    exact k κ1 b1 u1 v0 bs0 ho (C0.ad hj2) hT1 hz H1 locs1 ls hj1 hS1 hL
end TMW0
