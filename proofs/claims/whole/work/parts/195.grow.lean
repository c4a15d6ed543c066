/-! ===== the text that grows: a StringBuilder and its bytes, a world of two cells whose second one may be changed for a longer one ===== -/
def tm_shB (κ : Nat) : Nat → tmE := fun k => match k with
  | 0 => .inr (.inr (1, [some 1, none, none, none]))
  | _ => .inl (2, κ)
def tm_aB (a0 b0 : Nat) : Nat → Nat := fun k => match k with
  | 0 => a0
  | _ => b0
def tmBt (D : va_G) (cy : Nat → ClassId) (a0 : Nat) (A : Nat → Prop) (u : Nat × tmM) (t : State) : Prop := ∃ b0 : Nat, tmAt (tm_shB u.1) 2 D cy (tm_aB a0 b0) A u.2 t
def tm_cb {α β : Type} (o : Option (α × (Nat × tmM))) (k : α → Nat → tmM → Option β) : Option β := match o with
  | none => none
  | some y => k y.1 y.2.1 y.2.2
theorem tmC.ad {p : Program} {s : State} {m : MethodId} {args : Array Value} {meth : Method} {c : Code} {cc : ByteArray} {nL : Nat} {ret : Option FieldType} {own : String} {Ts NW : List Cond} {D : va_G} {cy : Nat → ClassId} {sh sh' : Nat → tmE} {ad ad' : Nat → Nat} {n n' : Nat} {X X' : va_W} {A : Nat → Prop} {v : tmM} (C0 : tmC p s m args meth c cc nL ret own Ts NW D cy sh ad n X A) (h : va_D A (tm_w cy sh' ad' n' v ++ X')) : tmC p s m args meth c cc nL ret own Ts NW D cy sh' ad' n' X' A := by
  obtain ⟨h1, h2, h3, h4, h5, h6, h7, h8, h9, h10, h11, h12⟩ := C0
  exact ⟨h1, h2, h3, h4, h5, h6, h7, h8, h9, h10, tm_Dv h, h12⟩
/-- a private method of AbstractStringBuilder is what a StringBuilder runs -/
theorem tm_selP {C : String} {y y0 : MethodName} {s : State} {args : Array Value} (hsel : (Cond.selects C y0 y0).before args s = true) (hcy : y.cls = y0.cls) (hy : y.cls ≠ "java/lang/invoke/MethodHandle" ∧ y.cls ≠ "java/lang/invoke/VarHandle") (hpriv : (Cond.privateMethod y).before args s = true) (hinst : (Cond.instanceMethod y).before args s = true) : (Cond.selects C y y).before args s = true := by
  obtain ⟨c2, r2, m2, hc2, q2, q3, hs2, kP, hkP, hkPi⟩ := Cond.selects_spec hsel
  obtain ⟨mk, methM, hnamed, hmethM, -, -⟩ := Cond.instanceMethod_spec hinst
  have hfound : s.methodFound? y.cls y.name y.desc = some mk := State.methodFound?_of_named hnamed hy
  have hcls : mk.cls = m2.cls := Option.some.inj ((findClass_of_methodNamed hnamed).symm.trans ((congrArg s.vm.findClass hcy).trans (findClass_of_methodNamed q3)))
  have hsl : selectMethod {} s.vm c2 mk = .method mk := selectMethod_private hmethM (Cond.privateMethod_at hpriv mk methM hnamed hmethM)
  simp only [Cond.before, Cond.holds, Cond.value, hc2, hfound, hnamed, hsl, hcls, hkP]
  simp; exact hkPi

def tmBi (NW : List Cond) (l : Launch) (adK adV adE : Nat → Nat) (tC : Nat) (y : MethodName) (ws : List Cond) (rm : Room) (av : Nat → Nat → List Value) (κ : Nat) (v : tmM) (mc ms : Nat) (o : Option (Int32 × (Nat × tmM))) : Prop :=
  ∀ (D : va_G) (cy : Nat → ClassId) (a0 b0 : Nat) (sz : Nat) (z : Int32 × (Nat × tmM)), o = some z → Met l y ws rm (va_Pc (av a0 b0) (tmYP NW (tm_shB κ) 2 adK adV adE tC D cy (tm_aB a0 b0) sz v)) (va_Qi (fun r u => z = (r, u)) (tmBt D cy a0 (va_A (tm_w cy (tm_shB κ) (tm_aB a0 b0) 2 v) sz)) (va_A (tm_w cy (tm_shB κ) (tm_aB a0 b0) 2 v) sz)) mc ms (va_A (tm_w cy (tm_shB κ) (tm_aB a0 b0) 2 v) sz)
def tmBv (NW : List Cond) (l : Launch) (adK adV adE : Nat → Nat) (tC : Nat) (y : MethodName) (ws : List Cond) (rm : Room) (av : Nat → Nat → List Value) (κ : Nat) (v : tmM) (mc ms : Nat) (o : Option (Unit × (Nat × tmM))) : Prop :=
  ∀ (D : va_G) (cy : Nat → ClassId) (a0 b0 : Nat) (sz : Nat) (z : Unit × (Nat × tmM)), o = some z → Met l y ws rm (va_Pc (av a0 b0) (tmYP NW (tm_shB κ) 2 adK adV adE tC D cy (tm_aB a0 b0) sz v)) (va_Qv (fun u => z = ((), u)) (tmBt D cy a0 (va_A (tm_w cy (tm_shB κ) (tm_aB a0 b0) 2 v) sz)) (va_A (tm_w cy (tm_shB κ) (tm_aB a0 b0) 2 v) sz)) mc ms (va_A (tm_w cy (tm_shB κ) (tm_aB a0 b0) 2 v) sz)
def tmBr (NW : List Cond) (l : Launch) (adK adV adE : Nat → Nat) (tC : Nat) (y : MethodName) (ws : List Cond) (rm : Room) (av : Nat → Nat → List Value) (κ : Nat) (v : tmM) (mc ms : Nat) (o : Option (Unit × (Nat × tmM))) : Prop :=
  ∀ (D : va_G) (cy : Nat → ClassId) (a0 b0 : Nat) (sz : Nat) (z : Unit × (Nat × tmM)), o = some z → Met l y ws rm (va_Pc (av a0 b0) (tmYP NW (tm_shB κ) 2 adK adV adE tC D cy (tm_aB a0 b0) sz v)) (va_Qr (fun u => z = ((), u)) (fun u a t => a = a0 ∧ tmBt D cy a0 (va_A (tm_w cy (tm_shB κ) (tm_aB a0 b0) 2 v) sz) u t) (va_A (tm_w cy (tm_shB κ) (tm_aB a0 b0) 2 v) sz)) mc ms (va_A (tm_w cy (tm_shB κ) (tm_aB a0 b0) 2 v) sz)
section TMB
variable {p : Program} {l : Launch} {e : Env} {R : Room} {s : State} {m : MethodId} {args : Array Value} {below : List Frame} {meth : Method} {c : Code} {cells slots mc ms : Nat} {Q : State → Prop} {cc : ByteArray} {nL : Nat} {ret : Option FieldType} {own : String} {Ts : List Cond} {NW : List Cond} {D : va_G} {cy : Nat → ClassId} {sh : Nat → tmE} {ad : Nat → Nat} {n : Nat} {X : va_W} {A : Nat → Prop} {adK adV adE : Nat → Nat} {tC a0 b0 κ : Nat}
variable {γ : Type} {pc : Nat} {lv lv' : List (Nat × Value)} {st : List Value} {v : tmM}
theorem tb_iret {z : Int32 × (Nat × tmM)} {x : Int32} (C0 : tmC p s m args meth c cc nL (some .int) own Ts NW D cy (tm_shB κ) (tm_aB a0 b0) 2 [] A) (hdg : decode cc pc = .ok (.ireturn, 1)) (hc : cells ≤ mc ∧ slots ≤ ms) : tmG p l e R s m args below meth c cells slots (MQ below (va_Qi (fun r u => z = (r, u)) (tmBt D cy a0 A) A) args s mc ms A) nL D cy (tm_shB κ) (tm_aB a0 b0) 2 [] A z pc lv [.int x] v (some (x, (κ, v))) := fun hz H locs ls hP hS hL => W.widen hc.1 hc.2 (W.iret C0.1 C0.2.1 C0.2.2.2.1 (fun t ht hW => ⟨⟨x, (κ, v), rfl, (Option.some.inj hz).symm, b0, by rw [ht]; exact tm_Pleft hP, tm_Dleft C0.dd⟩, hS.F ht⟩) hS.2.2 hdg C0.2.2.2.2.1)
theorem tb_vret {z : Unit × (Nat × tmM)} (C0 : tmC p s m args meth c cc nL none own Ts NW D cy (tm_shB κ) (tm_aB a0 b0) 2 [] A) (hdg : decode cc pc = .ok (.return_, 1)) (hc : cells ≤ mc ∧ slots ≤ ms) : tmG p l e R s m args below meth c cells slots (MQ below (va_Qv (fun u => z = ((), u)) (tmBt D cy a0 A) A) args s mc ms A) nL D cy (tm_shB κ) (tm_aB a0 b0) 2 [] A z pc lv [] v (some ((), (κ, v))) := fun hz H locs ls hP hS hL => W.widen hc.1 hc.2 (W.vret C0.1 C0.2.1 C0.2.2.2.1 (fun t ht hW => ⟨⟨(κ, v), rfl, (Option.some.inj hz).symm, b0, by rw [ht]; exact tm_Pleft hP, tm_Dleft C0.dd⟩, hS.F ht⟩) hS.2.2 hdg C0.2.2.2.2.1)
theorem tb_aret {z : Unit × (Nat × tmM)} {C : String} (C0 : tmC p s m args meth c cc nL (some (.object C)) own Ts NW D cy (tm_shB κ) (tm_aB a0 b0) 2 [] A) (hdg : decode cc pc = .ok (.areturn, 1)) (hc : cells ≤ mc ∧ slots ≤ ms) : tmG p l e R s m args below meth c cells slots (MQ below (va_Qr (fun u => z = ((), u)) (fun u a t => a = a0 ∧ tmBt D cy a0 A u t) A) args s mc ms A) nL D cy (tm_shB κ) (tm_aB a0 b0) 2 [] A z pc lv [.ref a0] v (some ((), (κ, v))) := fun hz H locs ls hP hS hL => W.widen hc.1 hc.2 (W.aret C0.1 C0.2.1 C0.2.2.2.1 (Or.inl ⟨_, rfl⟩) (Or.inr ⟨_, rfl⟩) (fun t ht hW => ⟨⟨(κ, v), a0, rfl, (Option.some.inj hz).symm, rfl, b0, by rw [ht]; exact tm_Pleft hP, tm_Dleft C0.dd⟩, hS.F ht⟩) hS.2.2 hdg C0.2.2.2.2.1)
theorem tmBi.of {y : MethodName} {ws : List Cond} {rm : Room} {av : Nat → Nat → List Value} {o : Option (Int32 × (Nat × tmM))} {rty : FieldType} (hy : plainName y.cls = true) (hw : ws = Cond.code y cc nL (some rty) :: Ts) (hn : NW.all tm_isN = true) (hlen : ∀ a0 b0 : Nat, (lg_sl (av a0 b0)).length ≤ nL)
    (h : ∀ (p : Program) (e : Env) (s : State) (m : MethodId) (args : Array Value) (below : List Frame) (meth : Method) (c : Code) (A : Nat → Prop) (D : va_G) (cy : Nat → ClassId) (a0 b0 : Nat) (z : Int32 × (Nat × tmM)), tmC p s m args meth c cc nL (some rty) y.cls Ts NW D cy (tm_shB κ) (tm_aB a0 b0) 2 [] A → tmSc adK adV adE tC A s s.heap → tmG p l e rm s m args below meth c 0 0 (MQ below (va_Qi (fun r u => z = (r, u)) (tmBt D cy a0 A) A) args s mc ms A) nL D cy (tm_shB κ) (tm_aB a0 b0) 2 [] A z 0 (lv_args 0 (av a0 b0)) [] v o) : tmBi NW l adK adV adE tC y ws rm av κ v mc ms o := by
  intro D cy a0 b0 sz z hz
  refine Met.ofW (cc := cc) (maxL := nL) (ret := (some rty)) hy hw ?_
  intro p e s m args below meth c s₁ B hml hv
  obtain ⟨rfl, ⟨hsz, hP, hK, hN, hD0⟩, hE⟩ := hv
  have hx := B.exec
  have hb := B.bytes
  have hr := B.returns
  have hts : ∀ w ∈ Ts, w.before _ s = true := fun w h => atoms_spec (ws := ws) B.pre w (by rw [hw]; exact List.mem_cons_of_mem _ h)
  have hown : s.vm.findClass y.cls = some m.cls := findClass_of_methodNamed B.named
  have hlocks := B.notSynchronized
  subst hsz
  have hD := hD0.self (sz := s.heap.size)
  generalize hAe : va_A (tm_w cy (tm_shB κ) (tm_aB a0 b0) 2 v) s.heap.size = A at hD hE ⊢
  have hA : ∀ q : Nat, s.heap.size ≤ q → A q := fun q h => by rw [← hAe]; exact Or.inr h
  have hl := lv_entry (av a0 b0) (n := nL) (hlen a0 b0)
  rw [lg_entry_eq]
  exact h p e s m _ below meth c A D cy a0 b0 z ⟨hx, hb, hml, hr, hlocks, hown, hts, hK, hN, hn, by rw [List.append_nil]; exact tm_Dw hD, hA⟩ hE hz s.heap [] _ (by rw [List.append_nil]; exact hP) va_S.rf hl
theorem tmBv.of {y : MethodName} {ws : List Cond} {rm : Room} {av : Nat → Nat → List Value} {o : Option (Unit × (Nat × tmM))} (hy : plainName y.cls = true) (hw : ws = Cond.code y cc nL none :: Ts) (hn : NW.all tm_isN = true) (hlen : ∀ a0 b0 : Nat, (lg_sl (av a0 b0)).length ≤ nL)
    (h : ∀ (p : Program) (e : Env) (s : State) (m : MethodId) (args : Array Value) (below : List Frame) (meth : Method) (c : Code) (A : Nat → Prop) (D : va_G) (cy : Nat → ClassId) (a0 b0 : Nat) (z : Unit × (Nat × tmM)), tmC p s m args meth c cc nL none y.cls Ts NW D cy (tm_shB κ) (tm_aB a0 b0) 2 [] A → tmSc adK adV adE tC A s s.heap → tmG p l e rm s m args below meth c 0 0 (MQ below (va_Qv (fun u => z = ((), u)) (tmBt D cy a0 A) A) args s mc ms A) nL D cy (tm_shB κ) (tm_aB a0 b0) 2 [] A z 0 (lv_args 0 (av a0 b0)) [] v o) : tmBv NW l adK adV adE tC y ws rm av κ v mc ms o := by
  intro D cy a0 b0 sz z hz
  refine Met.ofW (cc := cc) (maxL := nL) (ret := none) hy hw ?_
  intro p e s m args below meth c s₁ B hml hv
  obtain ⟨rfl, ⟨hsz, hP, hK, hN, hD0⟩, hE⟩ := hv
  have hx := B.exec
  have hb := B.bytes
  have hr := B.returns
  have hts : ∀ w ∈ Ts, w.before _ s = true := fun w h => atoms_spec (ws := ws) B.pre w (by rw [hw]; exact List.mem_cons_of_mem _ h)
  have hown : s.vm.findClass y.cls = some m.cls := findClass_of_methodNamed B.named
  have hlocks := B.notSynchronized
  subst hsz
  have hD := hD0.self (sz := s.heap.size)
  generalize hAe : va_A (tm_w cy (tm_shB κ) (tm_aB a0 b0) 2 v) s.heap.size = A at hD hE ⊢
  have hA : ∀ q : Nat, s.heap.size ≤ q → A q := fun q h => by rw [← hAe]; exact Or.inr h
  have hl := lv_entry (av a0 b0) (n := nL) (hlen a0 b0)
  rw [lg_entry_eq]
  exact h p e s m _ below meth c A D cy a0 b0 z ⟨hx, hb, hml, hr, hlocks, hown, hts, hK, hN, hn, by rw [List.append_nil]; exact tm_Dw hD, hA⟩ hE hz s.heap [] _ (by rw [List.append_nil]; exact hP) va_S.rf hl
theorem tmBr.of {y : MethodName} {ws : List Cond} {rm : Room} {av : Nat → Nat → List Value} {o : Option (Unit × (Nat × tmM))} {rty : FieldType} (hy : plainName y.cls = true) (hw : ws = Cond.code y cc nL (some rty) :: Ts) (hn : NW.all tm_isN = true) (hlen : ∀ a0 b0 : Nat, (lg_sl (av a0 b0)).length ≤ nL)
    (h : ∀ (p : Program) (e : Env) (s : State) (m : MethodId) (args : Array Value) (below : List Frame) (meth : Method) (c : Code) (A : Nat → Prop) (D : va_G) (cy : Nat → ClassId) (a0 b0 : Nat) (z : Unit × (Nat × tmM)), tmC p s m args meth c cc nL (some rty) y.cls Ts NW D cy (tm_shB κ) (tm_aB a0 b0) 2 [] A → tmSc adK adV adE tC A s s.heap → tmG p l e rm s m args below meth c 0 0 (MQ below (va_Qr (fun u => z = ((), u)) (fun u a t => a = a0 ∧ tmBt D cy a0 A u t) A) args s mc ms A) nL D cy (tm_shB κ) (tm_aB a0 b0) 2 [] A z 0 (lv_args 0 (av a0 b0)) [] v o) : tmBr NW l adK adV adE tC y ws rm av κ v mc ms o := by
  intro D cy a0 b0 sz z hz
  refine Met.ofW (cc := cc) (maxL := nL) (ret := (some rty)) hy hw ?_
  intro p e s m args below meth c s₁ B hml hv
  obtain ⟨rfl, ⟨hsz, hP, hK, hN, hD0⟩, hE⟩ := hv
  have hx := B.exec
  have hb := B.bytes
  have hr := B.returns
  have hts : ∀ w ∈ Ts, w.before _ s = true := fun w h => atoms_spec (ws := ws) B.pre w (by rw [hw]; exact List.mem_cons_of_mem _ h)
  have hown : s.vm.findClass y.cls = some m.cls := findClass_of_methodNamed B.named
  have hlocks := B.notSynchronized
  subst hsz
  have hD := hD0.self (sz := s.heap.size)
  generalize hAe : va_A (tm_w cy (tm_shB κ) (tm_aB a0 b0) 2 v) s.heap.size = A at hD hE ⊢
  have hA : ∀ q : Nat, s.heap.size ≤ q → A q := fun q h => by rw [← hAe]; exact Or.inr h
  have hl := lv_entry (av a0 b0) (n := nL) (hlen a0 b0)
  rw [lg_entry_eq]
  exact h p e s m _ below meth c A D cy a0 b0 z ⟨hx, hb, hml, hr, hlocks, hown, hts, hK, hN, hn, by rw [List.append_nil]; exact tm_Dw hD, hA⟩ hE hz s.heap [] _ (by rw [List.append_nil]; exact hP) va_S.rf hl
theorem tb_callPv {z : γ} {y : MethodName} {wsy ws' : List Cond} {rmy : Room} {av : Nat → Nat → List Value} {o : Option (Unit × (Nat × tmM))} {K : Unit → Nat → tmM → Option γ} {bytes : ByteArray} {maxL idx : Nat} {rt : Option FieldType} {As st0 : List Value} {mc1 ms1 : Nat} (na : Nat) (C0 : tmC p s m args meth c cc nL ret own Ts NW D cy (tm_shB κ) (tm_aB a0 b0) 2 [] A) (hE : tmSc adK adV adE tC A s s.heap) (hdg : decode cc pc = .ok (.invokevirtual idx, 3)) (hM : tmBv NW l adK adV adE tC y wsy rmy av κ v mc1 ms1 o) (hav : av a0 b0 = .ref a0 :: As) (hst : st0 = As.reverse ++ .ref a0 :: st) (hG : GoodIn Ts wsy) (hlink : Cond.methodLink own idx y ∈ Ts) (hini : Cond.initialized y.cls ∈ Ts) (hinst : Cond.instanceMethod y ∈ Ts) (hsel : (∀ w ∈ Ts, w.before args s = true) → (Cond.selects RJ4 y y).before args s = true) (hna : As.length = na) (hw : wsy = Cond.code y bytes maxL rt :: ws') (hrc : rmy.cells = mc1) (hrs : rmy.slots = ms1) (hd : y.cls ≠ "java/lang/invoke/MethodHandle" ∧ y.cls ≠ "java/lang/invoke/VarHandle" ∧ (parseMethodDescriptor y.desc).map (fun d => d.parameters.length) = some na) (hR : rmy.frames + 1 ≤ R.frames ∧ 8 + (maxL + 11) + rmy.locals ≤ R.locals) (hcat : (st.map fun v => v.category).sum ≤ 8) (hcs : cells + mc1 ≤ R.cells ∧ slots + ms1 ≤ R.slots) (k : ∀ (κ1 : Nat) (v1 : tmM) (b1 : Nat), tmC p s m args meth c cc nL ret own Ts NW D cy (tm_shB κ1) (tm_aB a0 b1) 2 [] A → o = some ((), (κ1, v1)) → tmG p l e R s m args below meth c (cells + mc1) (slots + ms1) Q nL D cy (tm_shB κ1) (tm_aB a0 b1) 2 [] A z (pc + 3) lv st v1 (K () κ1 v1)) : tmG p l e R s m args below meth c cells slots Q nL D cy (tm_shB κ) (tm_aB a0 b0) 2 [] A z pc lv st0 v (tm_cb o K) := by
  intro hz
  cases ho : o with
  | none => rw [ho] at hz; cases hz
  | some y0 =>
    rw [ho] at hz
    intro H locs ls hP hS hL
    obtain ⟨r0, κ0, v0⟩ := y0
    have hMet := hM D cy a0 b0 H.size (r0, (κ0, v0)) ho
    have hts := C0.2.2.2.2.2.2.1
    have hF := tm_free (w1 := (tm_w cy (tm_shB κ) (tm_aB a0 b0) 2 v)) (w2 := []) C0.dd hS C0.2.2.2.2.2.2.2.2.2.2.2
    have ha := tm_wget (cy := cy) (sh := tm_shB κ) (ad := tm_aB a0 b0) (n := 2) (v := v) (X := []) (k := 0) (by decide)
    subst hst
    refine va_callv (va_runV (As := As) (rest := st) ⟨C0.1, C0.2.1, C0.2.2.1, C0.2.2.2.2.2.1, hts⟩ hMet ⟨callB_of na hts hG hw hrc hrs (hts _ hini) (hts _ hlink) hd hR, hts _ hinst, hsel hts⟩ ⟨tmYP.blind C0.2.2.2.2.2.2.2.2.2.1 _, va_recv (q0 := 0) (ci := 1) (q := (RJ4, TJ4, 4)) C0.2.2.2.2.2.2.2.1 hP rfl ha, fun U hU hW => ⟨congrArg List.toArray hav.symm, ⟨by rw [hU], by rw [hU]; exact tm_Pleft hP, va_K.moved hW.alike C0.2.2.2.2.2.2.2.1, tmNs.warm C0.2.2.2.2.2.2.2.2.2.1 hW C0.2.2.2.2.2.2.2.2.1, (tm_Dleft C0.dd).weaken (fun _ _ _ _ => trivial)⟩, hE.go hS hF hU hW⟩⟩ rfl hna hL.1 rfl (lv_room hcat) hdg ⟨hcs.1, hcs.2⟩) hS (fun q _ h => hF q h) hF (fun u t H1 locs1 ht hvm hw2 hB hz1 hk1 hS1 => ?_)
    obtain ⟨b1, hP1, hD1⟩ := hB
    rw [ht] at hP1
    cases hw2
    have hj := tm_join hP C0.dd hk1 hF hP1 hD1
    exact k _ _ b1 (C0.ad hj.2) ho hz H1 locs1 ls hj.1 hS1 hL
theorem tb_callUv {z : γ} {y : MethodName} {wsy ws' : List Cond} {rmy : Room} {av : Nat → Nat → List Value} {o : Option (Unit × (Nat × tmM))} {K : Unit → Nat → tmM → Option γ} {bytes : ByteArray} {maxL idx : Nat} {rt : Option FieldType} {As st0 : List Value} {mc1 ms1 : Nat} (na : Nat) (C0 : tmC p s m args meth c cc nL ret own Ts NW D cy (tm_shB κ) (tm_aB a0 b0) 2 [] A) (hE : tmSc adK adV adE tC A s s.heap) (hdg : decode cc pc = .ok (.invokespecial idx, 3)) (hM : tmBv NW l adK adV adE tC y wsy rmy av κ v mc1 ms1 o) (hav : av a0 b0 = .ref a0 :: As) (hst : st0 = As.reverse ++ .ref a0 :: st) (hG : GoodIn Ts (va_wsSU own idx y wsy)) (hna : As.length = na) (hw : wsy = Cond.code y bytes maxL rt :: ws') (hrc : rmy.cells = mc1) (hrs : rmy.slots = ms1) (hd : y.name ≠ "<init>" ∧ (parseMethodDescriptor y.desc).map (fun d => d.parameters.length) = some na) (hR : rmy.frames + 1 ≤ R.frames ∧ 8 + (maxL + 11) + rmy.locals ≤ R.locals) (hcat : (st.map fun v => v.category).sum ≤ 8) (hcs : cells + mc1 ≤ R.cells ∧ slots + ms1 ≤ R.slots) (k : ∀ (κ1 : Nat) (v1 : tmM) (b1 : Nat), tmC p s m args meth c cc nL ret own Ts NW D cy (tm_shB κ1) (tm_aB a0 b1) 2 [] A → o = some ((), (κ1, v1)) → tmG p l e R s m args below meth c (cells + mc1) (slots + ms1) Q nL D cy (tm_shB κ1) (tm_aB a0 b1) 2 [] A z (pc + 3) lv st v1 (K () κ1 v1)) : tmG p l e R s m args below meth c cells slots Q nL D cy (tm_shB κ) (tm_aB a0 b0) 2 [] A z pc lv st0 v (tm_cb o K) := by
  intro hz
  cases ho : o with
  | none => rw [ho] at hz; cases hz
  | some y0 =>
    rw [ho] at hz
    intro H locs ls hP hS hL
    obtain ⟨r0, κ0, v0⟩ := y0
    have hMet := hM D cy a0 b0 H.size (r0, (κ0, v0)) ho
    have hts := C0.2.2.2.2.2.2.1
    have hF := tm_free (w1 := (tm_w cy (tm_shB κ) (tm_aB a0 b0) 2 v)) (w2 := []) C0.dd hS C0.2.2.2.2.2.2.2.2.2.2.2
    have ha := tm_wget (cy := cy) (sh := tm_shB κ) (ad := tm_aB a0 b0) (n := 2) (v := v) (X := []) (k := 0) (by decide)
    subst hst
    refine va_callv (va_runSU (C := RJ4) (C0.2.2.2.2.2.2.2.1.1 1 (RJ4, TJ4, 4) rfl).2 (As := As) (rest := st) ⟨C0.1, C0.2.1, C0.2.2.1, C0.2.2.2.2.2.1, hts⟩ hMet (va_cwSU na hts hG hw hrc hrs hd hR) ⟨tmYP.blind C0.2.2.2.2.2.2.2.2.2.1 _, va_recv (q0 := 0) (ci := 1) (q := (RJ4, TJ4, 4)) C0.2.2.2.2.2.2.2.1 hP rfl ha, fun U hU hW => ⟨congrArg List.toArray hav.symm, ⟨by rw [hU], by rw [hU]; exact tm_Pleft hP, va_K.moved hW.alike C0.2.2.2.2.2.2.2.1, tmNs.warm C0.2.2.2.2.2.2.2.2.2.1 hW C0.2.2.2.2.2.2.2.2.1, (tm_Dleft C0.dd).weaken (fun _ _ _ _ => trivial)⟩, hE.go hS hF hU hW⟩⟩ rfl hna hL.1 rfl (lv_room hcat) hdg ⟨hcs.1, hcs.2⟩) hS (fun q _ h => hF q h) hF (fun u t H1 locs1 ht hvm hw2 hB hz1 hk1 hS1 => ?_)
    obtain ⟨b1, hP1, hD1⟩ := hB
    rw [ht] at hP1
    cases hw2
    have hj := tm_join hP C0.dd hk1 hF hP1 hD1
    exact k _ _ b1 (C0.ad hj.2) ho hz H1 locs1 ls hj.1 hS1 hL
theorem tb_callUr {z : γ} {y : MethodName} {wsy ws' : List Cond} {rmy : Room} {av : Nat → Nat → List Value} {o : Option (Unit × (Nat × tmM))} {K : Unit → Nat → tmM → Option γ} {bytes : ByteArray} {maxL idx : Nat} {rt : Option FieldType} {As st0 : List Value} {mc1 ms1 : Nat} (na : Nat) (C0 : tmC p s m args meth c cc nL ret own Ts NW D cy (tm_shB κ) (tm_aB a0 b0) 2 [] A) (hE : tmSc adK adV adE tC A s s.heap) (hdg : decode cc pc = .ok (.invokespecial idx, 3)) (hM : tmBr NW l adK adV adE tC y wsy rmy av κ v mc1 ms1 o) (hav : av a0 b0 = .ref a0 :: As) (hst : st0 = As.reverse ++ .ref a0 :: st) (hG : GoodIn Ts (va_wsSU own idx y wsy)) (hna : As.length = na) (hw : wsy = Cond.code y bytes maxL rt :: ws') (hrc : rmy.cells = mc1) (hrs : rmy.slots = ms1) (hd : y.name ≠ "<init>" ∧ (parseMethodDescriptor y.desc).map (fun d => d.parameters.length) = some na) (hR : rmy.frames + 1 ≤ R.frames ∧ 8 + (maxL + 11) + rmy.locals ≤ R.locals) (hcat : (st.map fun v => v.category).sum ≤ 8) (hcs : cells + mc1 ≤ R.cells ∧ slots + ms1 ≤ R.slots) (k : ∀ (κ1 : Nat) (v1 : tmM) (b1 : Nat), tmC p s m args meth c cc nL ret own Ts NW D cy (tm_shB κ1) (tm_aB a0 b1) 2 [] A → o = some ((), (κ1, v1)) → tmG p l e R s m args below meth c (cells + mc1) (slots + ms1) Q nL D cy (tm_shB κ1) (tm_aB a0 b1) 2 [] A z (pc + 3) lv (.ref a0 :: st) v1 (K () κ1 v1)) : tmG p l e R s m args below meth c cells slots Q nL D cy (tm_shB κ) (tm_aB a0 b0) 2 [] A z pc lv st0 v (tm_cb o K) := by
  intro hz
  cases ho : o with
  | none => rw [ho] at hz; cases hz
  | some y0 =>
    rw [ho] at hz
    intro H locs ls hP hS hL
    obtain ⟨r0, κ0, v0⟩ := y0
    have hMet := hM D cy a0 b0 H.size (r0, (κ0, v0)) ho
    have hts := C0.2.2.2.2.2.2.1
    have hF := tm_free (w1 := (tm_w cy (tm_shB κ) (tm_aB a0 b0) 2 v)) (w2 := []) C0.dd hS C0.2.2.2.2.2.2.2.2.2.2.2
    have ha := tm_wget (cy := cy) (sh := tm_shB κ) (ad := tm_aB a0 b0) (n := 2) (v := v) (X := []) (k := 0) (by decide)
    subst hst
    refine va_callr (va_runSU (C := RJ4) (C0.2.2.2.2.2.2.2.1.1 1 (RJ4, TJ4, 4) rfl).2 (As := As) (rest := st) ⟨C0.1, C0.2.1, C0.2.2.1, C0.2.2.2.2.2.1, hts⟩ hMet (va_cwSU na hts hG hw hrc hrs hd hR) ⟨tmYP.blind C0.2.2.2.2.2.2.2.2.2.1 _, va_recv (q0 := 0) (ci := 1) (q := (RJ4, TJ4, 4)) C0.2.2.2.2.2.2.2.1 hP rfl ha, fun U hU hW => ⟨congrArg List.toArray hav.symm, ⟨by rw [hU], by rw [hU]; exact tm_Pleft hP, va_K.moved hW.alike C0.2.2.2.2.2.2.2.1, tmNs.warm C0.2.2.2.2.2.2.2.2.2.1 hW C0.2.2.2.2.2.2.2.2.1, (tm_Dleft C0.dd).weaken (fun _ _ _ _ => trivial)⟩, hE.go hS hF hU hW⟩⟩ rfl hna hL.1 rfl (lv_room hcat) hdg ⟨hcs.1, hcs.2⟩) hS (fun q _ h => hF q h) hF (fun u ra t H1 locs1 ht hvm hw2 hB hz1 hk1 hS1 => ?_)
    obtain ⟨ra1, b1, hP1, hD1⟩ := hB
    subst ra1
    rw [ht] at hP1
    cases hw2
    have hj := tm_join hP C0.dd hk1 hF hP1 hD1
    exact k _ _ b1 (C0.ad hj.2) ho hz H1 locs1 ls hj.1 hS1 hL
theorem tb_callPr {z : γ} {y : MethodName} {wsy ws' : List Cond} {rmy : Room} {av : Nat → Nat → List Value} {o : Option (Unit × (Nat × tmM))} {K : Unit → Nat → tmM → Option γ} {bytes : ByteArray} {maxL idx : Nat} {rt : Option FieldType} {As st0 : List Value} {mc1 ms1 : Nat} (na : Nat) (C0 : tmC p s m args meth c cc nL ret own Ts NW D cy (tm_shB κ) (tm_aB a0 b0) 2 [] A) (hE : tmSc adK adV adE tC A s s.heap) (hdg : decode cc pc = .ok (.invokevirtual idx, 3)) (hM : tmBr NW l adK adV adE tC y wsy rmy av κ v mc1 ms1 o) (hav : av a0 b0 = .ref a0 :: As) (hst : st0 = As.reverse ++ .ref a0 :: st) (hG : GoodIn Ts wsy) (hlink : Cond.methodLink own idx y ∈ Ts) (hini : Cond.initialized y.cls ∈ Ts) (hinst : Cond.instanceMethod y ∈ Ts) (hsel : (∀ w ∈ Ts, w.before args s = true) → (Cond.selects RJ4 y y).before args s = true) (hna : As.length = na) (hw : wsy = Cond.code y bytes maxL rt :: ws') (hrc : rmy.cells = mc1) (hrs : rmy.slots = ms1) (hd : y.cls ≠ "java/lang/invoke/MethodHandle" ∧ y.cls ≠ "java/lang/invoke/VarHandle" ∧ (parseMethodDescriptor y.desc).map (fun d => d.parameters.length) = some na) (hR : rmy.frames + 1 ≤ R.frames ∧ 8 + (maxL + 11) + rmy.locals ≤ R.locals) (hcat : (st.map fun v => v.category).sum ≤ 8) (hcs : cells + mc1 ≤ R.cells ∧ slots + ms1 ≤ R.slots) (k : ∀ (κ1 : Nat) (v1 : tmM) (b1 : Nat), tmC p s m args meth c cc nL ret own Ts NW D cy (tm_shB κ1) (tm_aB a0 b1) 2 [] A → o = some ((), (κ1, v1)) → tmG p l e R s m args below meth c (cells + mc1) (slots + ms1) Q nL D cy (tm_shB κ1) (tm_aB a0 b1) 2 [] A z (pc + 3) lv (.ref a0 :: st) v1 (K () κ1 v1)) : tmG p l e R s m args below meth c cells slots Q nL D cy (tm_shB κ) (tm_aB a0 b0) 2 [] A z pc lv st0 v (tm_cb o K) := by
  intro hz
  cases ho : o with
  | none => rw [ho] at hz; cases hz
  | some y0 =>
    rw [ho] at hz
    intro H locs ls hP hS hL
    obtain ⟨r0, κ0, v0⟩ := y0
    have hMet := hM D cy a0 b0 H.size (r0, (κ0, v0)) ho
    have hts := C0.2.2.2.2.2.2.1
    have hF := tm_free (w1 := (tm_w cy (tm_shB κ) (tm_aB a0 b0) 2 v)) (w2 := []) C0.dd hS C0.2.2.2.2.2.2.2.2.2.2.2
    have ha := tm_wget (cy := cy) (sh := tm_shB κ) (ad := tm_aB a0 b0) (n := 2) (v := v) (X := []) (k := 0) (by decide)
    subst hst
    refine va_callr (va_runV (As := As) (rest := st) ⟨C0.1, C0.2.1, C0.2.2.1, C0.2.2.2.2.2.1, hts⟩ hMet ⟨callB_of na hts hG hw hrc hrs (hts _ hini) (hts _ hlink) hd hR, hts _ hinst, hsel hts⟩ ⟨tmYP.blind C0.2.2.2.2.2.2.2.2.2.1 _, va_recv (q0 := 0) (ci := 1) (q := (RJ4, TJ4, 4)) C0.2.2.2.2.2.2.2.1 hP rfl ha, fun U hU hW => ⟨congrArg List.toArray hav.symm, ⟨by rw [hU], by rw [hU]; exact tm_Pleft hP, va_K.moved hW.alike C0.2.2.2.2.2.2.2.1, tmNs.warm C0.2.2.2.2.2.2.2.2.2.1 hW C0.2.2.2.2.2.2.2.2.1, (tm_Dleft C0.dd).weaken (fun _ _ _ _ => trivial)⟩, hE.go hS hF hU hW⟩⟩ rfl hna hL.1 rfl (lv_room hcat) hdg ⟨hcs.1, hcs.2⟩) hS (fun q _ h => hF q h) hF (fun u ra t H1 locs1 ht hvm hw2 hB hz1 hk1 hS1 => ?_)
    obtain ⟨ra1, b1, hP1, hD1⟩ := hB
    subst ra1
    rw [ht] at hP1
    cases hw2
    have hj := tm_join hP C0.dd hk1 hF hP1 hD1
    exact k _ _ b1 (C0.ad hj.2) ho hz H1 locs1 ls hj.1 hS1 hL
theorem tp_callPi {z : γ} {y : MethodName} {wsy ws' : List Cond} {rmy : Room} {av : (Nat → Nat) → List Value} {o : Option (Int32 × tmM)} {K : Int32 → tmM → Option γ} {bytes : ByteArray} {maxL idx : Nat} {rt : Option FieldType} {As st0 : List Value} (na : Nat) (C0 : tmC p s m args meth c cc nL ret own Ts NW D cy (tm_shB κ) ad 2 [] A) (hE : tmSc adK adV adE tC A s s.heap) (hdg : decode cc pc = .ok (.invokevirtual idx, 3)) (hM : tmYi NW (tm_shB κ) 2 l adK adV adE tC y wsy rmy av v o) (hav : av ad = .ref (ad 0) :: As) (hst : st0 = As.reverse ++ .ref (ad 0) :: st) (hG : GoodIn Ts wsy) (hlink : Cond.methodLink own idx y ∈ Ts) (hini : Cond.initialized y.cls ∈ Ts) (hinst : Cond.instanceMethod y ∈ Ts) (hsel : (∀ w ∈ Ts, w.before args s = true) → (Cond.selects RJ4 y y).before args s = true) (hna : As.length = na) (hw : wsy = Cond.code y bytes maxL rt :: ws') (hrc : rmy.cells = 0) (hrs : rmy.slots = 0) (hd : y.cls ≠ "java/lang/invoke/MethodHandle" ∧ y.cls ≠ "java/lang/invoke/VarHandle" ∧ (parseMethodDescriptor y.desc).map (fun d => d.parameters.length) = some na) (hR : rmy.frames + 1 ≤ R.frames ∧ 8 + (maxL + 11) + rmy.locals ≤ R.locals) (hcat : (st.map fun v => v.category).sum ≤ 8) (hcs : cells ≤ R.cells ∧ slots ≤ R.slots) (k : ∀ (r : Int32) (v1 : tmM), o = some (r, v1) → tmG p l e R s m args below meth c cells slots Q nL D cy (tm_shB κ) ad 2 [] A z (pc + 3) lv (.int r :: st) v1 (K r v1)) : tmG p l e R s m args below meth c cells slots Q nL D cy (tm_shB κ) ad 2 [] A z pc lv st0 v (tm_cl o K) := by
  intro hz
  cases ho : o with
  | none => rw [ho] at hz; cases hz
  | some y0 =>
    rw [ho] at hz
    intro H locs ls hP hS hL
    obtain ⟨r0, v0⟩ := y0
    have hMet := hM D cy ad H.size (r0, v0) ho
    have hts := C0.2.2.2.2.2.2.1
    have hF := tm_free (w1 := (tm_w cy (tm_shB κ) ad 2 v)) (w2 := []) C0.dd hS C0.2.2.2.2.2.2.2.2.2.2.2
    have ha := tm_wget (cy := cy) (sh := tm_shB κ) (ad := ad) (n := 2) (v := v) (X := []) (k := 0) (by decide)
    subst hst
    refine va_calli (va_runV (As := As) (rest := st) ⟨C0.1, C0.2.1, C0.2.2.1, C0.2.2.2.2.2.1, hts⟩ hMet ⟨callB_of na hts hG hw hrc hrs (hts _ hini) (hts _ hlink) hd hR, hts _ hinst, hsel hts⟩ ⟨tmYP.blind C0.2.2.2.2.2.2.2.2.2.1 _, va_recv (q0 := 0) (ci := 1) (q := (RJ4, TJ4, 4)) C0.2.2.2.2.2.2.2.1 hP rfl ha, fun U hU hW => ⟨congrArg List.toArray hav.symm, ⟨by rw [hU], by rw [hU]; exact tm_Pleft hP, va_K.moved hW.alike C0.2.2.2.2.2.2.2.1, tmNs.warm C0.2.2.2.2.2.2.2.2.2.1 hW C0.2.2.2.2.2.2.2.2.1, (tm_Dleft C0.dd).weaken (fun _ _ _ _ => trivial)⟩, hE.go hS hF hU hW⟩⟩ rfl hna hL.1 rfl (lv_room hcat) hdg ⟨hcs.1, hcs.2⟩) hS (fun q _ h => hF q h) hF (fun r u t H1 locs1 ht hvm hw2 hB hz1 hk1 hS1 => ?_)
    obtain ⟨hP1, hD1⟩ := hB
    rw [ht] at hP1
    cases hw2
    have hj := tm_join hP C0.dd hk1 hF hP1 hD1
    exact k _ _ ho hz H1 locs1 ls hj.1 hS1 hL
theorem tp_callPv {z : γ} {y : MethodName} {wsy ws' : List Cond} {rmy : Room} {av : (Nat → Nat) → List Value} {o : Option (Unit × tmM)} {K : Unit → tmM → Option γ} {bytes : ByteArray} {maxL idx : Nat} {rt : Option FieldType} {As st0 : List Value} (na : Nat) (C0 : tmC p s m args meth c cc nL ret own Ts NW D cy (tm_shB κ) ad 2 [] A) (hE : tmSc adK adV adE tC A s s.heap) (hdg : decode cc pc = .ok (.invokevirtual idx, 3)) (hM : tmYv NW (tm_shB κ) 2 l adK adV adE tC y wsy rmy av v o) (hav : av ad = .ref (ad 0) :: As) (hst : st0 = As.reverse ++ .ref (ad 0) :: st) (hG : GoodIn Ts wsy) (hlink : Cond.methodLink own idx y ∈ Ts) (hini : Cond.initialized y.cls ∈ Ts) (hinst : Cond.instanceMethod y ∈ Ts) (hsel : (∀ w ∈ Ts, w.before args s = true) → (Cond.selects RJ4 y y).before args s = true) (hna : As.length = na) (hw : wsy = Cond.code y bytes maxL rt :: ws') (hrc : rmy.cells = 0) (hrs : rmy.slots = 0) (hd : y.cls ≠ "java/lang/invoke/MethodHandle" ∧ y.cls ≠ "java/lang/invoke/VarHandle" ∧ (parseMethodDescriptor y.desc).map (fun d => d.parameters.length) = some na) (hR : rmy.frames + 1 ≤ R.frames ∧ 8 + (maxL + 11) + rmy.locals ≤ R.locals) (hcat : (st.map fun v => v.category).sum ≤ 8) (hcs : cells ≤ R.cells ∧ slots ≤ R.slots) (k : ∀ (v1 : tmM), o = some ((), v1) → tmG p l e R s m args below meth c cells slots Q nL D cy (tm_shB κ) ad 2 [] A z (pc + 3) lv st v1 (K () v1)) : tmG p l e R s m args below meth c cells slots Q nL D cy (tm_shB κ) ad 2 [] A z pc lv st0 v (tm_cl o K) := by
  intro hz
  cases ho : o with
  | none => rw [ho] at hz; cases hz
  | some y0 =>
    rw [ho] at hz
    intro H locs ls hP hS hL
    obtain ⟨r0, v0⟩ := y0
    have hMet := hM D cy ad H.size (r0, v0) ho
    have hts := C0.2.2.2.2.2.2.1
    have hF := tm_free (w1 := (tm_w cy (tm_shB κ) ad 2 v)) (w2 := []) C0.dd hS C0.2.2.2.2.2.2.2.2.2.2.2
    have ha := tm_wget (cy := cy) (sh := tm_shB κ) (ad := ad) (n := 2) (v := v) (X := []) (k := 0) (by decide)
    subst hst
    refine va_callv (va_runV (As := As) (rest := st) ⟨C0.1, C0.2.1, C0.2.2.1, C0.2.2.2.2.2.1, hts⟩ hMet ⟨callB_of na hts hG hw hrc hrs (hts _ hini) (hts _ hlink) hd hR, hts _ hinst, hsel hts⟩ ⟨tmYP.blind C0.2.2.2.2.2.2.2.2.2.1 _, va_recv (q0 := 0) (ci := 1) (q := (RJ4, TJ4, 4)) C0.2.2.2.2.2.2.2.1 hP rfl ha, fun U hU hW => ⟨congrArg List.toArray hav.symm, ⟨by rw [hU], by rw [hU]; exact tm_Pleft hP, va_K.moved hW.alike C0.2.2.2.2.2.2.2.1, tmNs.warm C0.2.2.2.2.2.2.2.2.2.1 hW C0.2.2.2.2.2.2.2.2.1, (tm_Dleft C0.dd).weaken (fun _ _ _ _ => trivial)⟩, hE.go hS hF hU hW⟩⟩ rfl hna hL.1 rfl (lv_room hcat) hdg ⟨hcs.1, hcs.2⟩) hS (fun q _ h => hF q h) hF (fun u t H1 locs1 ht hvm hw2 hB hz1 hk1 hS1 => ?_)
    obtain ⟨hP1, hD1⟩ := hB
    rw [ht] at hP1
    cases hw2
    have hj := tm_join hP C0.dd hk1 hF hP1 hD1
    exact k _ ho hz H1 locs1 ls hj.1 hS1 hL
theorem tp_callUi {z : γ} {y : MethodName} {wsy ws' : List Cond} {rmy : Room} {av : (Nat → Nat) → List Value} {o : Option (Int32 × tmM)} {K : Int32 → tmM → Option γ} {bytes : ByteArray} {maxL idx : Nat} {rt : Option FieldType} {As st0 : List Value} (na : Nat) (C0 : tmC p s m args meth c cc nL ret own Ts NW D cy (tm_shB κ) ad 2 [] A) (hE : tmSc adK adV adE tC A s s.heap) (hdg : decode cc pc = .ok (.invokespecial idx, 3)) (hM : tmYi NW (tm_shB κ) 2 l adK adV adE tC y wsy rmy av v o) (hav : av ad = .ref (ad 0) :: As) (hst : st0 = As.reverse ++ .ref (ad 0) :: st) (hG : GoodIn Ts (va_wsSU own idx y wsy)) (hna : As.length = na) (hw : wsy = Cond.code y bytes maxL rt :: ws') (hrc : rmy.cells = 0) (hrs : rmy.slots = 0) (hd : y.name ≠ "<init>" ∧ (parseMethodDescriptor y.desc).map (fun d => d.parameters.length) = some na) (hR : rmy.frames + 1 ≤ R.frames ∧ 8 + (maxL + 11) + rmy.locals ≤ R.locals) (hcat : (st.map fun v => v.category).sum ≤ 8) (hcs : cells ≤ R.cells ∧ slots ≤ R.slots) (k : ∀ (r : Int32) (v1 : tmM), o = some (r, v1) → tmG p l e R s m args below meth c cells slots Q nL D cy (tm_shB κ) ad 2 [] A z (pc + 3) lv (.int r :: st) v1 (K r v1)) : tmG p l e R s m args below meth c cells slots Q nL D cy (tm_shB κ) ad 2 [] A z pc lv st0 v (tm_cl o K) := by
  intro hz
  cases ho : o with
  | none => rw [ho] at hz; cases hz
  | some y0 =>
    rw [ho] at hz
    intro H locs ls hP hS hL
    obtain ⟨r0, v0⟩ := y0
    have hMet := hM D cy ad H.size (r0, v0) ho
    have hts := C0.2.2.2.2.2.2.1
    have hF := tm_free (w1 := (tm_w cy (tm_shB κ) ad 2 v)) (w2 := []) C0.dd hS C0.2.2.2.2.2.2.2.2.2.2.2
    have ha := tm_wget (cy := cy) (sh := tm_shB κ) (ad := ad) (n := 2) (v := v) (X := []) (k := 0) (by decide)
    subst hst
    refine va_calli (va_runSU (C := RJ4) (C0.2.2.2.2.2.2.2.1.1 1 (RJ4, TJ4, 4) rfl).2 (As := As) (rest := st) ⟨C0.1, C0.2.1, C0.2.2.1, C0.2.2.2.2.2.1, hts⟩ hMet (va_cwSU na hts hG hw hrc hrs hd hR) ⟨tmYP.blind C0.2.2.2.2.2.2.2.2.2.1 _, va_recv (q0 := 0) (ci := 1) (q := (RJ4, TJ4, 4)) C0.2.2.2.2.2.2.2.1 hP rfl ha, fun U hU hW => ⟨congrArg List.toArray hav.symm, ⟨by rw [hU], by rw [hU]; exact tm_Pleft hP, va_K.moved hW.alike C0.2.2.2.2.2.2.2.1, tmNs.warm C0.2.2.2.2.2.2.2.2.2.1 hW C0.2.2.2.2.2.2.2.2.1, (tm_Dleft C0.dd).weaken (fun _ _ _ _ => trivial)⟩, hE.go hS hF hU hW⟩⟩ rfl hna hL.1 rfl (lv_room hcat) hdg ⟨hcs.1, hcs.2⟩) hS (fun q _ h => hF q h) hF (fun r u t H1 locs1 ht hvm hw2 hB hz1 hk1 hS1 => ?_)
    obtain ⟨hP1, hD1⟩ := hB
    rw [ht] at hP1
    cases hw2
    have hj := tm_join hP C0.dd hk1 hF hP1 hD1
    exact k _ _ ho hz H1 locs1 ls hj.1 hS1 hL
theorem tp_callTv {b : Nat} {C : String} {z : γ} {y : MethodName} {wsy ws' : List Cond} {rmy : Room} {av : (Nat → Nat) → List Value} {o : Option (Unit × tmM)} {K : Unit → tmM → Option γ} {bytes : ByteArray} {maxL idx : Nat} {rt : Option FieldType} {As st0 : List Value} (na : Nat) (C0 : tmC p s m args meth c cc nL ret own Ts NW D cy (tm_shB κ) ad 2 [] A) (hE : tmSc adK adV adE tC A s s.heap) (hdg : decode cc pc = .ok (.invokevirtual idx, 3)) (hM : tmYv NW (tm_shB κ) 2 l adK adV adE tC y wsy rmy av v o) (hav : av ad = .ref b :: As) (hst : st0 = As.reverse ++ .ref b :: st) (hG : GoodIn Ts (wsV own idx C y wsy)) (hrv : ∀ (H : Heap) (locs : List Loc), va_P D vwCl (tm_w cy (tm_shB κ) ad 2 v ++ []) H → va_S A s.heap H locs → ∃ cell : Cell, H[b]? = some cell ∧ cell.vm.isStatics = false ∧ s.vm.findClass C = some cell.cls) (hna : As.length = na) (hw : wsy = Cond.code y bytes maxL rt :: ws') (hrc : rmy.cells = 0) (hrs : rmy.slots = 0) (hd : y.cls = C ∧ y.cls ≠ "java/lang/invoke/MethodHandle" ∧ y.cls ≠ "java/lang/invoke/VarHandle" ∧ (parseMethodDescriptor y.desc).map (fun d => d.parameters.length) = some na) (hR : rmy.frames + 1 ≤ R.frames ∧ 8 + (maxL + 11) + rmy.locals ≤ R.locals) (hcat : (st.map fun v => v.category).sum ≤ 8) (hcs : cells ≤ R.cells ∧ slots ≤ R.slots) (k : ∀ (v1 : tmM), o = some ((), v1) → tmG p l e R s m args below meth c cells slots Q nL D cy (tm_shB κ) ad 2 [] A z (pc + 3) lv st v1 (K () v1)) : tmG p l e R s m args below meth c cells slots Q nL D cy (tm_shB κ) ad 2 [] A z pc lv st0 v (tm_cl o K) := by
  intro hz
  cases ho : o with
  | none => rw [ho] at hz; cases hz
  | some y0 =>
    rw [ho] at hz
    intro H locs ls hP hS hL
    obtain ⟨r0, v0⟩ := y0
    have hMet := hM D cy ad H.size (r0, v0) ho
    have hts := C0.2.2.2.2.2.2.1
    have hF := tm_free (w1 := (tm_w cy (tm_shB κ) ad 2 v)) (w2 := []) C0.dd hS C0.2.2.2.2.2.2.2.2.2.2.2
    subst hst
    refine va_callv (va_runV (As := As) (rest := st) ⟨C0.1, C0.2.1, C0.2.2.1, C0.2.2.2.2.2.1, hts⟩ hMet (cwV na hts hG hw hrc hrs hd hR) ⟨tmYP.blind C0.2.2.2.2.2.2.2.2.2.1 _, hrv H locs hP hS, fun U hU hW => ⟨congrArg List.toArray hav.symm, ⟨by rw [hU], by rw [hU]; exact tm_Pleft hP, va_K.moved hW.alike C0.2.2.2.2.2.2.2.1, tmNs.warm C0.2.2.2.2.2.2.2.2.2.1 hW C0.2.2.2.2.2.2.2.2.1, (tm_Dleft C0.dd).weaken (fun _ _ _ _ => trivial)⟩, hE.go hS hF hU hW⟩⟩ rfl hna hL.1 rfl (lv_room hcat) hdg ⟨hcs.1, hcs.2⟩) hS (fun q _ h => hF q h) hF (fun u t H1 locs1 ht hvm hw2 hB hz1 hk1 hS1 => ?_)
    obtain ⟨hP1, hD1⟩ := hB
    rw [ht] at hP1
    cases hw2
    have hj := tm_join hP C0.dd hk1 hF hP1 hD1
    exact k _ ho hz H1 locs1 ls hj.1 hS1 hL
def tm_sh3 (κ N : Nat) : Nat → tmE := fun k => match k with
  | 0 => .inr (.inr (1, [some 1, none, none, none]))
  | 1 => .inl (2, κ)
  | _ => .inl (2, N)
def tm_a3 (a0 b0 g0 : Nat) : Nat → Nat := fun k => match k with
  | 0 => a0
  | 1 => b0
  | _ => g0
def tm_v3 (v : tmM) (r : Nat → Int32) : tmM := fun k => match k with
  | 0 => v 0
  | 1 => v 1
  | 2 => r
  | _ => fun _ => 0
theorem tm_cyu {D : va_G} {cl : List vw_C} {tys : List (ClassId × FieldType)} {s : State} {cA : ClassId} {k : Nat} {cB : ClassId} {ty : FieldType} (hp : va_RA s cA ty → va_RA s cB ty → cA = cB) (h : va_K D cl (tys ++ [(cA, ty)]) s) (hk : tys[k]? = some (cB, ty)) : cA = cB := by
  refine hp (h.2 tys.length (cA, ty) ?_).2 (h.2 k (cB, ty) ?_).2
  · rw [List.getElem?_append_right (Nat.le_refl _), Nat.sub_self]; rfl
  · rw [List.getElem?_append_left (List.getElem?_eq_some_iff.mp hk).1]; exact hk
theorem tb_new8 {β : Type} {z : β} {res : Option β} (N : Nat) (C0 : tmC p s m args meth c cc nL ret own Ts NW D cy (tm_shB κ) (tm_aB a0 b0) 2 [] A) (hdg : decode cc pc = .ok (.newarray .byte, 2)) (harr : Cond.arrayClass .byte ∈ Ts) (hN : N ≤ 70) (hcs : cells + 1 ≤ R.cells ∧ slots + 70 ≤ R.slots) (k : ∀ g0 : Nat, tmC p s m args meth c cc nL ret own Ts NW D cy (tm_sh3 κ N) (tm_a3 a0 b0 g0) 3 [] A → tmG p l e R s m args below meth c (cells + 1) (slots + N) Q nL D cy (tm_sh3 κ N) (tm_a3 a0 b0 g0) 3 [] A z (pc + 2) lv (.ref g0 :: st) (tm_v3 v (fun _ => 0)) res) : tmG p l e R s m args below meth c cells slots Q nL D cy (tm_shB κ) (tm_aB a0 b0) 2 [] A z pc lv (.int (nI N) :: st) v res := fun hz H locs ls hP hS hL => by
  refine va_newa (atype := .byte) (N' := N) (a0 := (N, .inl (fun _ => 0))) C0.1 C0.2.1 (C0.2.2.2.2.2.2.1 _ harr) rfl C0.2.2.2.2.2.2.2.1 hP C0.dd hS C0.2.2.2.2.2.2.2.2.2.2.2 (fun cA => rfl) (nI_pos (by omega)) (nI_clamp (by omega)) ?_ (by omega) (by omega) hdg (fun q cA H1 hK1 hP1 hD1 hS1 => ?_)
  · show N * 1 ≤ 536870912
    omega
  · have hc2 : cA = cy 2 := tm_cyu (ty := .byte) (fun (h1 : s.vm.findClass ("[" ++ FieldType.byte.toString) = some cA) (h2 : s.vm.findClass ("[" ++ FieldType.byte.toString) = some (cy 2)) => Option.some.inj (h1.symm.trans h2)) hK1 (tm_tyget 2 (by decide))
    subst hc2
    exact k q (C0.ad (v := tm_v3 v (fun _ => 0)) hD1) hz H1 locs ls hP1 hS1 hL
theorem tm_gSU {own : String} {idx : Nat} {y : MethodName} {w : Cond} (h1 : Cond.methodLink own idx y ∈ TMW) (h2 : Cond.sameMethod y.cls y.cls y.name y.desc ∈ TMW) (h3 : Cond.superclass own y.cls ∈ TMW) (h4 : Cond.instanceMethod y ∈ TMW) (h5 : Cond.initialized y.cls ∈ TMW) (h6 : w ∈ TMW) : GoodIn TMW (va_wsSU own idx y (w :: TMW)) := tm_gl (fun x hx => by
  unfold va_wsSU at hx
  simp only [List.cons_append, List.nil_append, List.mem_cons] at hx
  rcases hx with rfl | rfl | rfl | rfl | rfl | rfl | hx
  · exact h1
  · exact h2
  · exact h3
  · exact h4
  · exact h5
  · exact h6
  · exact hx)
def tm_fit8 (r : Nat → Int32) (n : Nat) : Bool := decide (∀ i, i < n → fits .byte (.int (r i)) = true)
theorem tg_copy8 {β : Type} {z : β} {res : Option β} (k0 k1 : Nat) {l0 l1 index : Nat} {sp dp nn : Int32} (C0 : tmC p s m args meth c cc nL ret own Ts NW D cy sh ad n X A) (hdg : decode cc pc = .ok (.invokestatic index, 3)) (hk0 : k0 < n) (hk1 : k1 < n) (hs0 : sh k0 = .inl (2, l0)) (hs1 : sh k1 = .inl (2, l1)) (w1 : Cond.methodLink own index arraycopyName ∈ Ts) (w2 : Cond.native arraycopyName ∈ Ts) (w3 : Cond.static arraycopyName ∈ Ts) (w4 : Cond.initialized "java/lang/System" ∈ Ts) (hi : tm_cok sp dp nn l0 l1 = true) (hft : ∀ i, i < nn.toNatClampNeg → fits .byte (.int (v k0 (sp.toNatClampNeg + i))) = true) (hfr : 1 ≤ R.frames) (hlo : (st.map fun v => v.category).sum + (nativeFrameWords "java/lang/System" "arraycopy" 5 + 11) ≤ R.locals) (k : tmG p l e R s m args below meth c cells slots Q nL D cy sh ad n X A z (pc + 3) lv st (tm_set v k1 (va_cpy (v k0) (v k1) sp.toNatClampNeg dp.toNatClampNeg nn.toNatClampNeg)) res) : tmG p l e R s m args below meth c cells slots Q nL D cy sh ad n X A z pc lv (.int nn :: .int dp :: .ref (ad k1) :: .int sp :: .ref (ad k0) :: st) v res := fun hz H locs ls hP hS hL => by
  have ha := tm_wget (cy := cy) (sh := sh) (ad := ad) (v := v) (X := X) hk0
  rw [hs0] at ha
  have hb := tm_wget (cy := cy) (sh := sh) (ad := ad) (v := v) (X := X) hk1
  rw [hs1] at hb
  obtain ⟨h1, h2, h3, h4, h5⟩ := of_decide_eq_true hi
  have ht := C0.2.2.2.2.2.2.1
  refine va_copyi C0.1 C0.2.1 (C0.2.2.1.trans hL.1.symm) C0.2.2.2.2.2.1 (ht _ w1) (ht _ w2) (ht _ w3) (ht _ w4) C0.2.2.2.2.2.2.2.1 hP C0.dd hS k0 k1 2 2 ha hb (tm_tyget 2 (by decide)) (tm_tyget 2 (by decide)) rfl h1 h2 h3 h4 h5 hft hfr hlo hdg (fun H1 locs1 hP1 hD1 hS1 => ?_)
  rw [tm_wset hk1 (va_cpy (v k0) (v k1) sp.toNatClampNeg dp.toNatClampNeg nn.toNatClampNeg) (by rw [hs1]; rfl)] at hP1
  exact k hz H1 locs1 ls hP1 hS1 hL
/-- a text's bytes into the world's array -/
theorem ty_copyt {β : Type} {z : β} {res : Option β} (k1 : Nat) {b l0 l1 index : Nat} {f : Nat → Int32} {sp dp nn : Int32} (C0 : tmC p s m args meth c cc nL ret own Ts NW D cy sh ad n X A) (hdg : decode cc pc = .ok (.invokestatic index, 3)) (hX : va_T .byte b l0 (fun j => .int (f j)) A s s.heap) (hk1 : k1 < n) (hs1 : sh k1 = .inl (2, l1)) (w1 : Cond.methodLink own index arraycopyName ∈ Ts) (w2 : Cond.native arraycopyName ∈ Ts) (w3 : Cond.static arraycopyName ∈ Ts) (w4 : Cond.initialized "java/lang/System" ∈ Ts) (hfr : 1 ≤ R.frames) (hlo : (st.map fun v => v.category).sum + (nativeFrameWords "java/lang/System" "arraycopy" 5 + 11) ≤ R.locals) (k : tmG p l e R s m args below meth c cells slots Q nL D cy sh ad n X A z (pc + 3) lv st (tm_set v k1 (va_cpy f (v k1) sp.toNatClampNeg dp.toNatClampNeg nn.toNatClampNeg)) res) : tmG p l e R s m args below meth c cells slots Q nL D cy sh ad n X A z pc lv (.int nn :: .int dp :: .ref (ad k1) :: .int sp :: .ref b :: st) v (tm_g (tm_cok sp dp nn l0 l1 && tm_fit8 (fun i => f (sp.toNatClampNeg + i)) nn.toNatClampNeg) res) := tg_g fun hi hz H locs ls hP hS hL => by
  have hb := tm_wget (cy := cy) (sh := sh) (ad := ad) (v := v) (X := X) hk1
  rw [hs1] at hb
  rw [Bool.and_eq_true] at hi
  obtain ⟨h1, h2, h3, h4, h5⟩ := of_decide_eq_true hi.1
  have ht := C0.2.2.2.2.2.2.1
  refine vk_copyt C0.1 C0.2.1 (C0.2.2.1.trans hL.1.symm) C0.2.2.2.2.2.1 (ht _ w1) (ht _ w2) (ht _ w3) (ht _ w4) C0.2.2.2.2.2.2.2.1 hP C0.dd hS hX k1 2 hb (tm_tyget 2 (by decide)) h1 h2 h3 h4 h5 (of_decide_eq_true hi.2) hfr hlo hdg (fun H1 locs1 hP1 hD1 hS1 => ?_)
  rw [tm_wset hk1 (va_cpy f (v k1) sp.toNatClampNeg dp.toNatClampNeg nn.toNatClampNeg) (by rw [hs1]; rfl)] at hP1
  exact k hz H1 locs1 ls hP1 hS1 hL
theorem tb_dig {β : Type} {z : β} {res : Option β} {nm : String} {f : Nat → Int32} {index : Nat} (C0 : tmC p s m args meth c cc nL ret own Ts NW D cy sh ad n X A) (hdg : decode cc pc = .ok (.getstatic index, 3)) (hD : tmDg nm f A s s.heap) (hlink : Cond.fieldLink own index "java/lang/Integer" nm "[B" ∈ Ts) (k : ∀ t : Nat, va_T .byte t 100 (fun i => .int (f i)) A s s.heap → tmG p l e R s m args below meth c cells slots Q nL D cy sh ad n X A z (pc + 3) lv (.ref t :: st) v res) : tmG p l e R s m args below meth c cells slots Q nL D cy sh ad n X A z pc lv st v res := by
  obtain ⟨t, h1, h2⟩ := hD
  exact ty_ogs C0 hdg h1 hlink rfl (k t h2)
end TMB
