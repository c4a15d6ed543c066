/-! ===== the law's wrappers: their contracts, calls that throw, handlers ===== -/
abbrev tlS : Type := (Int64 × UInt64) × (tmM × List Int32)
def tl_cx {α β : Type} (o : Option ((Nat × α) × tmM)) (K : α → tmM → Option β) (KX : Nat → tmM → Option β) : Option β := match o with
  | none => none
  | some ((0, r), v) => K r v
  | some ((e + 1, _), v) => KX e v
def tl_cxw {β : Type} (o : Option tmRW) (K : Int32 → tmM → List Int32 → Option β) (KX : Nat → tmM → List Int32 → Option β) : Option β := match o with
  | none => none
  | some ((0, r), v) => K r v.1 v.2
  | some ((e + 1, _), v) => KX e v.1 v.2
def tlP (adK adV adE : Nat → Nat) (tC : Nat) (D : va_G) (cy : Nat → ClassId) (ad ar : Nat → Nat) (o1 o2 : Nat) (cL cD : ClassId) (sz κ b0 : Nat) (u v w : tmM) (xo : Int64) (xd : UInt64) : State → Prop := fun U => (U.heap.size = sz ∧ va_P D vwCl (tlW cy ad ar o1 o2 cL cD κ b0 u v w xo xd) U.heap ∧ va_K D vwCl (tm_tys cy) U ∧ tmNs tm_NWC U ∧ va_D (fun _ => True) (tlW cy ad ar o1 o2 cL cD κ b0 u v w xo xd)) ∧ tmSc adK adV adE tC (va_A (tlW cy ad ar o1 o2 cL cD κ b0 u v w xo xd) sz) U U.heap ∧ tmTh (va_A (tlW cy ad ar o1 o2 cL cD κ b0 u v w xo xd) sz) U U.heap ∧ tlF D cy cL cD U
theorem tlP.blind {adK adV adE : Nat → Nat} {tC : Nat} {D : va_G} {cy : Nat → ClassId} {ad ar : Nat → Nat} {o1 o2 : Nat} {cL cD : ClassId} {sz κ b0 : Nat} {u v w : tmM} {xo : Int64} {xd : UInt64} (av : List Value) : FrameBlind (va_Pc av (tlP adK adV adE tC D cy ad ar o1 o2 cL cD sz κ b0 u v w xo xd)) := fun a U g mk q => by
  obtain ⟨q0, ⟨h1, h2, h3, h4, h5⟩, h6, h7, h8⟩ := q
  exact ⟨q0, ⟨h1, h2, va_K.moved (u := U) (U := U.calling g mk a) (Vm.Alike.refl U.vm) h3, tmNs.same (u := U) tm_NWC_ok rfl h4, h5⟩, h6.call, h7.call, h8.call⟩
def tlT (D : va_G) (cy : Nat → ClassId) (ad ar : Nat → Nat) (o1 o2 : Nat) (cL cD : ClassId) (w : tmM) (A : Nat → Prop) (y : tlS) (t : State) : Prop := ∃ (κ b0 : Nat) (u : tmM), tmTx κ u y.2.2 ∧ va_P D vwCl (tlW cy ad ar o1 o2 cL cD κ b0 u y.2.1 w y.1.1 y.1.2) t.heap ∧ va_D A (tlW cy ad ar o1 o2 cL cD κ b0 u y.2.1 w y.1.1 y.1.2)
def tlI (l : Launch) (adK adV adE : Nat → Nat) (tC : Nat) (y : MethodName) (ws : List Cond) (rm : Room) (As : Nat → Nat → List Value) (v : tmM) (bs : List Int32) (mc ms : Nat) (o : Int64 → UInt64 → Option (Int32 × tlS)) : Prop :=
  ∀ (D : va_G) (cy : Nat → ClassId) (ad ar : Nat → Nat) (o1 o2 : Nat) (cL cD : ClassId) (sz κ b0 : Nat) (u w : tmM) (xo : Int64) (xd : UInt64) (z : Int32 × tlS), tmTx κ u bs → o xo xd = some z → Met l y ws rm (va_Pc (.ref (ad 247) :: As o1 o2) (tlP adK adV adE tC D cy ad ar o1 o2 cL cD sz κ b0 u v w xo xd)) (va_Qi (fun r y => z = (r, y)) (tlT D cy ad ar o1 o2 cL cD w (va_A (tlW cy ad ar o1 o2 cL cD κ b0 u v w xo xd) sz)) (va_A (tlW cy ad ar o1 o2 cL cD κ b0 u v w xo xd) sz)) mc ms (va_A (tlW cy ad ar o1 o2 cL cD κ b0 u v w xo xd) sz)
def tl_ct (j : Nat) : Nat := match j with
  | 0 => 28
  | 1 => 18
  | _ => 13
section TLI
variable {p : Program} {l : Launch} {e : Env} {R : Room} {s : State} {m : MethodId} {args : Array Value} {below : List Frame} {meth : Method} {c : Code} {cells slots mc ms : Nat} {Q : State → Prop} {cc : ByteArray} {nL : Nat} {ret : Option FieldType} {own : String} {D : va_G} {cy : Nat → ClassId} {A : Nat → Prop} {adK adV adE : Nat → Nat} {tC : Nat} {pc : Nat} {lv lv' : List (Nat × Value)} {st : List Value} {β : Type} {z : β} {res : Option β} {ad ar : Nat → Nat} {o1 o2 : Nat} {cL cD : ClassId} {κ b0 : Nat} {u v w : tmM} {bs : List Int32} {xo : Int64} {xd : UInt64}
theorem tlI.of {y : MethodName} {ws : List Cond} {rm : Room} {As : Nat → Nat → List Value} {hh : List (Nat × Nat × Nat × Nat)} {o : Int64 → UInt64 → Option (Int32 × tlS)} (hy : plainName y.cls = true) (hw : ws = Cond.codeWith y cc nL (some .int) hh :: TMW) (hlen : ∀ a o1 o2 : Nat, (lg_sl (.ref a :: As o1 o2)).length ≤ nL)
    (h : ∀ (p : Program) (e : Env) (s : State) (m : MethodId) (args : Array Value) (below : List Frame) (meth : Method) (c : Code) (A : Nat → Prop) (D : va_G) (cy : Nat → ClassId) (ad ar : Nat → Nat) (o1 o2 : Nat) (cL cD : ClassId) (κ b0 : Nat) (u w : tmM) (xo : Int64) (xd : UInt64) (z : Int32 × tlS), tmC p s m args meth c cc nL (some .int) y.cls TMW tm_NWC D cy tm_s0 tm_a0 0 (tlW cy ad ar o1 o2 cL cD κ b0 u v w xo xd) A → tmSc adK adV adE tC A s s.heap → tmTh A s s.heap → tlF D cy cL cD s → tmTx κ u bs → c.exceptionTable.toList = tableOf hh → tmG p l e rm s m args below meth c 0 0 (MQ below (va_Qi (fun r y => z = (r, y)) (tlT D cy ad ar o1 o2 cL cD w A) A) args s mc ms A) nL D cy tm_s0 tm_a0 0 (tlW cy ad ar o1 o2 cL cD κ b0 u v w xo xd) A z 0 (lv_args 0 (.ref (ad 247) :: As o1 o2)) [] tm_v0 (o xo xd)) : tlI l adK adV adE tC y ws rm As v bs mc ms o := by
  intro D cy ad ar o1 o2 cL cD sz κ b0 u w xo xd z hT hz
  refine va_MetW (cc := cc) (maxL := nL) (ret := some .int) (hh := hh) hy hw ?_
  intro p e s m args below meth c s₁ B hml hv
  obtain ⟨rfl, ⟨hsz, hP, hK, hN, hD0⟩, hE, hTh, hF⟩ := hv
  have hx := B.exec
  have hb := B.bytes
  have hr := B.returns
  have hts0 : ∀ w ∈ ws, w.before _ s = true := atoms_spec (ws := ws) B.pre
  have hts : ∀ w ∈ TMW, w.before _ s = true := fun w h => hts0 w (by rw [hw]; exact List.mem_cons_of_mem _ h)
  have htab : c.exceptionTable.toList = tableOf hh := vx_table (x := y) B (hts0 _ (by rw [hw]; exact List.mem_cons_self))
  have hown : s.vm.findClass y.cls = some m.cls := findClass_of_methodNamed B.named
  have hlocks := B.notSynchronized
  subst hsz
  have hD := hD0.self (sz := s.heap.size)
  generalize hAe : va_A (tlW cy ad ar o1 o2 cL cD κ b0 u v w xo xd) s.heap.size = A at hD hE hTh ⊢
  have hA : ∀ q : Nat, s.heap.size ≤ q → A q := fun q h => by rw [← hAe]; exact Or.inr h
  have hl := lv_entry (.ref (ad 247) :: As o1 o2) (n := nL) (hlen (ad 247) o1 o2)
  rw [lg_entry_eq]
  exact h p e s m _ below meth c A D cy ad ar o1 o2 cL cD κ b0 u w xo xd z ⟨hx, hb, hml, hr, hlocks, hown, hts, hK, hN, tm_NWC_ok, hD, hA⟩ hE hTh hF hT htab hz s.heap [] _ hP va_S.rf hl
theorem tl_iret {z : Int32 × tlS} {x : Int32} (C0 : tmC p s m args meth c cc nL (some .int) own TMW tm_NWC D cy tm_s0 tm_a0 0 (tlW cy ad ar o1 o2 cL cD κ b0 u v w xo xd) A) (hT : tmTx κ u bs) (hdg : decode cc pc = .ok (.ireturn, 1)) (hc : cells ≤ mc ∧ slots ≤ ms) : tmG p l e R s m args below meth c cells slots (MQ below (va_Qi (fun r y => z = (r, y)) (tlT D cy ad ar o1 o2 cL cD w A) A) args s mc ms A) nL D cy tm_s0 tm_a0 0 (tlW cy ad ar o1 o2 cL cD κ b0 u v w xo xd) A z pc lv [.int x] tm_v0 (some (x, ((xo, xd), (v, bs)))) := fun hz H locs ls hP hS hL => W.widen hc.1 hc.2 (W.iret C0.1 C0.2.1 C0.2.2.2.1 (fun t ht hW => ⟨⟨x, ((xo, xd), (v, bs)), rfl, (Option.some.inj hz).symm, κ, b0, u, hT, by rw [ht]; exact hP, C0.dd (v := tm_v0)⟩, hS.F ht⟩) hS.2.2 hdg C0.2.2.2.2.1)
theorem tl_i2l {x : Int32} {X : va_W} (C0 : tmC p s m args meth c cc nL ret own TMW tm_NWC D cy tm_s0 tm_a0 0 X A) (hdg : decode cc pc = .ok (.i2l, 1)) (k : tmG p l e R s m args below meth c cells slots Q nL D cy tm_s0 tm_a0 0 X A z (pc + 1) lv (.long x.toInt64 :: st) tm_v0 res) : tmG p l e R s m args below meth c cells slots Q nL D cy tm_s0 tm_a0 0 X A z pc lv (.int x :: st) tm_v0 res := fun hz H locs ls hP hS hL => lv_i2l C0.1 C0.2.1 hdg rfl (k hz H locs ls hP hS hL)
theorem tl_lconst {X : va_W} {n : Fin 2} {x : Int64} (C0 : tmC p s m args meth c cc nL ret own TMW tm_NWC D cy tm_s0 tm_a0 0 X A) (hdg : decode cc pc = .ok (.lconst n, 1)) (hv : Int64.ofNat (n : Nat) = x) (k : tmG p l e R s m args below meth c cells slots Q nL D cy tm_s0 tm_a0 0 X A z (pc + 1) lv (.long x :: st) tm_v0 res) : tmG p l e R s m args below meth c cells slots Q nL D cy tm_s0 tm_a0 0 X A z pc lv st tm_v0 res := fun hz H locs ls hP hS hL => lv_lconst C0.1 C0.2.1 hdg hv (k hz H locs ls hP hS hL)
theorem tl_last {x : Int64} (C0 : tmC p s m args meth c cc nL ret own TMW tm_NWC D cy tm_s0 tm_a0 0 (tlW cy ad ar o1 o2 cL cD κ b0 u v w xo xd) A) (hF : tlF D cy cL cD s) (hdg : decode cc pc = .ok (.lastore, 1)) (k : tmC p s m args meth c cc nL ret own TMW tm_NWC D cy tm_s0 tm_a0 0 (tlW cy ad ar o1 o2 cL cD κ b0 u v w x xd) A → tmG p l e R s m args below meth c cells slots Q nL D cy tm_s0 tm_a0 0 (tlW cy ad ar o1 o2 cL cD κ b0 u v w x xd) A z (pc + 1) lv st tm_v0 res) : tmG p l e R s m args below meth c cells slots Q nL D cy tm_s0 tm_a0 0 (tlW cy ad ar o1 o2 cL cD κ b0 u v w xo xd) A z pc lv (.long x :: .int 0 :: .ref o1 :: st) tm_v0 res := fun hz H locs ls hP hS hL => by
  have hP : va_P D vwCl (tlW cy ad ar o1 o2 cL cD κ b0 u v w xo xd) H := hP
  refine va_last C0.1 C0.2.1 hF.1 hP (C0.dd (v := tm_v0)) hS 271 6 (n := 1) (f := tl_L xo) (tl_get 0) rfl (tm_ixin (by decide : tm_ix 0 1 = true)) hdg (fun H1 locs1 hP1 hD1 hS1 => ?_)
  have e : (0 : Int32).toNatClampNeg = 0 := rfl
  rw [e, tl_setL] at hP1
  have hD1 : va_D A ((tlW cy ad ar o1 o2 cL cD κ b0 u v w xo xd).set 271 _) := hD1
  rw [e, tl_setL] at hD1
  exact k (C0.ad (v := tm_v0) hD1) hz H1 locs1 ls hP1 hS1 hL
theorem tl_dast {x : UInt64} (C0 : tmC p s m args meth c cc nL ret own TMW tm_NWC D cy tm_s0 tm_a0 0 (tlW cy ad ar o1 o2 cL cD κ b0 u v w xo xd) A) (hF : tlF D cy cL cD s) (hdg : decode cc pc = .ok (.dastore, 1)) (k : tmC p s m args meth c cc nL ret own TMW tm_NWC D cy tm_s0 tm_a0 0 (tlW cy ad ar o1 o2 cL cD κ b0 u v w xo x) A → tmG p l e R s m args below meth c cells slots Q nL D cy tm_s0 tm_a0 0 (tlW cy ad ar o1 o2 cL cD κ b0 u v w xo x) A z (pc + 1) lv st tm_v0 res) : tmG p l e R s m args below meth c cells slots Q nL D cy tm_s0 tm_a0 0 (tlW cy ad ar o1 o2 cL cD κ b0 u v w xo xd) A z pc lv (.double x :: .int 0 :: .ref o2 :: st) tm_v0 res := fun hz H locs ls hP hS hL => by
  have hP : va_P D vwCl (tlW cy ad ar o1 o2 cL cD κ b0 u v w xo xd) H := hP
  refine va_dast C0.1 C0.2.1 hF.1 hP (C0.dd (v := tm_v0)) hS 272 7 (n := 1) (f := tl_D xd) (tl_get 1) rfl (tm_ixin (by decide : tm_ix 0 1 = true)) hdg (fun H1 locs1 hP1 hD1 hS1 => ?_)
  have e : (0 : Int32).toNatClampNeg = 0 := rfl
  rw [e, tl_setD] at hP1
  have hD1 : va_D A ((tlW cy ad ar o1 o2 cL cD κ b0 u v w xo xd).set 272 _) := hD1
  rw [e, tl_setD] at hD1
  exact k (C0.ad (v := tm_v0) hD1) hz H1 locs1 ls hP1 hS1 hL
theorem tl_exm (i : Nat) : tm_ex i = tm_ex (min i 2) := by
  match i with
  | 0 => rfl
  | 1 => rfl
  | k + 2 => rw [show min (k + 2) 2 = 2 by omega]; rfl
theorem tl_catch (i : Nat) (hown : s.vm.findClass RL = some m.cls) (hts : ∀ w ∈ TMW, w.before args s = true) (hcl : ∀ j, j < 3 → Cond.classLink RL (tl_ct j) (tm_ex j) ∈ TMW) (hF : tlF D cy cL cD s) (pre suf : List ExceptionTableEntry) (x : ExceptionTableEntry) (hsplit : c.exceptionTable.toList = pre ++ x :: suf) (hpass : ∀ z ∈ pre, ∃ j, j < 3 ∧ min i 2 ≠ j ∧ z.catchType = tl_ct j) (hx : covers x pc = true) (hct : x.catchType = tl_ct (min i 2)) {H : Heap} {locs : List Loc} {ls : Array Slot} {rest : List Value} {q : Addr} {ce : Cell} (hcell : H[q]? = some ce) (hv : ce.vm = .none) (hcls : s.vm.findClass (tm_ex i) = some ce.cls)
    (kk : W p l e R s m args below meth c H locs cells slots Q (F0 m x.handlerPc ls [.ref q])) : vx_W p l e R s m args below meth c H locs cells slots Q (F0 m pc ls rest) q := by
  have hi : min i 2 < 3 := by omega
  have hne : ∀ j, tl_ct j ≠ 0 := fun j => by
    match j with
    | 0 => decide
    | 1 => decide
    | k + 2 => show (13 : Nat) ≠ 0; decide
  rw [tl_exm i] at hcls
  refine vx_catch (name := tm_ex (min i 2)) hown pre x suf hsplit (fun z hz => ?_) hx (by rw [hct]; exact hne _) (by rw [hct]; exact hts _ (hcl _ hi)) ?_ hcell hv hcls kk
  · obtain ⟨j, hj, hij, hzc⟩ := hpass z hz
    exact Or.inr ⟨by rw [hzc]; exact hne j, tm_ex j, by rw [hzc]; exact hts _ (hcl j hj), hF.2.2 _ _ hi hj hij⟩
  · have h := tmNs.use (args := args) tl_NW_ok hF.2.1
    rcases (show min i 2 = 0 ∨ min i 2 = 1 ∨ min i 2 = 2 by omega) with h0 | h0 | h0 <;> rw [h0]
    · exact h _ (List.mem_of_getElem? (i := 0) rfl)
    · exact h _ (List.mem_of_getElem? (i := 1) rfl)
    · exact h _ (List.mem_of_getElem? (i := 2) rfl)
/-- a method of the class that throws (an int) -/
theorem tl_xi {o : Option tmR} {K : Int32 → tmM → Option β} {KX : Nat → tmM → Option β} (hh : Nat → Option Nat) {C : String} {T : u_T} {N ci idx : Nat} {fs : List (Option Nat)} {y : MethodName} {wsy ws' : List Cond} {rmy : Room} {av : (Nat → Nat) → List Value} {bytes : ByteArray} {maxL mc1 ms1 : Nat} {rt : Option FieldType} {As st0 : List Value} (na : Nat) (C0 : tmC p s m args meth c cc nL ret own TMW tm_NWC D cy tm_s0 tm_a0 0 (tlW cy ad ar o1 o2 cL cD κ b0 u v w xo xd) A) (hE : tmTh A s s.heap) (hdg : decode cc pc = .ok (.invokevirtual idx, 3)) (hM : tmXi tm_NWC tm_shC 256 l y wsy rmy av v mc1 ms1 o) (hav : av ad = .ref (ad 247) :: As) (hst : st0 = As.reverse ++ .ref (ad 247) :: st) (hsh : tm_shC 247 = .inr (.inr (ci, fs))) (hc : vwCl[ci]? = some (C, T, N)) (hG : GoodIn TMW (wsV own idx C y wsy)) (hna : As.length = na) (hw : wsy = Cond.code y bytes maxL rt :: ws') (hrc : rmy.cells = mc1) (hrs : rmy.slots = ms1) (hd : y.cls = C ∧ y.cls ≠ "java/lang/invoke/MethodHandle" ∧ y.cls ≠ "java/lang/invoke/VarHandle" ∧ (parseMethodDescriptor y.desc).map (fun d => d.parameters.length) = some na) (hR : rmy.frames + 1 ≤ R.frames ∧ 8 + (maxL + 11) + rmy.locals ≤ R.locals) (hcat : (st.map fun v => v.category).sum ≤ 8) (hcs : cells + mc1 ≤ R.cells ∧ slots + ms1 ≤ R.slots)
    (hno : ∀ i v', hh i = none → KX i v' = none)
    (hct : ∀ (i pcH : Nat), hh i = some pcH → ∀ (H : Heap) (locs : List Loc) (ls : Array Slot) (q : Addr) (ce : Cell), H[q]? = some ce → ce.vm = .none → s.vm.findClass (tm_ex i) = some ce.cls → W p l e R s m args below meth c H locs (cells + mc1) (slots + ms1) Q (F0 m pcH ls [.ref q]) → vx_W p l e R s m args below meth c H locs (cells + mc1) (slots + ms1) Q (F0 m pc ls st) q)
    (kx : ∀ (i pcH q : Nat) (v' : tmM), hh i = some pcH → tmC p s m args meth c cc nL ret own TMW tm_NWC D cy tm_s0 tm_a0 0 (tlW cy ad ar o1 o2 cL cD κ b0 u v' w xo xd) A → tmG p l e R s m args below meth c (cells + mc1) (slots + ms1) Q nL D cy tm_s0 tm_a0 0 (tlW cy ad ar o1 o2 cL cD κ b0 u v' w xo xd) A z pcH lv [.ref q] tm_v0 (KX i v'))
    (k : ∀ (r : Int32) (v' : tmM), tmC p s m args meth c cc nL ret own TMW tm_NWC D cy tm_s0 tm_a0 0 (tlW cy ad ar o1 o2 cL cD κ b0 u v' w xo xd) A → tmG p l e R s m args below meth c (cells + mc1) (slots + ms1) Q nL D cy tm_s0 tm_a0 0 (tlW cy ad ar o1 o2 cL cD κ b0 u v' w xo xd) A z (pc + 3) lv (.int r :: st) tm_v0 (K r v')) : tmG p l e R s m args below meth c cells slots Q nL D cy tm_s0 tm_a0 0 (tlW cy ad ar o1 o2 cL cD κ b0 u v w xo xd) A z pc lv st0 tm_v0 (tl_cx o K KX) := by
  intro hz
  cases ho : o with
  | none => rw [ho] at hz; cases hz
  | some y0 =>
    rw [ho] at hz
    intro H locs ls hP hS hL
    have hP : va_P D vwCl (tlW cy ad ar o1 o2 cL cD κ b0 u v w xo xd) H := hP
    have hX : ∀ v' : tmM, tlW cy ad ar o1 o2 cL cD κ b0 u v' w xo xd = [] ++ (tm_w cy tm_shC ad 256 v' ++ (tmXB cy (ad 256) κ b0 u ++ (tm_w cy tm_shR ar 13 w ++ tlO o1 o2 cL cD xo xd))) := fun v' => List.append_assoc _ _ _
    have hMet := hM D cy ad H.size y0 ho
    have hts := C0.2.2.2.2.2.2.1
    have hF := tl_fr C0 (hX v) hS
    have hD : va_D A ([] ++ (tm_w cy tm_shC ad 256 v ++ (tmXB cy (ad 256) κ b0 u ++ (tm_w cy tm_shR ar 13 w ++ tlO o1 o2 cL cD xo xd)))) := (hX v) ▸ C0.dd (v := tm_v0)
    have hP2 : va_P D vwCl (tm_w cy tm_shC ad 256 v) H := tl_P (pre := []) ((hX v) ▸ hP)
    have ha : (tm_w cy tm_shC ad 256 v)[247]? = some (ad 247, .inr (ci, tm_slots ad (v 247) 0 fs)) := by have h := tm_wget (cy := cy) (sh := tm_shC) (ad := ad) (v := v) (X := []) (n := 256) (k := 247) (by decide); rw [List.append_nil, hsh] at h; exact h
    subst hst
    refine vx_calli (vx_runV (As := As) (rest := st) ⟨C0.1, C0.2.1, C0.2.2.1, C0.2.2.2.2.2.1, hts⟩ hMet (cwV na hts hG hw hrc hrs hd hR) ⟨tmXP.blind C0.2.2.2.2.2.2.2.2.2.1 _, va_recv C0.2.2.2.2.2.2.2.1 hP2 hc ha, fun U hU hW => ⟨by rw [hav], ⟨by rw [hU], by rw [hU]; exact hP2, va_K.moved hW.alike C0.2.2.2.2.2.2.2.1, tmNs.warm C0.2.2.2.2.2.2.2.2.2.1 hW C0.2.2.2.2.2.2.2.2.1, (tm_Dleft (tl_D1 hD)).weaken (fun _ _ _ _ => trivial)⟩, hE.go hS hF hU hW⟩⟩ rfl hna hL.1 rfl (lv_room hcat) hdg hcs) hS (fun q _ h => hF q h) hF (fun q _ h => hF q h) (fun E ce q9 u1 t H1 locs1 ht hvm hpx hBX hz1 hk1 hS1 hq9 hcv hcl => ?_) (fun r1 u1 t H1 locs1 ht hvm hw2 hB hz1 hk1 hS1 => ?_)
    · obtain ⟨hEx, hP1, hD1⟩ := hBX
      rw [ht] at hP1
      obtain ⟨hj, hC⟩ := tl_jn C0 (hX v) (hX u1.2) hP hS hk1 hP1 hD1
      rw [hpx] at hz
      have hz : KX u1.1 u1.2 = some z := hz
      cases hh1 : hh u1.1 with
      | none => rw [hno _ _ hh1] at hz; cases hz
      | some pcH => exact hct u1.1 pcH hh1 H1 locs1 ls q9 ce hq9 hcv (hEx ▸ hcl) (kx u1.1 pcH q9 u1.2 hh1 hC hz H1 locs1 ls hj hS1 hL)
    · obtain ⟨hP1, hD1⟩ := hB
      rw [ht] at hP1
      obtain ⟨hj, hC⟩ := tl_jn C0 (hX v) (hX u1) hP hS hk1 hP1 hD1
      rw [hw2] at hz
      exact k r1 u1 hC hz H1 locs1 ls hj hS1 hL
theorem tl_xv {o : Option tmR} {K : Int32 → tmM → Option β} {KX : Nat → tmM → Option β} (hh : Nat → Option Nat) {C : String} {T : u_T} {N ci idx : Nat} {fs : List (Option Nat)} {y : MethodName} {wsy ws' : List Cond} {rmy : Room} {av : (Nat → Nat) → List Value} {bytes : ByteArray} {maxL mc1 ms1 : Nat} {rt : Option FieldType} {As st0 : List Value} (na : Nat) (C0 : tmC p s m args meth c cc nL ret own TMW tm_NWC D cy tm_s0 tm_a0 0 (tlW cy ad ar o1 o2 cL cD κ b0 u v w xo xd) A) (hE : tmTh A s s.heap) (hdg : decode cc pc = .ok (.invokevirtual idx, 3)) (hM : tmXv tm_NWC tm_shC 256 l y wsy rmy av v mc1 ms1 o) (hav : av ad = .ref (ad 247) :: As) (hst : st0 = As.reverse ++ .ref (ad 247) :: st) (hsh : tm_shC 247 = .inr (.inr (ci, fs))) (hc : vwCl[ci]? = some (C, T, N)) (hG : GoodIn TMW (wsV own idx C y wsy)) (hna : As.length = na) (hw : wsy = Cond.code y bytes maxL rt :: ws') (hrc : rmy.cells = mc1) (hrs : rmy.slots = ms1) (hd : y.cls = C ∧ y.cls ≠ "java/lang/invoke/MethodHandle" ∧ y.cls ≠ "java/lang/invoke/VarHandle" ∧ (parseMethodDescriptor y.desc).map (fun d => d.parameters.length) = some na) (hR : rmy.frames + 1 ≤ R.frames ∧ 8 + (maxL + 11) + rmy.locals ≤ R.locals) (hcat : (st.map fun v => v.category).sum ≤ 8) (hcs : cells + mc1 ≤ R.cells ∧ slots + ms1 ≤ R.slots)
    (hno : ∀ i v', hh i = none → KX i v' = none)
    (hct : ∀ (i pcH : Nat), hh i = some pcH → ∀ (H : Heap) (locs : List Loc) (ls : Array Slot) (q : Addr) (ce : Cell), H[q]? = some ce → ce.vm = .none → s.vm.findClass (tm_ex i) = some ce.cls → W p l e R s m args below meth c H locs (cells + mc1) (slots + ms1) Q (F0 m pcH ls [.ref q]) → vx_W p l e R s m args below meth c H locs (cells + mc1) (slots + ms1) Q (F0 m pc ls st) q)
    (kx : ∀ (i pcH q : Nat) (v' : tmM), hh i = some pcH → tmC p s m args meth c cc nL ret own TMW tm_NWC D cy tm_s0 tm_a0 0 (tlW cy ad ar o1 o2 cL cD κ b0 u v' w xo xd) A → tmG p l e R s m args below meth c (cells + mc1) (slots + ms1) Q nL D cy tm_s0 tm_a0 0 (tlW cy ad ar o1 o2 cL cD κ b0 u v' w xo xd) A z pcH lv [.ref q] tm_v0 (KX i v'))
    (k : ∀ (v' : tmM), tmC p s m args meth c cc nL ret own TMW tm_NWC D cy tm_s0 tm_a0 0 (tlW cy ad ar o1 o2 cL cD κ b0 u v' w xo xd) A → tmG p l e R s m args below meth c (cells + mc1) (slots + ms1) Q nL D cy tm_s0 tm_a0 0 (tlW cy ad ar o1 o2 cL cD κ b0 u v' w xo xd) A z (pc + 3) lv st tm_v0 (K 0 v')) : tmG p l e R s m args below meth c cells slots Q nL D cy tm_s0 tm_a0 0 (tlW cy ad ar o1 o2 cL cD κ b0 u v w xo xd) A z pc lv st0 tm_v0 (tl_cx o K KX) := by
  intro hz
  cases ho : o with
  | none => rw [ho] at hz; cases hz
  | some y0 =>
    rw [ho] at hz
    intro H locs ls hP hS hL
    have hP : va_P D vwCl (tlW cy ad ar o1 o2 cL cD κ b0 u v w xo xd) H := hP
    have hX : ∀ v' : tmM, tlW cy ad ar o1 o2 cL cD κ b0 u v' w xo xd = [] ++ (tm_w cy tm_shC ad 256 v' ++ (tmXB cy (ad 256) κ b0 u ++ (tm_w cy tm_shR ar 13 w ++ tlO o1 o2 cL cD xo xd))) := fun v' => List.append_assoc _ _ _
    have hMet := hM D cy ad H.size y0 ho
    have hts := C0.2.2.2.2.2.2.1
    have hF := tl_fr C0 (hX v) hS
    have hD : va_D A ([] ++ (tm_w cy tm_shC ad 256 v ++ (tmXB cy (ad 256) κ b0 u ++ (tm_w cy tm_shR ar 13 w ++ tlO o1 o2 cL cD xo xd)))) := (hX v) ▸ C0.dd (v := tm_v0)
    have hP2 : va_P D vwCl (tm_w cy tm_shC ad 256 v) H := tl_P (pre := []) ((hX v) ▸ hP)
    have ha : (tm_w cy tm_shC ad 256 v)[247]? = some (ad 247, .inr (ci, tm_slots ad (v 247) 0 fs)) := by have h := tm_wget (cy := cy) (sh := tm_shC) (ad := ad) (v := v) (X := []) (n := 256) (k := 247) (by decide); rw [List.append_nil, hsh] at h; exact h
    subst hst
    refine vx_callv (vx_runV (As := As) (rest := st) ⟨C0.1, C0.2.1, C0.2.2.1, C0.2.2.2.2.2.1, hts⟩ hMet (cwV na hts hG hw hrc hrs hd hR) ⟨tmXP.blind C0.2.2.2.2.2.2.2.2.2.1 _, va_recv C0.2.2.2.2.2.2.2.1 hP2 hc ha, fun U hU hW => ⟨by rw [hav], ⟨by rw [hU], by rw [hU]; exact hP2, va_K.moved hW.alike C0.2.2.2.2.2.2.2.1, tmNs.warm C0.2.2.2.2.2.2.2.2.2.1 hW C0.2.2.2.2.2.2.2.2.1, (tm_Dleft (tl_D1 hD)).weaken (fun _ _ _ _ => trivial)⟩, hE.go hS hF hU hW⟩⟩ rfl hna hL.1 rfl (lv_room hcat) hdg hcs) hS (fun q _ h => hF q h) hF (fun q _ h => hF q h) (fun E ce q9 u1 t H1 locs1 ht hvm hpx hBX hz1 hk1 hS1 hq9 hcv hcl => ?_) (fun u1 t H1 locs1 ht hvm hw2 hB hz1 hk1 hS1 => ?_)
    · obtain ⟨hEx, hP1, hD1⟩ := hBX
      rw [ht] at hP1
      obtain ⟨hj, hC⟩ := tl_jn C0 (hX v) (hX u1.2) hP hS hk1 hP1 hD1
      rw [hpx] at hz
      have hz : KX u1.1 u1.2 = some z := hz
      cases hh1 : hh u1.1 with
      | none => rw [hno _ _ hh1] at hz; cases hz
      | some pcH => exact hct u1.1 pcH hh1 H1 locs1 ls q9 ce hq9 hcv (hEx ▸ hcl) (kx u1.1 pcH q9 u1.2 hh1 hC hz H1 locs1 ls hj hS1 hL)
    · obtain ⟨hP1, hD1⟩ := hB
      rw [ht] at hP1
      obtain ⟨hj, hC⟩ := tl_jn C0 (hX v) (hX u1) hP hS hk1 hP1 hD1
      rw [hw2] at hz
      exact k u1 hC hz H1 locs1 ls hj hS1 hL
theorem tl_xd {o : Option ((Nat × UInt64) × tmM)} {K : UInt64 → tmM → Option β} {KX : Nat → tmM → Option β} (hh : Nat → Option Nat) {C : String} {T : u_T} {N ci idx : Nat} {fs : List (Option Nat)} {y : MethodName} {wsy ws' : List Cond} {rmy : Room} {av : (Nat → Nat) → List Value} {bytes : ByteArray} {maxL mc1 ms1 : Nat} {rt : Option FieldType} {As st0 : List Value} (na : Nat) (C0 : tmC p s m args meth c cc nL ret own TMW tm_NWC D cy tm_s0 tm_a0 0 (tlW cy ad ar o1 o2 cL cD κ b0 u v w xo xd) A) (hE : tmTh A s s.heap) (hdg : decode cc pc = .ok (.invokevirtual idx, 3)) (hM : tmXd tm_NWC tm_shC 256 l y wsy rmy av v mc1 ms1 o) (hav : av ad = .ref (ad 247) :: As) (hst : st0 = As.reverse ++ .ref (ad 247) :: st) (hsh : tm_shC 247 = .inr (.inr (ci, fs))) (hc : vwCl[ci]? = some (C, T, N)) (hG : GoodIn TMW (wsV own idx C y wsy)) (hna : As.length = na) (hw : wsy = Cond.code y bytes maxL rt :: ws') (hrc : rmy.cells = mc1) (hrs : rmy.slots = ms1) (hd : y.cls = C ∧ y.cls ≠ "java/lang/invoke/MethodHandle" ∧ y.cls ≠ "java/lang/invoke/VarHandle" ∧ (parseMethodDescriptor y.desc).map (fun d => d.parameters.length) = some na) (hR : rmy.frames + 1 ≤ R.frames ∧ 8 + (maxL + 11) + rmy.locals ≤ R.locals) (hcat : (st.map fun v => v.category).sum ≤ 8) (hcs : cells + mc1 ≤ R.cells ∧ slots + ms1 ≤ R.slots)
    (hno : ∀ i v', hh i = none → KX i v' = none)
    (hct : ∀ (i pcH : Nat), hh i = some pcH → ∀ (H : Heap) (locs : List Loc) (ls : Array Slot) (q : Addr) (ce : Cell), H[q]? = some ce → ce.vm = .none → s.vm.findClass (tm_ex i) = some ce.cls → W p l e R s m args below meth c H locs (cells + mc1) (slots + ms1) Q (F0 m pcH ls [.ref q]) → vx_W p l e R s m args below meth c H locs (cells + mc1) (slots + ms1) Q (F0 m pc ls st) q)
    (kx : ∀ (i pcH q : Nat) (v' : tmM), hh i = some pcH → tmC p s m args meth c cc nL ret own TMW tm_NWC D cy tm_s0 tm_a0 0 (tlW cy ad ar o1 o2 cL cD κ b0 u v' w xo xd) A → tmG p l e R s m args below meth c (cells + mc1) (slots + ms1) Q nL D cy tm_s0 tm_a0 0 (tlW cy ad ar o1 o2 cL cD κ b0 u v' w xo xd) A z pcH lv [.ref q] tm_v0 (KX i v'))
    (k : ∀ (r : UInt64) (v' : tmM), tmC p s m args meth c cc nL ret own TMW tm_NWC D cy tm_s0 tm_a0 0 (tlW cy ad ar o1 o2 cL cD κ b0 u v' w xo xd) A → tmG p l e R s m args below meth c (cells + mc1) (slots + ms1) Q nL D cy tm_s0 tm_a0 0 (tlW cy ad ar o1 o2 cL cD κ b0 u v' w xo xd) A z (pc + 3) lv (.double r :: st) tm_v0 (K r v')) : tmG p l e R s m args below meth c cells slots Q nL D cy tm_s0 tm_a0 0 (tlW cy ad ar o1 o2 cL cD κ b0 u v w xo xd) A z pc lv st0 tm_v0 (tl_cx o K KX) := by
  intro hz
  cases ho : o with
  | none => rw [ho] at hz; cases hz
  | some y0 =>
    rw [ho] at hz
    intro H locs ls hP hS hL
    have hP : va_P D vwCl (tlW cy ad ar o1 o2 cL cD κ b0 u v w xo xd) H := hP
    have hX : ∀ v' : tmM, tlW cy ad ar o1 o2 cL cD κ b0 u v' w xo xd = [] ++ (tm_w cy tm_shC ad 256 v' ++ (tmXB cy (ad 256) κ b0 u ++ (tm_w cy tm_shR ar 13 w ++ tlO o1 o2 cL cD xo xd))) := fun v' => List.append_assoc _ _ _
    have hMet := hM D cy ad H.size y0 ho
    have hts := C0.2.2.2.2.2.2.1
    have hF := tl_fr C0 (hX v) hS
    have hD : va_D A ([] ++ (tm_w cy tm_shC ad 256 v ++ (tmXB cy (ad 256) κ b0 u ++ (tm_w cy tm_shR ar 13 w ++ tlO o1 o2 cL cD xo xd)))) := (hX v) ▸ C0.dd (v := tm_v0)
    have hP2 : va_P D vwCl (tm_w cy tm_shC ad 256 v) H := tl_P (pre := []) ((hX v) ▸ hP)
    have ha : (tm_w cy tm_shC ad 256 v)[247]? = some (ad 247, .inr (ci, tm_slots ad (v 247) 0 fs)) := by have h := tm_wget (cy := cy) (sh := tm_shC) (ad := ad) (v := v) (X := []) (n := 256) (k := 247) (by decide); rw [List.append_nil, hsh] at h; exact h
    subst hst
    refine vx_calld (vx_runV (As := As) (rest := st) ⟨C0.1, C0.2.1, C0.2.2.1, C0.2.2.2.2.2.1, hts⟩ hMet (cwV na hts hG hw hrc hrs hd hR) ⟨tmXP.blind C0.2.2.2.2.2.2.2.2.2.1 _, va_recv C0.2.2.2.2.2.2.2.1 hP2 hc ha, fun U hU hW => ⟨by rw [hav], ⟨by rw [hU], by rw [hU]; exact hP2, va_K.moved hW.alike C0.2.2.2.2.2.2.2.1, tmNs.warm C0.2.2.2.2.2.2.2.2.2.1 hW C0.2.2.2.2.2.2.2.2.1, (tm_Dleft (tl_D1 hD)).weaken (fun _ _ _ _ => trivial)⟩, hE.go hS hF hU hW⟩⟩ rfl hna hL.1 rfl (lv_room hcat) hdg hcs) hS (fun q _ h => hF q h) hF (fun q _ h => hF q h) (fun E ce q9 u1 t H1 locs1 ht hvm hpx hBX hz1 hk1 hS1 hq9 hcv hcl => ?_) (fun r1 u1 t H1 locs1 ht hvm hw2 hB hz1 hk1 hS1 => ?_)
    · obtain ⟨hEx, hP1, hD1⟩ := hBX
      rw [ht] at hP1
      obtain ⟨hj, hC⟩ := tl_jn C0 (hX v) (hX u1.2) hP hS hk1 hP1 hD1
      rw [hpx] at hz
      have hz : KX u1.1 u1.2 = some z := hz
      cases hh1 : hh u1.1 with
      | none => rw [hno _ _ hh1] at hz; cases hz
      | some pcH => exact hct u1.1 pcH hh1 H1 locs1 ls q9 ce hq9 hcv (hEx ▸ hcl) (kx u1.1 pcH q9 u1.2 hh1 hC hz H1 locs1 ls hj hS1 hL)
    · obtain ⟨hP1, hD1⟩ := hB
      rw [ht] at hP1
      obtain ⟨hj, hC⟩ := tl_jn C0 (hX v) (hX u1) hP hS hk1 hP1 hD1
      rw [hw2] at hz
      exact k r1 u1 hC hz H1 locs1 ls hj hS1 hL
/-- write: the text beside -/
theorem tl_xw {o : Option tmRW} {K : Int32 → tmM → List Int32 → Option β} {KX : Nat → tmM → List Int32 → Option β} (hh : Nat → Option Nat) {C : String} {T : u_T} {N ci idx : Nat} {fs : List (Option Nat)} {y : MethodName} {wsy ws' : List Cond} {rmy : Room} {av : (Nat → Nat) → List Value} {bytes : ByteArray} {maxL mc1 ms1 : Nat} {rt : Option FieldType} {As st0 : List Value} (na : Nat) (C0 : tmC p s m args meth c cc nL ret own TMW tm_NWC D cy tm_s0 tm_a0 0 (tlW cy ad ar o1 o2 cL cD κ b0 u v w xo xd) A) (hSc : tmSc adK adV adE tC A s s.heap) (hE : tmTh A s s.heap) (hT : tmTx κ u bs) (hdg : decode cc pc = .ok (.invokevirtual idx, 3)) (hM : tmXWi tm_NWC tm_shC 256 l adK adV adE tC y wsy rmy av v bs mc1 ms1 o) (hav : av ad = .ref (ad 247) :: As) (hst : st0 = As.reverse ++ .ref (ad 247) :: st) (hsh : tm_shC 247 = .inr (.inr (ci, fs))) (hc : vwCl[ci]? = some (C, T, N)) (hG : GoodIn TMW (wsV own idx C y wsy)) (hna : As.length = na) (hw : wsy = Cond.code y bytes maxL rt :: ws') (hrc : rmy.cells = mc1) (hrs : rmy.slots = ms1) (hd : y.cls = C ∧ y.cls ≠ "java/lang/invoke/MethodHandle" ∧ y.cls ≠ "java/lang/invoke/VarHandle" ∧ (parseMethodDescriptor y.desc).map (fun d => d.parameters.length) = some na) (hR : rmy.frames + 1 ≤ R.frames ∧ 8 + (maxL + 11) + rmy.locals ≤ R.locals) (hcat : (st.map fun v => v.category).sum ≤ 8) (hcs : cells + mc1 ≤ R.cells ∧ slots + ms1 ≤ R.slots)
    (hno : ∀ i v' bs', hh i = none → KX i v' bs' = none)
    (hct : ∀ (i pcH : Nat), hh i = some pcH → ∀ (H : Heap) (locs : List Loc) (ls : Array Slot) (q : Addr) (ce : Cell), H[q]? = some ce → ce.vm = .none → s.vm.findClass (tm_ex i) = some ce.cls → W p l e R s m args below meth c H locs (cells + mc1) (slots + ms1) Q (F0 m pcH ls [.ref q]) → vx_W p l e R s m args below meth c H locs (cells + mc1) (slots + ms1) Q (F0 m pc ls st) q)
    (kx : ∀ (i pcH q κ b0 : Nat) (u v' : tmM) (bs' : List Int32), hh i = some pcH → tmTx κ u bs' → tmC p s m args meth c cc nL ret own TMW tm_NWC D cy tm_s0 tm_a0 0 (tlW cy ad ar o1 o2 cL cD κ b0 u v' w xo xd) A → tmG p l e R s m args below meth c (cells + mc1) (slots + ms1) Q nL D cy tm_s0 tm_a0 0 (tlW cy ad ar o1 o2 cL cD κ b0 u v' w xo xd) A z pcH lv [.ref q] tm_v0 (KX i v' bs'))
    (k : ∀ (r : Int32) (κ b0 : Nat) (u v' : tmM) (bs' : List Int32), tmTx κ u bs' → tmC p s m args meth c cc nL ret own TMW tm_NWC D cy tm_s0 tm_a0 0 (tlW cy ad ar o1 o2 cL cD κ b0 u v' w xo xd) A → tmG p l e R s m args below meth c (cells + mc1) (slots + ms1) Q nL D cy tm_s0 tm_a0 0 (tlW cy ad ar o1 o2 cL cD κ b0 u v' w xo xd) A z (pc + 3) lv (.int r :: st) tm_v0 (K r v' bs')) : tmG p l e R s m args below meth c cells slots Q nL D cy tm_s0 tm_a0 0 (tlW cy ad ar o1 o2 cL cD κ b0 u v w xo xd) A z pc lv st0 tm_v0 (tl_cxw o K KX) := by
  intro hz
  cases ho : o with
  | none => rw [ho] at hz; cases hz
  | some y0 =>
    rw [ho] at hz
    intro H locs ls hP hS hL
    have hP : va_P D vwCl (tlW cy ad ar o1 o2 cL cD κ b0 u v w xo xd) H := hP
    have hX : ∀ (κ b0 : Nat) (u v' : tmM), tlW cy ad ar o1 o2 cL cD κ b0 u v' w xo xd = [] ++ ((tm_w cy tm_shC ad 256 v' ++ tmXB cy (ad 256) κ b0 u) ++ (tm_w cy tm_shR ar 13 w ++ tlO o1 o2 cL cD xo xd)) := fun κ b0 u v' => rfl
    have hMet := hM D cy ad H.size κ b0 u y0 hT ho
    have hts := C0.2.2.2.2.2.2.1
    have hF := tl_fr C0 (hX κ b0 u v) hS
    have hD : va_D A ([] ++ ((tm_w cy tm_shC ad 256 v ++ tmXB cy (ad 256) κ b0 u) ++ (tm_w cy tm_shR ar 13 w ++ tlO o1 o2 cL cD xo xd))) := C0.dd (v := tm_v0)
    have hP2 : va_P D vwCl (tm_w cy tm_shC ad 256 v ++ tmXB cy (ad 256) κ b0 u) H := tl_P (pre := []) hP
    have ha : (tm_w cy tm_shC ad 256 v ++ tmXB cy (ad 256) κ b0 u)[247]? = some (ad 247, .inr (ci, tm_slots ad (v 247) 0 fs)) := by have h := tm_wget (cy := cy) (sh := tm_shC) (ad := ad) (v := v) (X := tmXB cy (ad 256) κ b0 u) (n := 256) (k := 247) (by decide); rw [hsh] at h; exact h
    subst hst
    refine vx_calli (vx_runV (As := As) (rest := st) ⟨C0.1, C0.2.1, C0.2.2.1, C0.2.2.2.2.2.1, hts⟩ hMet (cwV na hts hG hw hrc hrs hd hR) ⟨tmXWP.blind C0.2.2.2.2.2.2.2.2.2.1 _, va_recv C0.2.2.2.2.2.2.2.1 hP2 hc ha, fun U hU hW => ⟨by rw [hav], ⟨⟨by rw [hU], by rw [hU]; exact hP2, va_K.moved hW.alike C0.2.2.2.2.2.2.2.1, tmNs.warm C0.2.2.2.2.2.2.2.2.2.1 hW C0.2.2.2.2.2.2.2.2.1, (tm_Dleft (tl_D1 hD)).weaken (fun _ _ _ _ => trivial)⟩, hSc.go hS hF hU hW⟩, hE.go hS hF hU hW⟩⟩ rfl hna hL.1 rfl (lv_room hcat) hdg hcs) hS (fun q _ h => hF q h) hF (fun q _ h => hF q h) (fun E ce q9 u1 t H1 locs1 ht hvm hpx hBX hz1 hk1 hS1 hq9 hcv hcl => ?_) (fun r1 u1 t H1 locs1 ht hvm hw2 hB hz1 hk1 hS1 => ?_)
    · obtain ⟨hEx, κ1, b1, u2, hT1, hP1, hD1⟩ := hBX
      rw [ht] at hP1
      obtain ⟨hj, hC⟩ := tl_jn C0 (hX κ b0 u v) (hX κ1 b1 u2 u1.2.1) hP hS hk1 hP1 hD1
      rw [hpx] at hz
      have hz : KX u1.1 u1.2.1 u1.2.2 = some z := hz
      cases hh1 : hh u1.1 with
      | none => rw [hno _ _ _ hh1] at hz; cases hz
      | some pcH => exact hct u1.1 pcH hh1 H1 locs1 ls q9 ce hq9 hcv (hEx ▸ hcl) (kx u1.1 pcH q9 κ1 b1 u2 u1.2.1 u1.2.2 hh1 hT1 hC hz H1 locs1 ls hj hS1 hL)
    · obtain ⟨κ1, b1, u2, hT1, hP1, hD1⟩ := hB
      rw [ht] at hP1
      obtain ⟨hj, hC⟩ := tl_jn C0 (hX κ b0 u v) (hX κ1 b1 u2 u1.1) hP hS hk1 hP1 hD1
      rw [hw2] at hz
      exact k r1 κ1 b1 u2 u1.1 u1.2 hT1 hC hz H1 locs1 ls hj hS1 hL
end TLI
