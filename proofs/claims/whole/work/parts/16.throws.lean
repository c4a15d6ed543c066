/-! ===== methods that throw: their contracts, ends and calls ===== -/
/-- what the tables and the heap hold for a throw: two statics of Throwable, the three texts -/
def tmTh (A : Nat → Prop) (U : State) (H : Heap) : Prop := vx_Zq Bundle.tN "UNASSIGNED_STACK" Bundle.steD A U H ∧ vx_Zq Bundle.tN "SUPPRESSED_SENTINEL" Bundle.listD A U H ∧ (∃ a, vk_R RX7 316 "an index is out of range" a U) ∧ (∃ a, vk_R RX7 323 "an argument is out of range" a U) ∧ ∃ a, vk_R RX7 328 "this is not possible now" a U
theorem tmTh.go {A B : Nat → Prop} {s U : State} {H : Heap} {locs : List Loc} (h : tmTh A s s.heap) (hS : va_S A s.heap H locs) (hAB : ∀ q, B q → A q) (hU : U.heap = H) (hW : s.WarmedH U.vm) : tmTh B U U.heap := by
  obtain ⟨h1, h2, ⟨a3, h3⟩, ⟨a4, h4⟩, ⟨a5, h5⟩⟩ := h
  have hk : ∀ a : Nat, a < s.heap.size → ¬ A a → U.heap[a]? = s.heap[a]? := fun a x y => by rw [hU]; exact hS.2.1 a x y
  exact ⟨((h1.kept hk).narrow hAB).moved hW.alike, ((h2.kept hk).narrow hAB).moved hW.alike, ⟨a3, h3.warm hW⟩, ⟨a4, h4.warm hW⟩, ⟨a5, h5.warm hW⟩⟩
theorem tmTh.call {A : Nat → Prop} {U : State} {g : JFrame} {mk : MethodId} {a : Array Value} (h : tmTh A U U.heap) : tmTh A (U.calling g mk a) (U.calling g mk a).heap := by
  obtain ⟨h1, h2, ⟨a3, h3⟩, ⟨a4, h4⟩, ⟨a5, h5⟩⟩ := h
  exact ⟨vx_Zq.moved (u := U) (U := U.calling g mk a) (Vm.Alike.refl U.vm) h1, vx_Zq.moved (u := U) (U := U.calling g mk a) (Vm.Alike.refl U.vm) h2, ⟨a3, vk_R.same (u := U) rfl h3⟩, ⟨a4, vk_R.same (u := U) rfl h4⟩, ⟨a5, vk_R.same (u := U) rfl h5⟩⟩
def tm_ex : Nat → String
  | 0 => "java/lang/IndexOutOfBoundsException"
  | 1 => "java/lang/IllegalArgumentException"
  | _ => "java/lang/IllegalStateException"
/-- an answer, or a throw: (0, r), or (1 + the exception's number, 0) -/
abbrev tmR : Type := (Nat × Int32) × tmM
def tm_cx {β : Type} (o : Option tmR) (k : Int32 → tmM → Option ((Nat × β) × tmM)) (d : β) : Option ((Nat × β) × tmM) := match o with
  | none => none
  | some ((0, r), v) => k r v
  | some ((e + 1, _), v) => some ((e + 1, d), v)
def tmXP (NW : List Cond) (sh : Nat → tmE) (n : Nat) (D : va_G) (cy : Nat → ClassId) (ad : Nat → Nat) (sz : Nat) (v : tmM) : State → Prop := fun U => tmPre NW sh n D cy ad sz v U ∧ tmTh (va_A (tm_w cy sh ad n v) sz) U U.heap
def tmXX (sh : Nat → tmE) (n : Nat) (D : va_G) (cy : Nat → ClassId) (ad : Nat → Nat) (A : Nat → Prop) {β : Type} (d : β) (z : (Nat × β) × tmM) : String → State → State → Prop := vx_X (fun u : Nat × tmM => z = ((u.1 + 1, d), u.2)) (fun E u t => E = tm_ex u.1 ∧ tmAt sh n D cy ad A u.2 t) A
def tmXi (NW : List Cond) (sh : Nat → tmE) (n : Nat) (l : Launch) (y : MethodName) (ws : List Cond) (rm : Room) (av : (Nat → Nat) → List Value) (v : tmM) (mc ms : Nat) (o : Option tmR) : Prop :=
  ∀ (D : va_G) (cy : Nat → ClassId) (ad : Nat → Nat) (sz : Nat) (z : tmR), o = some z → vx_Met l y ws rm (va_Pc (av ad) (tmXP NW sh n D cy ad sz v)) (va_Qi (fun r u => z = ((0, r), u)) (tmAt sh n D cy ad (va_A (tm_w cy sh ad n v) sz)) (va_A (tm_w cy sh ad n v) sz)) (tmXX sh n D cy ad (va_A (tm_w cy sh ad n v) sz) 0 z) mc ms (va_A (tm_w cy sh ad n v) sz)
def tmXv (NW : List Cond) (sh : Nat → tmE) (n : Nat) (l : Launch) (y : MethodName) (ws : List Cond) (rm : Room) (av : (Nat → Nat) → List Value) (v : tmM) (mc ms : Nat) (o : Option tmR) : Prop :=
  ∀ (D : va_G) (cy : Nat → ClassId) (ad : Nat → Nat) (sz : Nat) (z : tmR), o = some z → vx_Met l y ws rm (va_Pc (av ad) (tmXP NW sh n D cy ad sz v)) (va_Qv (fun u => z = ((0, 0), u)) (tmAt sh n D cy ad (va_A (tm_w cy sh ad n v) sz)) (va_A (tm_w cy sh ad n v) sz)) (tmXX sh n D cy ad (va_A (tm_w cy sh ad n v) sz) 0 z) mc ms (va_A (tm_w cy sh ad n v) sz)
theorem tmXP.blind {NW : List Cond} (hn : NW.all tm_isN = true) {sh : Nat → tmE} {n : Nat} {D : va_G} {cy : Nat → ClassId} {ad : Nat → Nat} {sz : Nat} {v : tmM} (av : List Value) : FrameBlind (va_Pc av (tmXP NW sh n D cy ad sz v)) := fun a U g mk q => by
  obtain ⟨q0, q1, q2⟩ := q
  exact ⟨q0, (tmPre.blind hn av a U g mk ⟨q0, q1⟩).2, q2.call⟩
section TMX
variable {p : Program} {l : Launch} {e : Env} {R : Room} {s : State} {m : MethodId} {args : Array Value} {below : List Frame} {meth : Method} {c : Code} {cells slots mc ms : Nat} {cc : ByteArray} {nL : Nat} {ret : Option FieldType} {own : String} {Ts : List Cond} {NW : List Cond} {D : va_G} {cy : Nat → ClassId} {sh : Nat → tmE} {ad : Nat → Nat} {n : Nat} {A : Nat → Prop}
variable {pc : Nat} {lv lv' : List (Nat × Value)} {st : List Value} {v : tmM} {z : tmR}
theorem tg_xiret {x : Int32} (C0 : tmC p s m args meth c cc nL (some .int) own Ts NW D cy sh ad n [] A) (hdg : decode cc pc = .ok (.ireturn, 1)) (hc : cells ≤ mc ∧ slots ≤ ms) : tmG p l e R s m args below meth c cells slots (vx_MQ below (va_Qi (fun r u => z = ((0, r), u)) (tmAt sh n D cy ad A) A) (tmXX sh n D cy ad A 0 z) args s mc ms A) nL D cy sh ad n [] A z pc lv [.int x] v (some ((0, x), v)) := fun hz H locs ls hP hS hL => vx_ret (W.widen hc.1 hc.2 (W.iret C0.1 C0.2.1 C0.2.2.2.1 (fun t ht hW => ⟨⟨x, v, rfl, (Option.some.inj hz).symm, by rw [ht]; exact tm_Pleft hP, tm_Dleft C0.dd⟩, hS.F ht⟩) hS.2.2 hdg C0.2.2.2.2.1))
theorem tg_xbret {x : Int32} (C0 : tmC p s m args meth c cc nL (some .boolean) own Ts NW D cy sh ad n [] A) (hdg : decode cc pc = .ok (.ireturn, 1)) (hc : cells ≤ mc ∧ slots ≤ ms) : tmG p l e R s m args below meth c cells slots (vx_MQ below (va_Qi (fun r u => z = ((0, r), u)) (tmAt sh n D cy ad A) A) (tmXX sh n D cy ad A 0 z) args s mc ms A) nL D cy sh ad n [] A z pc lv [.int x] v (tm_g (tm_bi x) (some ((0, x), v))) := tg_g fun hx hz H locs ls hP hS hL => vx_ret (W.widen hc.1 hc.2 (W.zret C0.1 C0.2.1 C0.2.2.2.1 (tm_bin hx) (fun t ht hW => ⟨⟨x, v, rfl, (Option.some.inj hz).symm, by rw [ht]; exact tm_Pleft hP, tm_Dleft C0.dd⟩, hS.F ht⟩) hS.2.2 hdg C0.2.2.2.2.1))
theorem tg_xvret (C0 : tmC p s m args meth c cc nL none own Ts NW D cy sh ad n [] A) (hdg : decode cc pc = .ok (.return_, 1)) (hc : cells ≤ mc ∧ slots ≤ ms) : tmG p l e R s m args below meth c cells slots (vx_MQ below (va_Qv (fun u => z = ((0, 0), u)) (tmAt sh n D cy ad A) A) (tmXX sh n D cy ad A 0 z) args s mc ms A) nL D cy sh ad n [] A z pc lv [] v (some ((0, 0), v)) := fun hz H locs ls hP hS hL => vx_ret (W.widen hc.1 hc.2 (W.vret C0.1 C0.2.1 C0.2.2.2.1 (fun t ht hW => ⟨⟨v, rfl, (Option.some.inj hz).symm, by rw [ht]; exact tm_Pleft hP, tm_Dleft C0.dd⟩, hS.F ht⟩) hS.2.2 hdg C0.2.2.2.2.1))
/-- new X(text), thrown -/
theorem tg_throw (i : Nat) {text : String} {names : List String} {ik is ic : Nat} (hl : l.stackTraces = false) (C0 : tmC p s m args meth c cc nL none own Ts NW D cy sh ad n [] A) (hE : tmTh A s s.heap) (hout : ∀ x ∈ c.exceptionTable.toList, False) (hcls : Bundle.fit (tm_ex i) = true) (hnames : ∀ n ∈ names, Bundle.fit n = true) (hk : Cond.classLink own ik (tm_ex i) ∈ Ts) (hini : Cond.initialized (tm_ex i) ∈ Ts) (hstr : ∃ sa, vk_R own is text sa s) (hat1 : ∀ w ∈ (vx_atS own ic (tm_ex i) names).filter goodWord, w ∈ Ts) (hat2 : ∀ w ∈ (vx_atS own ic (tm_ex i) names).filter (fun w => !goodWord w), w ∈ NW) (hgood : ∀ w ∈ Cond.classLink own ik (tm_ex i) :: Cond.initialized (tm_ex i) :: vx_atS own ic (tm_ex i) names, vx_ot w = true)
    (d0 : decode cc pc = .ok (.new ik, 3)) (d3 : decode cc (pc + 3) = .ok (.dup, 1)) (d4 : decode cc (pc + 4) = .ok (.ldc_w is, 3)) (d6 : decode cc (pc + 7) = .ok (.invokespecial ic, 3)) (d9 : decode cc (pc + 10) = .ok (.athrow, 1)) (hRf : names.length + 3 < R.frames) (hRl : 13 * (names.length + 1) + 43 ≤ R.locals) (hR : cells + 1 ≤ R.cells ∧ slots + 6 ≤ R.slots) (hc : cells + 1 ≤ mc ∧ slots + 6 ≤ ms) : tmG p l e R s m args below meth c cells slots (vx_MQ below (va_Qv (fun u => z = ((0, 0), u)) (tmAt sh n D cy ad A) A) (tmXX sh n D cy ad A 0 z) args s mc ms A) nL D cy sh ad n [] A z pc lv [] v (some ((i + 1, 0), v)) := fun hz H locs ls hP hS hL => by
  obtain ⟨sa, hstr⟩ := hstr
  have hts := C0.2.2.2.2.2.2.1
  have hx2 : ∀ w ∈ vx_atS own ic (tm_ex i) names, w.before args s = true := vx_hat (fun w h => hts w (hat1 w h)) hat2 (tmNs.use C0.2.2.2.2.2.2.2.2.2.1 C0.2.2.2.2.2.2.2.2.1)
  refine vx_throwSW C0.1 C0.2.1 hl C0.2.2.2.2.2.1 hcls hnames (hts _ hk) (hts _ hini) hstr hx2 hgood hE.1 hE.2.1 hS (hL.1.trans C0.2.2.1.symm) d0 d3 d4 d6 d9 (fun x hx => (hout x hx).elim) hRf ?_ hR.1 hR.2 C0.2.2.2.2.1 (fun t hvm hsz hq => ?_) hS.2.2 hc.1 hc.2
  · show 0 + _ ≤ _
    omega
  · refine ⟨(i, v), (Option.some.inj hz).symm, ⟨rfl, (tm_Pleft hP).kept (fun k q hk => hq q.1 ((tm_Pleft hP k q hk).lt)), tm_Dleft C0.dd⟩, Nat.le_trans hS.1 hsz, fun q h1 h2 => ?_⟩
    rw [hq q (Nat.lt_of_lt_of_le h1 hS.1)]
    exact hS.2.1 q h1 h2

theorem tmXi.of {y : MethodName} {ws : List Cond} {rm : Room} {av : (Nat → Nat) → List Value} {o : Option tmR} {rty : FieldType} (hy : plainName y.cls = true) (hw : ws = Cond.code y cc nL (some rty) :: Ts) (hn : NW.all tm_isN = true) (hlen : ∀ ad : Nat → Nat, (lg_sl (av ad)).length ≤ nL)
    (h : ∀ (p : Program) (e : Env) (s : State) (m : MethodId) (args : Array Value) (below : List Frame) (meth : Method) (c : Code) (A : Nat → Prop) (D : va_G) (cy : Nat → ClassId) (ad : Nat → Nat) (z : tmR), tmC p s m args meth c cc nL (some rty) y.cls Ts NW D cy sh ad n [] A → tmTh A s s.heap → (∀ x ∈ c.exceptionTable.toList, False) → tmG p l e rm s m args below meth c 0 0 (vx_MQ below (va_Qi (fun r u => z = ((0, r), u)) (tmAt sh n D cy ad A) A) (tmXX sh n D cy ad A 0 z) args s mc ms A) nL D cy sh ad n [] A z 0 (lv_args 0 (av ad)) [] v o) : tmXi NW sh n l y ws rm av v mc ms o := by
  intro D cy ad sz z hz
  refine vx_ofW (cc := cc) (maxL := nL) (ret := (some rty)) hy hw ?_
  intro p e s m args below meth c s₁ B hml hno hv
  obtain ⟨rfl, ⟨hsz, hP, hK, hN, hD0⟩, hE⟩ := hv
  have hx := B.exec
  have hb := B.bytes
  have hr := B.returns
  have hts : ∀ w ∈ Ts, w.before _ s = true := fun w h => atoms_spec (ws := ws) B.pre w (by rw [hw]; exact List.mem_cons_of_mem _ h)
  have hown : s.vm.findClass y.cls = some m.cls := findClass_of_methodNamed B.named
  have hlocks := B.notSynchronized
  subst hsz
  have hD := hD0.self (sz := s.heap.size)
  generalize hAe : va_A (tm_w cy sh ad n v) s.heap.size = A at hD hE ⊢
  have hA : ∀ q : Nat, s.heap.size ≤ q → A q := fun q h => by rw [← hAe]; exact Or.inr h
  have hl := lv_entry (av ad) (n := nL) (hlen ad)
  rw [lg_entry_eq]
  exact h p e s m _ below meth c A D cy ad z ⟨hx, hb, hml, hr, hlocks, hown, hts, hK, hN, hn, by rw [List.append_nil]; exact tm_Dw hD, hA⟩ hE hno hz s.heap [] _ (by rw [List.append_nil]; exact hP) va_S.rf hl
theorem tmXv.of {y : MethodName} {ws : List Cond} {rm : Room} {av : (Nat → Nat) → List Value} {o : Option tmR} (hy : plainName y.cls = true) (hw : ws = Cond.code y cc nL none :: Ts) (hn : NW.all tm_isN = true) (hlen : ∀ ad : Nat → Nat, (lg_sl (av ad)).length ≤ nL)
    (h : ∀ (p : Program) (e : Env) (s : State) (m : MethodId) (args : Array Value) (below : List Frame) (meth : Method) (c : Code) (A : Nat → Prop) (D : va_G) (cy : Nat → ClassId) (ad : Nat → Nat) (z : tmR), tmC p s m args meth c cc nL none y.cls Ts NW D cy sh ad n [] A → tmTh A s s.heap → (∀ x ∈ c.exceptionTable.toList, False) → tmG p l e rm s m args below meth c 0 0 (vx_MQ below (va_Qv (fun u => z = ((0, 0), u)) (tmAt sh n D cy ad A) A) (tmXX sh n D cy ad A 0 z) args s mc ms A) nL D cy sh ad n [] A z 0 (lv_args 0 (av ad)) [] v o) : tmXv NW sh n l y ws rm av v mc ms o := by
  intro D cy ad sz z hz
  refine vx_ofW (cc := cc) (maxL := nL) (ret := none) hy hw ?_
  intro p e s m args below meth c s₁ B hml hno hv
  obtain ⟨rfl, ⟨hsz, hP, hK, hN, hD0⟩, hE⟩ := hv
  have hx := B.exec
  have hb := B.bytes
  have hr := B.returns
  have hts : ∀ w ∈ Ts, w.before _ s = true := fun w h => atoms_spec (ws := ws) B.pre w (by rw [hw]; exact List.mem_cons_of_mem _ h)
  have hown : s.vm.findClass y.cls = some m.cls := findClass_of_methodNamed B.named
  have hlocks := B.notSynchronized
  subst hsz
  have hD := hD0.self (sz := s.heap.size)
  generalize hAe : va_A (tm_w cy sh ad n v) s.heap.size = A at hD hE ⊢
  have hA : ∀ q : Nat, s.heap.size ≤ q → A q := fun q h => by rw [← hAe]; exact Or.inr h
  have hl := lv_entry (av ad) (n := nL) (hlen ad)
  rw [lg_entry_eq]
  exact h p e s m _ below meth c A D cy ad z ⟨hx, hb, hml, hr, hlocks, hown, hts, hK, hN, hn, by rw [List.append_nil]; exact tm_Dw hD, hA⟩ hE hno hz s.heap [] _ (by rw [List.append_nil]; exact hP) va_S.rf hl
theorem tg_callSxi {y : MethodName} {wsy ws' : List Cond} {rmy : Room} {av : (Nat → Nat) → List Value} {o : Option tmR} {K : Int32 → tmM → Option tmR} {bytes : ByteArray} {maxL idx : Nat} {rt : Option FieldType} {As st0 : List Value} (na : Nat) (C0 : tmC p s m args meth c cc nL ret own Ts NW D cy sh ad n [] A) (hE : tmTh A s s.heap) (hout : ∀ x ∈ c.exceptionTable.toList, False) (hdg : decode cc pc = .ok (.invokestatic idx, 3)) (hM : tmXv NW sh n l y wsy rmy av v 1 6 o) (hav : av ad = As) (hst : st0 = As.reverse ++ st) (hG : GoodIn Ts (wsS own idx y wsy)) (hna : As.length = na) (hw : wsy = Cond.code y bytes maxL rt :: ws') (hrc : rmy.cells = 1) (hrs : rmy.slots = 6) (hd : y.cls = own ∧ y.cls ≠ "java/lang/invoke/MethodHandle" ∧ y.cls ≠ "java/lang/invoke/VarHandle" ∧ (parseMethodDescriptor y.desc).map (fun d => d.parameters.length) = some na) (hR : rmy.frames + 1 ≤ R.frames ∧ 8 + (maxL + 11) + rmy.locals ≤ R.locals) (hcat : (st.map fun v => v.category).sum ≤ 8) (hcs : cells + 1 ≤ R.cells ∧ slots + 6 ≤ R.slots) (hc : cells + 1 ≤ mc ∧ slots + 6 ≤ ms) (k : ∀ (v' : tmM), o = some ((0, 0), v') → tmG p l e R s m args below meth c (cells + 1) (slots + 6) (vx_MQ below (va_Qi (fun r u => z = ((0, r), u)) (tmAt sh n D cy ad A) A) (tmXX sh n D cy ad A 0 z) args s mc ms A) nL D cy sh ad n [] A z (pc + 3) lv st v' (K 0 v')) : tmG p l e R s m args below meth c cells slots (vx_MQ below (va_Qi (fun r u => z = ((0, r), u)) (tmAt sh n D cy ad A) A) (tmXX sh n D cy ad A 0 z) args s mc ms A) nL D cy sh ad n [] A z pc lv st0 v (tm_cx o K (0 : Int32)) := by
  intro hz
  cases ho : o with
  | none => rw [ho] at hz; cases hz
  | some y0 =>
    rw [ho] at hz
    intro H locs ls hP hS hL
    have hMet := hM D cy ad H.size y0 ho
    have hts := C0.2.2.2.2.2.2.1
    have hF := tm_free (w1 := tm_w cy sh ad n v) (w2 := []) C0.dd hS C0.2.2.2.2.2.2.2.2.2.2.2
    subst hst
    refine vx_callv (vx_runS (As := As) (rest := st) ⟨C0.1, C0.2.1, C0.2.2.1, C0.2.2.2.2.2.1, hts⟩ hMet (cwS na hts hG hw hrc hrs hd hR) ⟨tmXP.blind C0.2.2.2.2.2.2.2.2.2.1 _, fun U hU hW => ⟨by rw [hav], ⟨by rw [hU], by rw [hU]; exact tm_Pleft hP, va_K.moved hW.alike C0.2.2.2.2.2.2.2.1, tmNs.warm C0.2.2.2.2.2.2.2.2.2.1 hW C0.2.2.2.2.2.2.2.2.1, (tm_Dleft C0.dd).weaken (fun _ _ _ _ => trivial)⟩, hE.go hS hF hU hW⟩⟩ rfl hna hL.1 rfl (lv_room hcat) hdg hcs) hS (fun q _ h => hF q h) hF (fun q _ h => hF q h) (fun E ce q9 u t H1 locs1 ht hvm hpx hBX hz1 hk1 hS1 hq9 hcv hcl => ?_) (fun u t H1 locs1 ht hvm hw2 hB hz1 hk1 hS1 => ?_)
    · obtain ⟨hEx, hP1, hD1⟩ := hBX
      rw [ht] at hP1
      have hj := tm_join hP C0.dd hk1 hF hP1 hD1
      have hz2 : some ((u.1 + 1, (0 : Int32)), u.2) = some z := by
        rw [hpx] at hz
        exact hz
      refine vx_out (fun x hx => (hout x hx).elim) C0.2.2.2.2.1 hq9 hcv hcl (fun t2 ht2 hvm2 => ⟨u, (Option.some.inj hz2).symm, ⟨hEx, by rw [ht2]; exact tm_Pleft hj.1, tm_Dleft hj.2⟩, hS1.F ht2⟩) hS1.2.2 hc.1 hc.2
    · obtain ⟨hP1, hD1⟩ := hB
      rw [ht] at hP1
      have hj := tm_join hP C0.dd hk1 hF hP1 hD1
      rw [hw2] at hz ho
      exact k u ho hz H1 locs1 ls hj.1 hS1 hL
theorem tg_callSxv {y : MethodName} {wsy ws' : List Cond} {rmy : Room} {av : (Nat → Nat) → List Value} {o : Option tmR} {K : Int32 → tmM → Option tmR} {bytes : ByteArray} {maxL idx : Nat} {rt : Option FieldType} {As st0 : List Value} (na : Nat) (C0 : tmC p s m args meth c cc nL ret own Ts NW D cy sh ad n [] A) (hE : tmTh A s s.heap) (hout : ∀ x ∈ c.exceptionTable.toList, False) (hdg : decode cc pc = .ok (.invokestatic idx, 3)) (hM : tmXv NW sh n l y wsy rmy av v 1 6 o) (hav : av ad = As) (hst : st0 = As.reverse ++ st) (hG : GoodIn Ts (wsS own idx y wsy)) (hna : As.length = na) (hw : wsy = Cond.code y bytes maxL rt :: ws') (hrc : rmy.cells = 1) (hrs : rmy.slots = 6) (hd : y.cls = own ∧ y.cls ≠ "java/lang/invoke/MethodHandle" ∧ y.cls ≠ "java/lang/invoke/VarHandle" ∧ (parseMethodDescriptor y.desc).map (fun d => d.parameters.length) = some na) (hR : rmy.frames + 1 ≤ R.frames ∧ 8 + (maxL + 11) + rmy.locals ≤ R.locals) (hcat : (st.map fun v => v.category).sum ≤ 8) (hcs : cells + 1 ≤ R.cells ∧ slots + 6 ≤ R.slots) (hc : cells + 1 ≤ mc ∧ slots + 6 ≤ ms) (k : ∀ (v' : tmM), o = some ((0, 0), v') → tmG p l e R s m args below meth c (cells + 1) (slots + 6) (vx_MQ below (va_Qv (fun u => z = ((0, 0), u)) (tmAt sh n D cy ad A) A) (tmXX sh n D cy ad A 0 z) args s mc ms A) nL D cy sh ad n [] A z (pc + 3) lv st v' (K 0 v')) : tmG p l e R s m args below meth c cells slots (vx_MQ below (va_Qv (fun u => z = ((0, 0), u)) (tmAt sh n D cy ad A) A) (tmXX sh n D cy ad A 0 z) args s mc ms A) nL D cy sh ad n [] A z pc lv st0 v (tm_cx o K (0 : Int32)) := by
  intro hz
  cases ho : o with
  | none => rw [ho] at hz; cases hz
  | some y0 =>
    rw [ho] at hz
    intro H locs ls hP hS hL
    have hMet := hM D cy ad H.size y0 ho
    have hts := C0.2.2.2.2.2.2.1
    have hF := tm_free (w1 := tm_w cy sh ad n v) (w2 := []) C0.dd hS C0.2.2.2.2.2.2.2.2.2.2.2
    subst hst
    refine vx_callv (vx_runS (As := As) (rest := st) ⟨C0.1, C0.2.1, C0.2.2.1, C0.2.2.2.2.2.1, hts⟩ hMet (cwS na hts hG hw hrc hrs hd hR) ⟨tmXP.blind C0.2.2.2.2.2.2.2.2.2.1 _, fun U hU hW => ⟨by rw [hav], ⟨by rw [hU], by rw [hU]; exact tm_Pleft hP, va_K.moved hW.alike C0.2.2.2.2.2.2.2.1, tmNs.warm C0.2.2.2.2.2.2.2.2.2.1 hW C0.2.2.2.2.2.2.2.2.1, (tm_Dleft C0.dd).weaken (fun _ _ _ _ => trivial)⟩, hE.go hS hF hU hW⟩⟩ rfl hna hL.1 rfl (lv_room hcat) hdg hcs) hS (fun q _ h => hF q h) hF (fun q _ h => hF q h) (fun E ce q9 u t H1 locs1 ht hvm hpx hBX hz1 hk1 hS1 hq9 hcv hcl => ?_) (fun u t H1 locs1 ht hvm hw2 hB hz1 hk1 hS1 => ?_)
    · obtain ⟨hEx, hP1, hD1⟩ := hBX
      rw [ht] at hP1
      have hj := tm_join hP C0.dd hk1 hF hP1 hD1
      have hz2 : some ((u.1 + 1, (0 : Int32)), u.2) = some z := by
        rw [hpx] at hz
        exact hz
      refine vx_out (fun x hx => (hout x hx).elim) C0.2.2.2.2.1 hq9 hcv hcl (fun t2 ht2 hvm2 => ⟨u, (Option.some.inj hz2).symm, ⟨hEx, by rw [ht2]; exact tm_Pleft hj.1, tm_Dleft hj.2⟩, hS1.F ht2⟩) hS1.2.2 hc.1 hc.2
    · obtain ⟨hP1, hD1⟩ := hB
      rw [ht] at hP1
      have hj := tm_join hP C0.dd hk1 hF hP1 hD1
      rw [hw2] at hz ho
      exact k u ho hz H1 locs1 ls hj.1 hS1 hL
end TMX
