/-! ===== CONSTRUCTORS: worlds that grow ===== -/
def tm_s0 : Nat → tmE := fun _ => .inl (0, 0)
def tm_a0 : Nat → Nat := fun _ => 0
def tm_v0 : tmM := fun _ _ => 0
theorem tn_AOA {ty : FieldType} {u U : State} (hvm : u.vm.Alike U.vm) (h : va_AOA ty u) : va_AOA ty U := by
  unfold va_AOA Cond.before Cond.holds at h ⊢
  simp only [Cond.value] at h ⊢
  cases f1 : u.vm.findClass (FieldType.array ty).toString with
  | none =>
    rw [f1] at h
    simp at h
  | some comp =>
    have f2 : U.vm.findClass (FieldType.array ty).toString = some comp := by rw [hvm.findClass]; exact f1
    rw [f1, Option.bind_some] at h
    rw [f2, Option.bind_some]
    cases hi : (u.vm.classes.findIdx? fun (x : Class) => match x.kind with | .array component _ => component == comp | _ => false) with
    | none =>
      have h2 := (congrArg (fun o : Option Nat => (o.bind (fun c => (u.vm.classes[c]?).map fun (k : Class) => match k.kind with | .array _ t => decide (t = FieldType.array ty) && decide (u.vm.findClass ("[" ++ (FieldType.array ty).toString) = some c) | _ => false) == some true)) hi).symm.trans h
      simp at h2
    | some c =>
      have h2 := (congrArg (fun o : Option Nat => (o.bind (fun c => (u.vm.classes[c]?).map fun (k : Class) => match k.kind with | .array _ t => decide (t = FieldType.array ty) && decide (u.vm.findClass ("[" ++ (FieldType.array ty).toString) = some c) | _ => false) == some true)) hi).symm.trans h
      have hj : (U.vm.classes.findIdx? fun (x : Class) => match x.kind with | .array component _ => component == comp | _ => false) = some c :=
        (va_idx_bare U.vm comp).symm.trans ((congrArg (fun v : Vm => v.classes.findIdx? fun (x : Class) => match x.kind with | .array component _ => component == comp | _ => false) hvm.bare_eq).trans ((va_idx_bare u.vm comp).trans hi))
      refine (congrArg (fun o : Option Nat => (o.bind (fun c => (U.vm.classes[c]?).map fun (k : Class) => match k.kind with | .array _ t => decide (t = FieldType.array ty) && decide (U.vm.findClass ("[" ++ (FieldType.array ty).toString) = some c) | _ => false) == some true)) hj).trans ?_
      cases hk : u.vm.classes[c]? with
      | none => simp [hk] at h2
      | some k =>
        obtain ⟨k', hk', he⟩ := hvm.2.2 _ _ hk
        have hf : U.vm.findClass ("[" ++ (FieldType.array ty).toString) = u.vm.findClass ("[" ++ (FieldType.array ty).toString) := by rw [hvm.findClass]
        have hkk : k'.kind = k.kind := by rw [he]
        simp only [Option.bind_some, hk, Option.map_some] at h2
        simp only [Option.bind_some, hk', Option.map_some, hkk, hf]
        exact h2
def tnE (adK adV adE : Nat → Nat) (tC : Nat) (A : Nat → Prop) (U : State) (H : Heap) : Prop := tmSc adK adV adE tC A U H ∧ va_AOA .int U ∧ va_AO RX4 U
theorem tnE.go {adK adV adE : Nat → Nat} {tC : Nat} {A B : Nat → Prop} {s U : State} {H : Heap} {locs : List Loc} (h : tnE adK adV adE tC A s s.heap) (hS : va_S A s.heap H locs) (hAB : ∀ q, B q → A q) (hU : U.heap = H) (hW : s.WarmedH U.vm) : tnE adK adV adE tC B U U.heap := ⟨h.1.go hS hAB hU hW, tn_AOA hW.alike h.2.1, va_AO.moved hW.alike h.2.2⟩
theorem tnE.call {adK adV adE : Nat → Nat} {tC : Nat} {A : Nat → Prop} {U : State} {g : JFrame} {mk : MethodId} {a : Array Value} (h : tnE adK adV adE tC A U U.heap) : tnE adK adV adE tC A (U.calling g mk a) (U.calling g mk a).heap := ⟨h.1.call, tn_AOA (u := U) (U := U.calling g mk a) (Vm.Alike.refl U.vm) h.2.1, va_AO.moved (u := U) (U := U.calling g mk a) (Vm.Alike.refl U.vm) h.2.2⟩
def tnP (NW : List Cond) (adK adV adE : Nat → Nat) (tC : Nat) (D : va_G) (cy : Nat → ClassId) (sz : Nat) (w0 : va_W) : State → Prop := fun U => (U.heap.size = sz ∧ va_P D vwCl w0 U.heap ∧ va_K D vwCl (tm_tys cy) U ∧ tmNs NW U ∧ va_D (fun _ => True) w0) ∧ tnE adK adV adE tC (va_A w0 sz) U U.heap
theorem tnP.blind {NW : List Cond} (hn : NW.all tm_isN = true) {adK adV adE : Nat → Nat} {tC : Nat} {D : va_G} {cy : Nat → ClassId} {sz : Nat} {w0 : va_W} (av : List Value) : FrameBlind (va_Pc av (tnP NW adK adV adE tC D cy sz w0)) := fun a U g mk q => by
  obtain ⟨q0, ⟨h1, h2, h3, h4, h5⟩, q2⟩ := q
  exact ⟨q0, ⟨h1, h2, va_K.moved (u := U) (U := U.calling g mk a) (Vm.Alike.refl U.vm) h3, tmNs.same (u := U) hn rfl h4, h5⟩, q2.call⟩
/-- A CONSTRUCTOR'S CONTRACT: w0: the new object as it comes; w1: the cells that stand there afterwards, u: their addresses -/
def tnK (NW : List Cond) (l : Launch) (adK adV adE : Nat → Nat) (tC : Nat) (y : MethodName) (ws : List Cond) (rm : Room) (As : List Value) (w0 : Nat → va_W) (w1 : (Nat → ClassId) → Nat → (Nat → Nat) → va_W) (mc ms : Nat) : Prop :=
  ∀ (D : va_G) (cy : Nat → ClassId) (h0 sz : Nat), Met l y ws rm (va_Pc (.ref h0 :: As) (tnP NW adK adV adE tC D cy sz (w0 h0))) (va_Qv (fun _ : Nat → Nat => True) (fun u t => va_P D vwCl (w1 cy h0 u) t.heap ∧ va_D (va_A (w0 h0) sz) (w1 cy h0 u)) (va_A (w0 h0) sz)) mc ms (va_A (w0 h0) sz)
section TN
variable {p : Program} {l : Launch} {e : Env} {R : Room} {s : State} {m : MethodId} {args : Array Value} {below : List Frame} {meth : Method} {c : Code} {cells slots mc ms : Nat} {Q : State → Prop} {cc : ByteArray} {nL : Nat} {ret : Option FieldType} {own : String} {Ts : List Cond} {NW : List Cond} {D : va_G} {cy : Nat → ClassId} {A : Nat → Prop} {adK adV adE : Nat → Nat} {tC : Nat} {X X' Y : va_W} {pc : Nat} {lv lv' : List (Nat × Value)} {st : List Value}
theorem tnK.of {y : MethodName} {ws : List Cond} {rm : Room} {As : List Value} {w0 : Nat → va_W} {w1 : (Nat → ClassId) → Nat → (Nat → Nat) → va_W} (hy : plainName y.cls = true) (hw : ws = Cond.code y cc nL none :: Ts) (hn : NW.all tm_isN = true) (hnL : ∀ h0 : Nat, (lg_sl (.ref h0 :: As)).length ≤ nL)
    (h : ∀ (p : Program) (e : Env) (s : State) (m : MethodId) (args : Array Value) (below : List Frame) (meth : Method) (c : Code) (A : Nat → Prop) (D : va_G) (cy : Nat → ClassId) (h0 : Nat), tmC p s m args meth c cc nL none y.cls Ts NW D cy tm_s0 tm_a0 0 (w0 h0) A → tnE adK adV adE tC A s s.heap → meth.name = y.name → tmG p l e rm s m args below meth c 0 0 (MQ below (va_Qv (fun _ : Nat → Nat => True) (fun u t => va_P D vwCl (w1 cy h0 u) t.heap ∧ va_D A (w1 cy h0 u)) A) args s mc ms A) nL D cy tm_s0 tm_a0 0 (w0 h0) A () 0 (lv_args 0 (.ref h0 :: As)) [] tm_v0 (some ())) : tnK NW l adK adV adE tC y ws rm As w0 w1 mc ms := by
  intro D cy h0 sz
  refine Met.ofW (cc := cc) (maxL := nL) (ret := none) hy hw ?_
  intro p e s m args below meth c s₁ B hml hv
  obtain ⟨rfl, ⟨hsz, hP, hK, hN, hD0⟩, hE⟩ := hv
  have hx := B.exec
  have hb := B.bytes
  have hr := B.returns
  have hts : ∀ w ∈ Ts, w.before _ s = true := fun w h => atoms_spec (ws := ws) B.pre w (by rw [hw]; exact List.mem_cons_of_mem _ h)
  have hown : s.vm.findClass y.cls = some m.cls := findClass_of_methodNamed B.named
  have hlocks := B.notSynchronized
  have hin : meth.name = y.name := (name_of_methodNamed B.named B.method).1
  subst hsz
  have hD := hD0.self (sz := s.heap.size)
  generalize hAe : va_A (w0 h0) s.heap.size = A at hD hE ⊢
  have hA : ∀ q : Nat, s.heap.size ≤ q → A q := fun q h => by rw [← hAe]; exact Or.inr h
  have hl := lv_entry (.ref h0 :: As) (n := nL) (hnL h0)
  rw [lg_entry_eq]
  exact h p e s m _ below meth c A D cy h0 ⟨hx, hb, hml, hr, hlocks, hown, hts, hK, hN, hn, hD, hA⟩ hE hin rfl s.heap [] _ hP va_S.rf hl
theorem tn_X (hX : X = X') (k : tmG p l e R s m args below meth c cells slots Q nL D cy tm_s0 tm_a0 0 X' A () pc lv st tm_v0 (some ())) : tmG p l e R s m args below meth c cells slots Q nL D cy tm_s0 tm_a0 0 X A () pc lv st tm_v0 (some ()) := hX ▸ k
theorem tn_obj {idx a : Nat} (C0 : tmC p s m args meth c cc nL ret own Ts NW D cy tm_s0 tm_a0 0 X A) (hdg : decode cc pc = .ok (.invokespecial idx, 3)) (w1 : Cond.methodLink own idx Lib.objectInit ∈ Ts) (w2 : Cond.instanceMethod Lib.objectInit ∈ Ts) (w3 : Cond.code Lib.objectInit ⟨#[0xb1]⟩ 1 none ∈ Ts) (hf : 1 ≤ R.frames) (hlo : 12 ≤ R.locals) (k : tmG p l e R s m args below meth c cells slots Q nL D cy tm_s0 tm_a0 0 X A () (pc + 3) lv [] tm_v0 (some ())) : tmG p l e R s m args below meth c cells slots Q nL D cy tm_s0 tm_a0 0 X A () pc lv [.ref a] tm_v0 (some ()) := fun hz H locs ls hP hS hL => by
  have ht := C0.2.2.2.2.2.2.1
  refine W.objInit C0.1 C0.2.1 C0.2.2.2.2.2.1 (ht _ w1) (ht _ w2) (ht _ w3) rfl (hL.1.trans C0.2.2.1.symm) rfl hdg hf hlo ?_
  exact k hz H locs ls hP hS hL
theorem tn_newi (t N : Nat) {x : Int32} {atp : ArrayType} (C0 : tmC p s m args meth c cc nL ret own Ts NW D cy tm_s0 tm_a0 0 X A) (hdg : decode cc pc = .ok (.newarray atp, 2)) (ht : t < 4) (hat : newarray.typeOf atp = tm_tyF t) (harr : Cond.arrayClass (tm_tyF t) ∈ Ts) (hx : x.toNatClampNeg = N) (hx0 : ¬ x < 0) (hN : N ≤ 5000) (hcs : cells + 1 ≤ R.cells ∧ slots + N ≤ R.slots) (k : ∀ q : Nat, tmC p s m args meth c cc nL ret own Ts NW D cy tm_s0 tm_a0 0 (X ++ [(q, .inl (cy t, N, .inl (fun _ => 0)))]) A → tmG p l e R s m args below meth c (cells + 1) (slots + N) Q nL D cy tm_s0 tm_a0 0 (X ++ [(q, .inl (cy t, N, .inl (fun _ => 0)))]) A () (pc + 2) lv (.ref q :: st) tm_v0 (some ())) : tmG p l e R s m args below meth c cells slots Q nL D cy tm_s0 tm_a0 0 X A () pc lv (.int x :: st) tm_v0 (some ()) := fun hz H locs ls hP hS hL => by
  have hP : va_P D vwCl X H := hP
  have hD : va_D A X := C0.dd (v := tm_v0)
  have hb4 : N * componentBytes (tm_tyF t) ≤ 536870912 := Nat.le_trans (Nat.mul_le_mul hN (show componentBytes (tm_tyF t) ≤ 8 by rcases (show t = 0 ∨ t = 1 ∨ t = 2 ∨ t = 3 by omega) with rfl | rfl | rfl | rfl <;> decide)) (by decide)
  refine va_newa (atype := atp) (N' := N) (a0 := (N, .inl (fun _ => 0))) C0.1 C0.2.1 (C0.2.2.2.2.2.2.1 _ (by rw [hat]; exact harr)) hat C0.2.2.2.2.2.2.2.1 hP hD hS C0.2.2.2.2.2.2.2.2.2.2.2 (fun cA => by rcases (show t = 0 ∨ t = 1 ∨ t = 2 ∨ t = 3 by omega) with rfl | rfl | rfl | rfl <;> rfl) hx0 hx hb4 hcs.1 hcs.2 hdg (fun q cA H1 hK1 hP1 hD1 hS1 => ?_)
  have hc2 : cA = cy t := tm_cyu (ty := tm_tyF t) (fun h1 h2 => by
    rcases (show t = 0 ∨ t = 1 ∨ t = 2 ∨ t = 3 by omega) with rfl | rfl | rfl | rfl <;> exact Option.some.inj ((show s.vm.findClass _ = some cA from h1).symm.trans (show s.vm.findClass _ = some _ from h2))) hK1 (tm_tyget t (by omega))
  subst hc2
  exact k q (C0.ad (v := tm_v0) hD1) hz H1 locs ls hP1 hS1 hL
theorem tn_new {C : String} {T : u_T} {N ci index : Nat} {fs : List Value} {ty : Nat → FieldType} (C0 : tmC p s m args meth c cc nL ret own Ts NW D cy tm_s0 tm_a0 0 X A) (hdg : decode cc pc = .ok (.new index, 3)) (hc : vwCl[ci]? = some (C, T, N)) (hin : ∀ w ∈ u_ws C T N, w ∈ Ts) (hty : ∀ k, k < N → parseFieldDescriptor (T k).2.2.1 = some (ty k)) (hcl : Cond.classLink own index C ∈ Ts) (hinst : Cond.instantiable C N ∈ Ts) (hini : Cond.initialized C ∈ Ts) (hfs : ∀ j, j < N → defaultValue (ty j) = vp_V fs j) (hcs : cells + 1 ≤ R.cells ∧ slots + N ≤ R.slots) (k : ∀ q : Nat, tmC p s m args meth c cc nL ret own Ts NW D cy tm_s0 tm_a0 0 (X ++ [(q, .inr (ci, fs))]) A → tmG p l e R s m args below meth c (cells + 1) (slots + N) Q nL D cy tm_s0 tm_a0 0 (X ++ [(q, .inr (ci, fs))]) A () (pc + 3) lv (.ref q :: st) tm_v0 (some ())) : tmG p l e R s m args below meth c cells slots Q nL D cy tm_s0 tm_a0 0 X A () pc lv st tm_v0 (some ()) := fun hz H locs ls hP hS hL => by
  have hP : va_P D vwCl X H := hP
  have hD : va_D A X := C0.dd (v := tm_v0)
  have ht := C0.2.2.2.2.2.2.1
  exact va_new (ci := ci) (fs := fs) C0.1 C0.2.1 ht hin ty hty C0.2.2.2.2.2.1 (ht _ hcl) (ht _ hinst) (ht _ hini) C0.2.2.2.2.2.2.2.1 hP hD hS C0.2.2.2.2.2.2.2.2.2.2.2 hc hfs hcs.1 hcs.2 hdg (fun q H1 hP1 hD1 hS1 => k q (C0.ad (v := tm_v0) hD1) hz H1 locs ls hP1 hS1 hL)
theorem tn_put (q0 j : Nat) {a : Nat} {va : Value} {C ref : String} {T : u_T} {ty0 : Nat → FieldType} {N ci index : Nat} {fs : List Value} {ty : FieldType} (C0 : tmC p s m args meth c cc nL ret own Ts NW D cy tm_s0 tm_a0 0 X A) (hdg : decode cc pc = .ok (.putfield index, 3)) (he : X[q0]? = some (a, .inr (ci, fs))) (hc : vwCl[ci]? = some (C, T, N)) (hin : ∀ w ∈ u_ws C T N, w ∈ Ts) (hty : ∀ k, k < N → parseFieldDescriptor (T k).2.2.1 = some (ty0 k)) (hnm : ∀ a, a < N → ∀ b, b < N → a ≠ b → (T a).2.1 ≠ (T b).2.1) (hj : j < N) (hlink : Cond.fieldLink own index ref (T j).2.1 (T j).2.2.1 ∈ Ts) (href : (T j).1 = ref) (hfin : (T j).2.2.2 = false) (hd : ty0 j = ty) (hnar : narrow ty va = va) (hfit : fits ty va = true) (hl : j < fs.length) (hX : X.set q0 (a, .inr (ci, fs.set j va)) = X') (k : tmC p s m args meth c cc nL ret own Ts NW D cy tm_s0 tm_a0 0 X' A → tmG p l e R s m args below meth c cells slots Q nL D cy tm_s0 tm_a0 0 X' A () (pc + 3) lv st tm_v0 (some ())) : tmG p l e R s m args below meth c cells slots Q nL D cy tm_s0 tm_a0 0 X A () pc lv (va :: .ref a :: st) tm_v0 (some ()) := fun hz H locs ls hP hS hL => by
  have hP : va_P D vwCl X H := hP
  have hD : va_D A X := C0.dd (v := tm_v0)
  subst hd
  subst hX
  exact va_put C0.1 C0.2.1 C0.2.2.2.2.2.2.1 hin ty0 hty hnm C0.2.2.2.2.2.1 C0.2.2.2.2.2.2.2.1 hP hD hS q0 he hc j hj (C0.2.2.2.2.2.2.1 _ hlink) (by rw [← href]; exact fun _ h => h) hfin (hty j hj) hnar hfit hl hdg (fun H1 locs1 hP1 hD1 hS1 => k (C0.ad (v := tm_v0) hD1) hz H1 locs1 ls hP1 hS1 hL)
theorem tn_putF (q0 j : Nat) {a : Nat} {va : Value} {C ref : String} {T : u_T} {ty0 : Nat → FieldType} {N ci index : Nat} {fs : List Value} {ty : FieldType} (C0 : tmC p s m args meth c cc nL ret own Ts NW D cy tm_s0 tm_a0 0 X A) (hdg : decode cc pc = .ok (.putfield index, 3)) (hin2 : meth.name = "<init>") (he : X[q0]? = some (a, .inr (ci, fs))) (hc : vwCl[ci]? = some (C, T, N)) (hin : ∀ w ∈ u_ws C T N, w ∈ Ts) (hty : ∀ k, k < N → parseFieldDescriptor (T k).2.2.1 = some (ty0 k)) (hnm : ∀ a, a < N → ∀ b, b < N → a ≠ b → (T a).2.1 ≠ (T b).2.1) (hj : j < N) (hlink : Cond.fieldLink own index ref (T j).2.1 (T j).2.2.1 ∈ Ts) (href : (T j).1 = ref) (hfin : (T j).2.2.2 = true) (hdecl : (T j).1 = own) (hd : ty0 j = ty) (hnar : narrow ty va = va) (hfit : fits ty va = true) (hl : j < fs.length) (hX : X.set q0 (a, .inr (ci, fs.set j va)) = X') (k : tmC p s m args meth c cc nL ret own Ts NW D cy tm_s0 tm_a0 0 X' A → tmG p l e R s m args below meth c cells slots Q nL D cy tm_s0 tm_a0 0 X' A () (pc + 3) lv st tm_v0 (some ())) : tmG p l e R s m args below meth c cells slots Q nL D cy tm_s0 tm_a0 0 X A () pc lv (va :: .ref a :: st) tm_v0 (some ()) := fun hz H locs ls hP hS hL => by
  have hP : va_P D vwCl X H := hP
  have hD : va_D A X := C0.dd (v := tm_v0)
  subst hd
  subst hX
  exact va_putF C0.1 C0.2.1 C0.2.2.2.2.2.2.1 hin ty0 hty hnm C0.2.2.2.2.2.1 C0.2.2.2.2.2.2.2.1 hP hD hS q0 he hc j hj (C0.2.2.2.2.2.2.1 _ hlink) (by rw [← href]; exact fun _ h => h) hfin hin2 hdecl (hty j hj) hnar hfit hl hdg (fun H1 locs1 hP1 hD1 hS1 => k (C0.ad (v := tm_v0) hD1) hz H1 locs1 ls hP1 hS1 hL)
theorem tn_get (q0 j : Nat) {a : Nat} {va : Value} {C ref : String} {T : u_T} {N ci index : Nat} {fs : List Value} (C0 : tmC p s m args meth c cc nL ret own Ts NW D cy tm_s0 tm_a0 0 X A) (hdg : decode cc pc = .ok (.getfield index, 3)) (he : X[q0]? = some (a, .inr (ci, fs))) (hc : vwCl[ci]? = some (C, T, N)) (hin : ∀ w ∈ u_ws C T N, w ∈ Ts) (hj : j < N) (hlink : Cond.fieldLink own index ref (T j).2.1 (T j).2.2.1 ∈ Ts) (href : (T j).1 = ref) (hv : fs[j]? = some va) (k : tmG p l e R s m args below meth c cells slots Q nL D cy tm_s0 tm_a0 0 X A () (pc + 3) lv (va :: st) tm_v0 (some ())) : tmG p l e R s m args below meth c cells slots Q nL D cy tm_s0 tm_a0 0 X A () pc lv (.ref a :: st) tm_v0 (some ()) := fun hz H locs ls hP hS hL => by
  have hP : va_P D vwCl X H := hP
  exact va_get C0.1 C0.2.1 C0.2.2.2.2.2.2.1 hin C0.2.2.2.2.2.1 C0.2.2.2.2.2.2.2.1 hP q0 he hc j hj (C0.2.2.2.2.2.2.1 _ hlink) (by rw [← href]; exact fun _ h => h) hv hdg (k hz H locs ls hP hS hL)
theorem tn_iast (q0 : Nat) {a len : Nat} {f : Nat → Int32} {i x : Int32} (C0 : tmC p s m args meth c cc nL ret own Ts NW D cy tm_s0 tm_a0 0 X A) (hdg : decode cc pc = .ok (.iastore, 1)) (he : X[q0]? = some (a, .inl (cy 0, len, .inl f))) (hi : tm_ix i len = true) (hX : X.set q0 (a, .inl (cy 0, len, .inl (upd f i.toNatClampNeg x))) = X') (k : tmC p s m args meth c cc nL ret own Ts NW D cy tm_s0 tm_a0 0 X' A → tmG p l e R s m args below meth c cells slots Q nL D cy tm_s0 tm_a0 0 X' A () (pc + 1) lv st tm_v0 (some ())) : tmG p l e R s m args below meth c cells slots Q nL D cy tm_s0 tm_a0 0 X A () pc lv (.int x :: .int i :: .ref a :: st) tm_v0 (some ()) := fun hz H locs ls hP hS hL => by
  have hP : va_P D vwCl X H := hP
  have hD : va_D A X := C0.dd (v := tm_v0)
  subst hX
  exact va_iast C0.1 C0.2.1 C0.2.2.2.2.2.2.2.1 hP hD hS q0 0 he (tm_tyget 0 (by decide)) (tm_ixin hi) hdg (fun H1 locs1 hP1 hD1 hS1 => k (C0.ad (v := tm_v0) hD1) hz H1 locs1 ls hP1 hS1 hL)
theorem tn_bast (q0 : Nat) {a len : Nat} {f : Nat → Int32} {i x : Int32} (C0 : tmC p s m args meth c cc nL ret own Ts NW D cy tm_s0 tm_a0 0 X A) (hdg : decode cc pc = .ok (.bastore, 1)) (he : X[q0]? = some (a, .inl (cy 2, len, .inl f))) (hi : tm_ix i len = true) (hX : X.set q0 (a, .inl (cy 2, len, .inl (upd f i.toNatClampNeg (vp_nar .byte x)))) = X') (k : tmC p s m args meth c cc nL ret own Ts NW D cy tm_s0 tm_a0 0 X' A → tmG p l e R s m args below meth c cells slots Q nL D cy tm_s0 tm_a0 0 X' A () (pc + 1) lv st tm_v0 (some ())) : tmG p l e R s m args below meth c cells slots Q nL D cy tm_s0 tm_a0 0 X A () pc lv (.int x :: .int i :: .ref a :: st) tm_v0 (some ()) := fun hz H locs ls hP hS hL => by
  have hP : va_P D vwCl X H := hP
  have hD : va_D A X := C0.dd (v := tm_v0)
  subst hX
  exact va_bast C0.1 C0.2.1 C0.2.2.2.2.2.2.2.1 hP hD hS q0 2 he (tm_tyget 2 (by decide)) (tm_ixin hi) hdg (fun H1 locs1 hP1 hD1 hS1 => k (C0.ad (v := tm_v0) hD1) hz H1 locs1 ls hP1 hS1 hL)
theorem tn_aald (q0 t : Nat) {a n r : Nat} {f : Nat → Option Nat} {i : Int32} (C0 : tmC p s m args meth c cc nL ret own Ts NW D cy tm_s0 tm_a0 0 X A) (hdg : decode cc pc = .ok (.aaload, 1)) (he : X[q0]? = some (a, .inl (cy t, n, .inr (.inr (.inr (.inr f)))))) (ht : t < 6) (htr : (tm_tyF t).isReference = true) (hi : tm_ix i n = true) (hf : f i.toNatClampNeg = some r) (k : tmG p l e R s m args below meth c cells slots Q nL D cy tm_s0 tm_a0 0 X A () (pc + 1) lv (.ref r :: st) tm_v0 (some ())) : tmG p l e R s m args below meth c cells slots Q nL D cy tm_s0 tm_a0 0 X A () pc lv (.int i :: .ref a :: st) tm_v0 (some ()) := fun hz H locs ls hP hS hL => by
  have hP : va_P D vwCl X H := hP
  have hlt := tm_ixlt hi
  have hin := tm_ixin hi
  have hcell := hP q0 _ he
  exact W.aald (v := .ref r) (ty := tm_tyF t) C0.1 C0.2.1 hcell ((C0.2.2.2.2.2.2.2.1.2 t _ (tm_tyget t ht)).1 n (fun j => va_rf (f j))) htr (fun q => by cases q) (by show ¬ (i < 0 ∨ (arrV _ _ _).slots.size ≤ _); rw [arrV_size]; exact hin) (by
    show (arrV _ _ _).slots[_]? = _
    rw [arrV_read _ _ hlt]
    show some (va_rf (f i.toNatClampNeg)) = _
    rw [hf]
    rfl) rfl rfl hdg (k hz H locs ls hP hS hL)
def tn_rows (cy0 : ClassId) (K N : Nat) (r : Nat → Nat) : va_W := (List.range N).map (fun i => (r i, .inl (cy0, K, .inl (fun _ => 0))))
theorem tn_mna (N K : Nat) {x y : Int32} {idx : Nat} (C0 : tmC p s m args meth c cc nL ret own Ts NW D cy tm_s0 tm_a0 0 X A) (hE : tnE adK adV adE tC A s s.heap) (hdg : decode cc pc = .ok (.multianewarray idx 2, 4)) (hlink : Cond.classLink own idx "[[I" ∈ Ts) (harr : Cond.arrayClass .int ∈ Ts) (hx : x.toNatClampNeg = K) (hx0 : ¬ x < 0) (hy : y.toNatClampNeg = N) (hy0 : ¬ y < 0) (hN : N ≤ 100 ∧ K ≤ 5000) (hcs : cells + (1 + N) ≤ R.cells ∧ slots + (N + N * K) ≤ R.slots) (k : ∀ (q : Nat) (r : Nat → Nat), tmC p s m args meth c cc nL ret own Ts NW D cy tm_s0 tm_a0 0 ((X ++ [(q, .inl (cy 5, N, .inr (.inr (.inr (.inr (fun i => ((List.range N).map r)[i]?))))))]) ++ tn_rows (cy 0) K N r) A → tmG p l e R s m args below meth c (cells + 1 + N) (slots + N + N * K) Q nL D cy tm_s0 tm_a0 0 ((X ++ [(q, .inl (cy 5, N, .inr (.inr (.inr (.inr (fun i => ((List.range N).map r)[i]?))))))]) ++ tn_rows (cy 0) K N r) A () (pc + 4) lv (.ref q :: st) tm_v0 (some ())) : tmG p l e R s m args below meth c cells slots Q nL D cy tm_s0 tm_a0 0 X A () pc lv (.int x :: .int y :: st) tm_v0 (some ()) := fun hz H locs ls hP hS hL => by
  have hP : va_P D vwCl X H := hP
  have hD : va_D A X := C0.dd (v := tm_v0)
  have ht := C0.2.2.2.2.2.2.1
  have hX0 : X ++ va_pl [] (fun _ => (.inr (0, []) : va_E)) = X := List.append_nil X
  have hcy : s.vm.findClass (FieldType.array .int).toString = some (cy 0) := (C0.2.2.2.2.2.2.2.1.2 0 _ (tm_tyget 0 (by decide))).2
  refine va_mna (X := X) (L := []) (f := fun _ => (.inr (0, []) : va_E)) (cy := cy 0) (z := (K, .inl (fun _ => 0))) C0.1 C0.2.1 C0.2.2.2.2.2.1 (ht _ hlink) hE.2.1 (ht _ harr) hcy C0.2.2.2.2.2.2.2.1 (by rw [hX0]; exact hP) (by rw [hX0]; exact hD) hS C0.2.2.2.2.2.2.2.2.2.2.2 hy0 hx0 hy hx (by omega) (by show K * 4 ≤ 536870912; omega) (by omega) rfl rfl hcs.1 hcs.2 (fun c => by show ({ cls := c, slots := Array.replicate K (.int 0), vm := .none } : Cell) = arrV c K (fun _ => .int 0); rw [arrV_new]) hdg (fun q r cA H1 hinj hnl hK1 hP1 hD1 hS1 => ?_)
  have hc2 : cA = cy 5 := tm_cyu (ty := tm_tyF 5) (fun h1 h2 => Option.some.inj ((show s.vm.findClass _ = some cA from h1).symm.trans (show s.vm.findClass _ = some _ from h2))) hK1 (tm_tyget 5 (by decide))
  subst hc2
  have hl : va_pl ([] ++ (List.range N).map r) (vr_up (fun _ => (.inr (0, []) : va_E)) ((List.range N).map r) (.inl (cy 0, (K, .inl (fun _ => 0))))) = tn_rows (cy 0) K N r := by
    unfold va_pl tn_rows
    rw [List.nil_append, List.map_map]
    apply List.map_congr_left
    intro i hi
    show (r i, vr_up _ _ _ (r i)) = _
    rw [vr_up_in (List.mem_map.mpr ⟨i, hi, rfl⟩)]
  have hf : (fun i => if i < N then some (r i) else none) = fun i => ((List.range N).map r)[i]? := by
    funext i
    by_cases h : i < N
    · rw [if_pos h, List.getElem?_map, List.getElem?_range h]; rfl
    · rw [if_neg h, List.getElem?_eq_none (by rw [List.length_map, List.length_range]; omega)]
  rw [hl, hf] at hP1 hD1
  exact k q r (C0.ad (v := tm_v0) hD1) hz H1 locs ls hP1 hS1 hL
theorem tn_anew (N : Nat) {C : String} {t : Nat} {x : Int32} {idx : Nat} (C0 : tmC p s m args meth c cc nL ret own Ts NW D cy tm_s0 tm_a0 0 X A) (hE : va_AO C s) (hdg : decode cc pc = .ok (.anewarray idx, 3)) (hlink : Cond.classLink own idx C ∈ Ts) (ht5 : t < 6) (htC : tm_tyF t = .object C) (hx : x.toNatClampNeg = N) (hx0 : ¬ x < 0) (hN : N ≤ 5000) (hcs : cells + 1 ≤ R.cells ∧ slots + N ≤ R.slots) (k : ∀ q : Nat, tmC p s m args meth c cc nL ret own Ts NW D cy tm_s0 tm_a0 0 (X ++ [(q, .inl (cy t, N, .inr (.inr (.inr (.inr (fun _ => none))))))]) A → tmG p l e R s m args below meth c (cells + 1) (slots + N) Q nL D cy tm_s0 tm_a0 0 (X ++ [(q, .inl (cy t, N, .inr (.inr (.inr (.inr (fun _ => none))))))]) A () (pc + 3) lv (.ref q :: st) tm_v0 (some ())) : tmG p l e R s m args below meth c cells slots Q nL D cy tm_s0 tm_a0 0 X A () pc lv (.int x :: st) tm_v0 (some ()) := fun hz H locs ls hP hS hL => by
  have hP : va_P D vwCl X H := hP
  have hD : va_D A X := C0.dd (v := tm_v0)
  have ht := C0.2.2.2.2.2.2.1
  refine va_newq C0.1 C0.2.1 C0.2.2.2.2.2.1 (ht _ hlink) hE C0.2.2.2.2.2.2.2.1 hP hD hS C0.2.2.2.2.2.2.2.2.2.2.2 hx0 hx (by omega) hcs.1 hcs.2 hdg (fun q cA H1 hK1 hP1 hD1 hS1 => ?_)
  have hc2 : cA = cy t := tm_cyu (ty := .object C) (fun h1 h2 => by
    obtain ⟨_, _, _, _, _, e1⟩ := h1
    obtain ⟨_, _, _, _, _, e2⟩ := h2
    exact Option.some.inj (e1.symm.trans e2)) hK1 (by rw [← htC]; exact tm_tyget t ht5)
  subst hc2
  exact k q (C0.ad (v := tm_v0) hD1) hz H1 locs ls hP1 hS1 hL
theorem tn_aast (q0 t qk ci : Nat) {a b n : Nat} {f : Nat → Option Nat} {vs : List Value} {r : vw_C} {i : Int32} (C0 : tmC p s m args meth c cc nL ret own Ts NW D cy tm_s0 tm_a0 0 X A) (hdg : decode cc pc = .ok (.aastore, 1)) (he : X[q0]? = some (a, .inl (cy t, n, .inr (.inr (.inr (.inr f)))))) (ht5 : t < 6) (htC : tm_tyF t = .object r.1) (hv : X[qk]? = some (b, .inr (ci, vs))) (hc : vwCl[ci]? = some r) (hi : tm_ix i n = true) (hX : X.set q0 (a, .inl (cy t, n, .inr (.inr (.inr (.inr (va_up f i.toNatClampNeg (some b))))))) = X') (k : tmC p s m args meth c cc nL ret own Ts NW D cy tm_s0 tm_a0 0 X' A → tmG p l e R s m args below meth c cells slots Q nL D cy tm_s0 tm_a0 0 X' A () (pc + 1) lv st tm_v0 (some ())) : tmG p l e R s m args below meth c cells slots Q nL D cy tm_s0 tm_a0 0 X A () pc lv (.ref b :: .int i :: .ref a :: st) tm_v0 (some ()) := fun hz H locs ls hP hS hL => by
  have hP : va_P D vwCl X H := hP
  have hD : va_D A X := C0.dd (v := tm_v0)
  subst hX
  exact va_astq C0.1 C0.2.1 C0.2.2.2.2.2.2.2.1 hP hD hS q0 t qk ci he (by rw [← htC]; exact tm_tyget t ht5) hv hc (tm_ixin hi) hdg (fun H1 locs1 hP1 hD1 hS1 => k (C0.ad (v := tm_v0) hD1) hz H1 locs1 ls hP1 hS1 hL)
theorem tn_join {w1 : va_W} {H H1 : Heap} {wc : va_W} (hP : va_P D vwCl (Y ++ wc) H) (hD : va_D A (Y ++ wc)) (hk : ∀ q : Nat, q < H.size → ¬ va_A wc H.size q → H1[q]? = H[q]?) (hF : ∀ q, va_A wc H.size q → A q) (hP1 : va_P D vwCl w1 H1) (hD1 : va_D (va_A wc H.size) w1) : va_P D vwCl (Y ++ w1) H1 ∧ va_D A (Y ++ w1) := by
  have h := tm_join (tm_swapP hP) (tm_swapD hD) hk hF hP1 hD1
  exact ⟨tm_swapP h.1, tm_swapD h.2⟩
theorem tn_call {As st0 : List Value} (na : Nat) {y : MethodName} {wsy ws' : List Cond} {rmy : Room} {w0 : Nat → va_W} {w1 : (Nat → ClassId) → Nat → (Nat → Nat) → va_W} {bytes : ByteArray} {maxL idx b mc1 ms1 : Nat} (C0 : tmC p s m args meth c cc nL ret own Ts NW D cy tm_s0 tm_a0 0 (Y ++ w0 b) A) (hE : tnE adK adV adE tC A s s.heap) (hdg : decode cc pc = .ok (.invokespecial idx, 3)) (hM : tnK NW l adK adV adE tC y wsy rmy As w0 w1 mc1 ms1) (hst : st0 = As.reverse ++ .ref b :: st) (hna : As.length = na) (hG : GoodIn Ts wsy) (hlink : Cond.methodLink own idx y ∈ Ts) (hini : Cond.initialized y.cls ∈ Ts) (hinst : Cond.instanceMethod y ∈ Ts) (hyn : y.name = "<init>") (hw : wsy = Cond.code y bytes maxL none :: ws') (hrc : rmy.cells = mc1) (hrs : rmy.slots = ms1) (hd : y.cls ≠ "java/lang/invoke/MethodHandle" ∧ y.cls ≠ "java/lang/invoke/VarHandle" ∧ (parseMethodDescriptor y.desc).map (fun d => d.parameters.length) = some na) (hR : rmy.frames + 1 ≤ R.frames ∧ 8 + (maxL + 11) + rmy.locals ≤ R.locals) (hcat : (st.map fun v => v.category).sum ≤ 8) (hcs : cells + mc1 ≤ R.cells ∧ slots + ms1 ≤ R.slots) (k : ∀ u : Nat → Nat, tmC p s m args meth c cc nL ret own Ts NW D cy tm_s0 tm_a0 0 (Y ++ w1 cy b u) A → tmG p l e R s m args below meth c (cells + mc1) (slots + ms1) Q nL D cy tm_s0 tm_a0 0 (Y ++ w1 cy b u) A () (pc + 3) lv st tm_v0 (some ())) : tmG p l e R s m args below meth c cells slots Q nL D cy tm_s0 tm_a0 0 (Y ++ w0 b) A () pc lv st0 tm_v0 (some ()) := fun hz H locs ls hP hS hL => by
  have hP : va_P D vwCl (Y ++ w0 b) H := hP
  have hD : va_D A (Y ++ w0 b) := C0.dd (v := tm_v0)
  have hMet := hM D cy b H.size
  subst hst
  have hts := C0.2.2.2.2.2.2.1
  have hF := tm_free (w1 := w0 b) (w2 := Y) (tm_swapD hD) hS C0.2.2.2.2.2.2.2.2.2.2.2
  refine va_callv (va_runI (As := As) (rest := st) ⟨C0.1, C0.2.1, C0.2.2.1, C0.2.2.2.2.2.1, hts⟩ hMet (cwI na hts hG hw hrc hrs (hts _ hini) (hts _ hlink) (hts _ hinst) hyn hd hR) ⟨tnP.blind C0.2.2.2.2.2.2.2.2.2.1 _, fun U hU hW => ⟨rfl, ⟨by rw [hU], by rw [hU]; exact tm_Pleft (tm_swapP hP), va_K.moved hW.alike C0.2.2.2.2.2.2.2.1, tmNs.warm C0.2.2.2.2.2.2.2.2.2.1 hW C0.2.2.2.2.2.2.2.2.1, (tm_Dleft (tm_swapD hD)).weaken (fun _ _ _ _ => trivial)⟩, hE.go hS hF hU hW⟩⟩ rfl hna hL.1 rfl (lv_room hcat) hdg ⟨hcs.1, hcs.2⟩) hS (fun q _ h => hF q h) hF (fun u t H1 locs1 ht hvm hw2 hB hz1 hk1 hS1 => ?_)
  obtain ⟨hP1, hD1⟩ := hB
  rw [ht] at hP1
  have hj := tn_join hP hD hk1 hF hP1 hD1
  exact k u (C0.ad (v := tm_v0) hj.2) hz H1 locs1 ls hj.1 hS1 hL
theorem tn_callN {As st0 : List Value} (na : Nat) {y : MethodName} {wsy ws' : List Cond} {rmy : Room} {w0 : Nat → va_W} {w1 : (Nat → ClassId) → Nat → (Nat → Nat) → va_W} {bytes : ByteArray} {host : String} {maxL idx b mc1 ms1 : Nat} (C0 : tmC p s m args meth c cc nL ret own Ts NW D cy tm_s0 tm_a0 0 (Y ++ w0 b) A) (hE : tnE adK adV adE tC A s s.heap) (hdg : decode cc pc = .ok (.invokespecial idx, 3)) (hM : tnK NW l adK adV adE tC y wsy rmy As w0 w1 mc1 ms1) (hst : st0 = As.reverse ++ .ref b :: st) (hna : As.length = na) (hG : GoodIn Ts wsy) (hlink : Cond.methodLinkNest own idx y host ∈ NW) (hini : Cond.initialized y.cls ∈ Ts) (hinst : Cond.instanceMethod y ∈ Ts) (hyn : y.name = "<init>") (hw : wsy = Cond.code y bytes maxL none :: ws') (hrc : rmy.cells = mc1) (hrs : rmy.slots = ms1) (hd : y.cls ≠ "java/lang/invoke/MethodHandle" ∧ y.cls ≠ "java/lang/invoke/VarHandle" ∧ (parseMethodDescriptor y.desc).map (fun d => d.parameters.length) = some na) (hR : rmy.frames + 1 ≤ R.frames ∧ 8 + (maxL + 11) + rmy.locals ≤ R.locals) (hcat : (st.map fun v => v.category).sum ≤ 8) (hcs : cells + mc1 ≤ R.cells ∧ slots + ms1 ≤ R.slots) (k : ∀ u : Nat → Nat, tmC p s m args meth c cc nL ret own Ts NW D cy tm_s0 tm_a0 0 (Y ++ w1 cy b u) A → tmG p l e R s m args below meth c (cells + mc1) (slots + ms1) Q nL D cy tm_s0 tm_a0 0 (Y ++ w1 cy b u) A () (pc + 3) lv st tm_v0 (some ())) : tmG p l e R s m args below meth c cells slots Q nL D cy tm_s0 tm_a0 0 (Y ++ w0 b) A () pc lv st0 tm_v0 (some ()) := fun hz H locs ls hP hS hL => by
  have hP : va_P D vwCl (Y ++ w0 b) H := hP
  have hD : va_D A (Y ++ w0 b) := C0.dd (v := tm_v0)
  have hMet := hM D cy b H.size
  subst hst
  have hts := C0.2.2.2.2.2.2.1
  have hF := tm_free (w1 := w0 b) (w2 := Y) (tm_swapD hD) hS C0.2.2.2.2.2.2.2.2.2.2.2
  refine va_callv (va_runIN (As := As) (rest := st) ⟨C0.1, C0.2.1, C0.2.2.1, C0.2.2.2.2.2.1, hts⟩ hMet ⟨va_cnB na hts hG hw hrc hrs (C0.2.2.2.2.2.2.2.2.1 _ hlink) (hts _ hini) hd hR, hyn, hts _ hinst⟩ ⟨tnP.blind C0.2.2.2.2.2.2.2.2.2.1 _, fun U hU hW => ⟨rfl, ⟨by rw [hU], by rw [hU]; exact tm_Pleft (tm_swapP hP), va_K.moved hW.alike C0.2.2.2.2.2.2.2.1, tmNs.warm C0.2.2.2.2.2.2.2.2.2.1 hW C0.2.2.2.2.2.2.2.2.1, (tm_Dleft (tm_swapD hD)).weaken (fun _ _ _ _ => trivial)⟩, hE.go hS hF hU hW⟩⟩ rfl hna hL.1 rfl (lv_room hcat) hdg ⟨hcs.1, hcs.2⟩) hS (fun q _ h => hF q h) hF (fun u t H1 locs1 ht hvm hw2 hB hz1 hk1 hS1 => ?_)
  obtain ⟨hP1, hD1⟩ := hB
  rw [ht] at hP1
  have hj := tn_join hP hD hk1 hF hP1 hD1
  exact k u (C0.ad (v := tm_v0) hj.2) hz H1 locs1 ls hj.1 hS1 hL
theorem tn_vret {w1 : (Nat → ClassId) → Nat → (Nat → Nat) → va_W} {h0 : Nat} (u : Nat → Nat) (C0 : tmC p s m args meth c cc nL none own Ts NW D cy tm_s0 tm_a0 0 X A) (hX : X = w1 cy h0 u) (hdg : decode cc pc = .ok (.return_, 1)) (hc : cells ≤ mc ∧ slots ≤ ms) : tmG p l e R s m args below meth c cells slots (MQ below (va_Qv (fun _ : Nat → Nat => True) (fun u t => va_P D vwCl (w1 cy h0 u) t.heap ∧ va_D A (w1 cy h0 u)) A) args s mc ms A) nL D cy tm_s0 tm_a0 0 X A () pc lv [] tm_v0 (some ()) := fun hz H locs ls hP hS hL => by
  have hP : va_P D vwCl X H := hP
  have hD : va_D A X := C0.dd (v := tm_v0)
  rw [hX] at hP hD
  exact W.widen hc.1 hc.2 (W.vret C0.1 C0.2.1 C0.2.2.2.1 (fun t ht hW => ⟨⟨u, rfl, trivial, by rw [ht]; exact hP, hD⟩, hS.F ht⟩) hS.2.2 hdg C0.2.2.2.2.1)
theorem tn_widen {c2 s2 : Nat} (hc : cells ≤ c2) (hs : slots ≤ s2) (k : tmG p l e R s m args below meth c c2 s2 Q nL D cy tm_s0 tm_a0 0 X A () pc lv st tm_v0 (some ())) : tmG p l e R s m args below meth c cells slots Q nL D cy tm_s0 tm_a0 0 X A () pc lv st tm_v0 (some ()) := fun hz H locs ls hP hS hL => W.widen hc hs (k hz H locs ls hP hS hL)
end TN
