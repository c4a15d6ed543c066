/-! ===== texts and the enum's constants: what stands outside every world and is never written ===== -/
def tm_len : List Nat := [3, 6, 5, 4, 6, 5, 6, 4, 4, 6, 4, 6, 7, 7, 8]
def tm_byt : List (List Int32) := [[112, 117, 116], [114, 101, 109, 111, 118, 101], [98, 101, 103, 105, 110], [99, 111, 112, 121], [114, 101, 112, 97, 105, 114], [99, 104, 101, 99, 107], [115, 119, 105, 116, 99, 104], [98, 97, 99, 107], [108, 101, 97, 100], [114, 101, 116, 117, 114, 110], [115, 116, 111, 112], [102, 105, 110, 105, 115, 104], [119, 105, 116, 104, 111, 117, 116], [32, 99, 111, 112, 105, 101, 100], [32, 99, 104, 101, 99, 107, 101, 100]]
def tm_act : List Int32 := [11, 12, 0, 1, 2, 3, 4, 5, 6, 7, 9, 10]
def tm_nums : List Int32 := [2, 1, 0, 1, 1, 1, 1, 1, 0, 0, 0, 0]
def tm_lea : List Int32 := [0, 0, 0, 1, 1, 0, 0, 0, 0, 0, 0, 0]
def tm_gre : List Int32 := [59, 59, 0, 15, 15, 14, 7, 7, 0, 0, 0, 0]
def tm_d1 (i : Nat) : Int32 := Int32.ofNat (48 + i % 10)
def tm_d10 (i : Nat) : Int32 := Int32.ofNat (48 + i / 10)
/-- a static table of a hundred digits -/
def tmDg (nm : String) (f : Nat → Int32) (A : Nat → Prop) (U : State) (H : Heap) : Prop := ∃ t : Nat, va_Z "java/lang/Integer" nm "[B" (.ref t) A U H ∧ va_T .byte t 100 (fun i => .int (f i)) A U H
abbrev tm_Sf : String := "Ljava/util/function/BiFunction;"
def tmSc (adK adV adE : Nat → Nat) (tC : Nat) (A : Nat → Prop) (U : State) (H : Heap) : Prop :=
  vk_S 15 tm_len tm_byt adK adV A U H ∧ va_Z "java/lang/String" "COMPACT_STRINGS" "Z" (.int 1) A U H ∧ va_Z "TableMove" "COMMANDS" "[LTableMove$Command;" (.ref tC) A U H ∧ va_T (.object "TableMove$Command") tC 12 (fun i => .ref (adE i)) A U H ∧ va_Ef 12 "TableMove$Command" "word" "Ljava/lang/String;" (fun i => .ref (adK i)) adE A U H ∧ va_Ef 12 "TableMove$Command" "act" "I" (fun i => .int (tm_act.getD i 0)) adE A U H ∧ va_Ef 12 "TableMove$Command" "numbers" "I" (fun i => .int (tm_nums.getD i 0)) adE A U H ∧ va_Ef 12 "TableMove$Command" "least" "I" (fun i => .int (tm_lea.getD i 0)) adE A U H ∧ va_Ef 12 "TableMove$Command" "greatest" "I" (fun i => .int (tm_gre.getD i 0)) adE A U H ∧ vk_R RX3 73 "without" (adK 12) U ∧ va_Zq "jdk/internal/util/Preconditions" "SIOOBE_FORMATTER" tm_Sf A U H ∧ vk_R RX7 285 " copied" (adK 13) U ∧ vk_R RX7 290 " checked" (adK 14) U ∧ tmDg "DigitOnes" tm_d1 A U H ∧ tmDg "DigitTens" tm_d10 A U H
theorem tmSc.go {adK adV adE : Nat → Nat} {tC : Nat} {A B : Nat → Prop} {s U : State} {H : Heap} {locs : List Loc} (h : tmSc adK adV adE tC A s s.heap) (hS : va_S A s.heap H locs) (hAB : ∀ q, B q → A q) (hU : U.heap = H) (hW : s.WarmedH U.vm) : tmSc adK adV adE tC B U U.heap := by
  obtain ⟨h1, h2, h3, h4, h5, h6, h7, h8, h9, h10, h11, h12, h13, ⟨t14, h14, h14b⟩, ⟨t15, h15, h15b⟩⟩ := h
  have hk : ∀ a : Nat, a < s.heap.size → ¬ A a → U.heap[a]? = s.heap[a]? := fun a x y => by rw [hU]; exact hS.2.1 a x y
  exact ⟨((h1.kept hk).narrow hAB).moved hW.alike, ((h2.kept hk).narrow hAB).moved hW.alike, ((h3.kept hk).narrow hAB).moved hW.alike, ((h4.kept hk).narrow hAB).moved hW.alike, ((h5.kept hk).narrow hAB).moved hW.alike, ((h6.kept hk).narrow hAB).moved hW.alike, ((h7.kept hk).narrow hAB).moved hW.alike, ((h8.kept hk).narrow hAB).moved hW.alike, ((h9.kept hk).narrow hAB).moved hW.alike, h10.warm hW, ((h11.kept hk).narrow hAB).moved hW.alike, h12.warm hW, h13.warm hW, ⟨t14, ((h14.kept hk).narrow hAB).moved hW.alike, ((h14b.kept hk).narrow hAB).moved hW.alike⟩, ⟨t15, ((h15.kept hk).narrow hAB).moved hW.alike, ((h15b.kept hk).narrow hAB).moved hW.alike⟩⟩
theorem tmSc.call {adK adV adE : Nat → Nat} {tC : Nat} {A : Nat → Prop} {U : State} {g : JFrame} {mk : MethodId} {a : Array Value} (h : tmSc adK adV adE tC A U U.heap) : tmSc adK adV adE tC A (U.calling g mk a) (U.calling g mk a).heap := by
  obtain ⟨h1, h2, h3, h4, h5, h6, h7, h8, h9, h10, h11, h12, h13, ⟨t14, h14, h14b⟩, ⟨t15, h15, h15b⟩⟩ := h
  have e : U.vm.Alike (U.calling g mk a).vm := Vm.Alike.refl U.vm
  exact ⟨vk_S.moved (u := U) (U := U.calling g mk a) e h1, va_Z.moved (u := U) (U := U.calling g mk a) e h2, va_Z.moved (u := U) (U := U.calling g mk a) e h3, va_T.moved (u := U) (U := U.calling g mk a) e h4, va_Ef.moved (u := U) (U := U.calling g mk a) e h5, va_Ef.moved (u := U) (U := U.calling g mk a) e h6, va_Ef.moved (u := U) (U := U.calling g mk a) e h7, va_Ef.moved (u := U) (U := U.calling g mk a) e h8, va_Ef.moved (u := U) (U := U.calling g mk a) e h9, vk_R.same (u := U) rfl h10, va_Zq.moved (u := U) (U := U.calling g mk a) e h11, vk_R.same (u := U) rfl h12, vk_R.same (u := U) rfl h13, ⟨t14, va_Z.moved (u := U) (U := U.calling g mk a) e h14, va_T.moved (u := U) (U := U.calling g mk a) e h14b⟩, ⟨t15, va_Z.moved (u := U) (U := U.calling g mk a) e h15, va_T.moved (u := U) (U := U.calling g mk a) e h15b⟩⟩
def tmYP (NW : List Cond) (sh : Nat → tmE) (n : Nat) (adK adV adE : Nat → Nat) (tC : Nat) (D : va_G) (cy : Nat → ClassId) (ad : Nat → Nat) (sz : Nat) (v : tmM) : State → Prop := fun U => tmPre NW sh n D cy ad sz v U ∧ tmSc adK adV adE tC (va_A (tm_w cy sh ad n v) sz) U U.heap
theorem tmYP.blind {NW : List Cond} (hn : NW.all tm_isN = true) {sh : Nat → tmE} {n : Nat} {adK adV adE : Nat → Nat} {tC : Nat} {D : va_G} {cy : Nat → ClassId} {ad : Nat → Nat} {sz : Nat} {v : tmM} (av : List Value) : FrameBlind (va_Pc av (tmYP NW sh n adK adV adE tC D cy ad sz v)) := fun a U g mk q => by
  obtain ⟨q0, q1, q2⟩ := q
  exact ⟨q0, (tmPre.blind hn av a U g mk ⟨q0, q1⟩).2, q2.call⟩
def tmYi (NW : List Cond) (sh : Nat → tmE) (n : Nat) (l : Launch) (adK adV adE : Nat → Nat) (tC : Nat) (y : MethodName) (ws : List Cond) (rm : Room) (av : (Nat → Nat) → List Value) (v : tmM) (o : Option (Int32 × tmM)) : Prop :=
  ∀ (D : va_G) (cy : Nat → ClassId) (ad : Nat → Nat) (sz : Nat) (z : Int32 × tmM), o = some z → Met l y ws rm (va_Pc (av ad) (tmYP NW sh n adK adV adE tC D cy ad sz v)) (va_Qi (fun r u => z = (r, u)) (tmAt sh n D cy ad (va_A (tm_w cy sh ad n v) sz)) (va_A (tm_w cy sh ad n v) sz)) 0 0 (va_A (tm_w cy sh ad n v) sz)
def tmYv (NW : List Cond) (sh : Nat → tmE) (n : Nat) (l : Launch) (adK adV adE : Nat → Nat) (tC : Nat) (y : MethodName) (ws : List Cond) (rm : Room) (av : (Nat → Nat) → List Value) (v : tmM) (o : Option (Unit × tmM)) : Prop :=
  ∀ (D : va_G) (cy : Nat → ClassId) (ad : Nat → Nat) (sz : Nat) (z : Unit × tmM), o = some z → Met l y ws rm (va_Pc (av ad) (tmYP NW sh n adK adV adE tC D cy ad sz v)) (va_Qv (fun u => z = ((), u)) (tmAt sh n D cy ad (va_A (tm_w cy sh ad n v) sz)) (va_A (tm_w cy sh ad n v) sz)) 0 0 (va_A (tm_w cy sh ad n v) sz)
def tmYe (NW : List Cond) (sh : Nat → tmE) (n : Nat) (l : Launch) (adK adV adE : Nat → Nat) (tC : Nat) (y : MethodName) (ws : List Cond) (rm : Room) (av : (Nat → Nat) → List Value) (v : tmM) (o : Option (Option Nat × tmM)) : Prop :=
  ∀ (D : va_G) (cy : Nat → ClassId) (ad : Nat → Nat) (sz : Nat) (z : Option Nat × tmM), o = some z → Met l y ws rm (va_Pc (av ad) (tmYP NW sh n adK adV adE tC D cy ad sz v)) (va_Qe adE (fun r u => z = (r, u)) (tmAt sh n D cy ad (va_A (tm_w cy sh ad n v) sz)) (va_A (tm_w cy sh ad n v) sz)) 0 0 (va_A (tm_w cy sh ad n v) sz)
def tm_ci (x : Int32) : Bool := decide (0 ≤ x.toInt ∧ x.toInt < 65536)
theorem tm_cin {x : Int32} (h : tm_ci x = true) : narrow .char (.int x) = .int x := by
  have h2 : 0 ≤ x.toInt ∧ x.toInt < 65536 := of_decide_eq_true h
  have hx : x = nI x.toInt.toNat := by
    apply Int32.toInt_inj.mp
    rw [nI_toInt (by omega)]
    omega
  rw [hx]
  exact (pk_charN (by omega)).1
section TMY
variable {p : Program} {l : Launch} {e : Env} {R : Room} {s : State} {m : MethodId} {args : Array Value} {below : List Frame} {meth : Method} {c : Code} {cells slots : Nat} {Q : State → Prop} {cc : ByteArray} {nL : Nat} {ret : Option FieldType} {own : String} {Ts : List Cond} {NW : List Cond} {D : va_G} {cy : Nat → ClassId} {sh : Nat → tmE} {ad : Nat → Nat} {n : Nat} {X : va_W} {A : Nat → Prop} {adK adV adE : Nat → Nat} {tC : Nat}
variable {β : Type} {z : β} {pc : Nat} {lv lv' : List (Nat × Value)} {st : List Value} {v : tmM} {res r1 r2 : Option β}
theorem ty_oget {o nm d ref : String} {index q : Nat} {va : Value} (C0 : tmC p s m args meth c cc nL ret own Ts NW D cy sh ad n X A) (hdg : decode cc pc = .ok (.getfield index, 3)) (hE : va_OF o nm d va q A s s.heap) (hlink : Cond.fieldLink own index ref nm d ∈ Ts) (href : o = ref) (k : tmG p l e R s m args below meth c cells slots Q nL D cy sh ad n X A z (pc + 3) lv (va :: st) v res) : tmG p l e R s m args below meth c cells slots Q nL D cy sh ad n X A z pc lv (.ref q :: st) v res := fun hz H locs ls hP hS hL => vk_getf C0.1 C0.2.1 hE hS C0.2.2.2.2.2.1 (C0.2.2.2.2.2.2.1 _ hlink) (by rw [href]; exact fun _ h => h) hdg (k hz H locs ls hP hS hL)
theorem ty_ogetN {o nm d ref host : String} {index q : Nat} {va : Value} (C0 : tmC p s m args meth c cc nL ret own Ts NW D cy sh ad n X A) (hdg : decode cc pc = .ok (.getfield index, 3)) (hE : va_OF o nm d va q A s s.heap) (hlink : Cond.fieldLinkNest own index ref nm d host ∈ NW) (href : o = ref) (k : tmG p l e R s m args below meth c cells slots Q nL D cy sh ad n X A z (pc + 3) lv (va :: st) v res) : tmG p l e R s m args below meth c cells slots Q nL D cy sh ad n X A z pc lv (.ref q :: st) v res := fun hz H locs ls hP hS hL => by
  obtain ⟨cf, kf, fi, f, cell, h1, h2, h3, h4, h5, h6⟩ := hE.kept hS.2.1
  exact va_Wgetf C0.1 C0.2.1 C0.2.2.2.2.2.1 (va_Nw.use rfl (C0.2.2.2.2.2.2.2.2.1 _ hlink)) (by rw [← href]; exact h1) h2 h3 h4 (v := va) h5 rfl rfl hdg (k hz H locs ls hP hS hL)
theorem ty_ogs {C nm d ref : String} {va : Value} {index : Nat} (C0 : tmC p s m args meth c cc nL ret own Ts NW D cy sh ad n X A) (hdg : decode cc pc = .ok (.getstatic index, 3)) (hZ : va_Z C nm d va A s s.heap) (hlink : Cond.fieldLink own index ref nm d ∈ Ts) (href : C = ref) (k : tmG p l e R s m args below meth c cells slots Q nL D cy sh ad n X A z (pc + 3) lv (va :: st) v res) : tmG p l e R s m args below meth c cells slots Q nL D cy sh ad n X A z pc lv st v res := fun hz H locs ls hP hS hL => va_gets C0.1 C0.2.1 hZ hS C0.2.2.2.2.2.1 (C0.2.2.2.2.2.2.1 _ hlink) (by rw [href]; exact fun _ h => h) hdg (k hz H locs ls hP hS hL)
theorem ty_ogsN {C nm d ref host : String} {va : Value} {index : Nat} (C0 : tmC p s m args meth c cc nL ret own Ts NW D cy sh ad n X A) (hdg : decode cc pc = .ok (.getstatic index, 3)) (hZ : va_Z C nm d va A s s.heap) (hlink : Cond.fieldLinkNest own index ref nm d host ∈ NW) (href : C = ref) (k : tmG p l e R s m args below meth c cells slots Q nL D cy sh ad n X A z (pc + 3) lv (va :: st) v res) : tmG p l e R s m args below meth c cells slots Q nL D cy sh ad n X A z pc lv st v res := fun hz H locs ls hP hS hL => va_getsN C0.1 C0.2.1 hZ hS C0.2.2.2.2.2.1 (va_Nw.use rfl (C0.2.2.2.2.2.2.2.2.1 _ hlink)) (by rw [href]; exact fun _ h => h) hdg (k hz H locs ls hP hS hL)
theorem ty_ogsq {C nm d ref : String} {index : Nat} (C0 : tmC p s m args meth c cc nL ret own Ts NW D cy sh ad n X A) (hdg : decode cc pc = .ok (.getstatic index, 3)) (hZ : va_Zq C nm d A s s.heap) (hlink : Cond.fieldLink own index ref nm d ∈ Ts) (href : C = ref) (k : ∀ va : Value, (va = .null ∨ ∃ t, va = .ref t) → tmG p l e R s m args below meth c cells slots Q nL D cy sh ad n X A z (pc + 3) lv (va :: st) v res) : tmG p l e R s m args below meth c cells slots Q nL D cy sh ad n X A z pc lv st v res := by
  rcases hZ with hZ | ⟨t, hZ⟩
  · exact ty_ogs C0 hdg hZ hlink href (k _ (Or.inl rfl))
  · exact ty_ogs C0 hdg hZ hlink href (k _ (Or.inr ⟨t, rfl⟩))
theorem ty_olen {ty : FieldType} {t N : Nat} {f : Nat → Value} {x : Int32} (C0 : tmC p s m args meth c cc nL ret own Ts NW D cy sh ad n X A) (hdg : decode cc pc = .ok (.arraylength, 1)) (hT : va_T ty t N f A s s.heap) (hv : Int32.ofNat N = x) (k : tmG p l e R s m args below meth c cells slots Q nL D cy sh ad n X A z (pc + 1) lv (.int x :: st) v res) : tmG p l e R s m args below meth c cells slots Q nL D cy sh ad n X A z pc lv (.ref t :: st) v res := fun hz H locs ls hP hS hL => va_tlen C0.1 C0.2.1 hT hS hv hdg (k hz H locs ls hP hS hL)
theorem ty_obald {t N : Nat} {f : Nat → Value} {i : Int32} {va : Value} (C0 : tmC p s m args meth c cc nL ret own Ts NW D cy sh ad n X A) (hdg : decode cc pc = .ok (.baload, 1)) (hT : va_T .byte t N f A s s.heap) (hv : f i.toNatClampNeg = va) (k : tm_ix i N = true → tmG p l e R s m args below meth c cells slots Q nL D cy sh ad n X A z (pc + 1) lv (va :: st) v res) : tmG p l e R s m args below meth c cells slots Q nL D cy sh ad n X A z pc lv (.int i :: .ref t :: st) v (tm_g (tm_ix i N) res) := tg_g fun hi hz H locs ls hP hS hL => va_tb C0.1 C0.2.1 hT hS (tm_ixin hi) hv hdg (k hi hz H locs ls hP hS hL)
theorem ty_oaald {C : String} {t N : Nat} {f : Nat → Value} {i : Int32} {va : Value} (C0 : tmC p s m args meth c cc nL ret own Ts NW D cy sh ad n X A) (hdg : decode cc pc = .ok (.aaload, 1)) (hT : va_T (.object C) t N f A s s.heap) (hv : f i.toNatClampNeg = va) (k : tm_ix i N = true → tmG p l e R s m args below meth c cells slots Q nL D cy sh ad n X A z (pc + 1) lv (va :: st) v res) : tmG p l e R s m args below meth c cells slots Q nL D cy sh ad n X A z pc lv (.int i :: .ref t :: st) v (tm_g (tm_ix i N) res) := tg_g fun hi hz H locs ls hP hS hL => vb_tq C0.1 C0.2.1 hT hS (tm_ixin hi) hv hdg (k hi hz H locs ls hP hS hL)
theorem ty_nnN {off : Int} (C0 : tmC p s m args meth c cc nL ret own Ts NW D cy sh ad n X A) (hdg : decode cc pc = .ok (.ifnonnull off, 3)) (k : tmG p l e R s m args below meth c cells slots Q nL D cy sh ad n X A z (pc + 3) lv st v res) : tmG p l e R s m args below meth c cells slots Q nL D cy sh ad n X A z pc lv (.null :: st) v res := fun hz H locs ls hP hS hL => lv_ifnonnullN C0.1 C0.2.1 hdg (k hz H locs ls hP hS hL)
theorem ty_nn {off : Int} {x : Nat} (tgt : Nat) (C0 : tmC p s m args meth c cc nL ret own Ts NW D cy sh ad n X A) (hdg : decode cc pc = .ok (.ifnonnull off, 3)) (ht : (pc : Int) + off = (tgt : Int)) (k : tmG p l e R s m args below meth c cells slots Q nL D cy sh ad n X A z tgt lv st v res) : tmG p l e R s m args below meth c cells slots Q nL D cy sh ad n X A z pc lv (.ref x :: st) v res := fun hz H locs ls hP hS hL => lv_ifnonnull C0.1 C0.2.1 hdg ht (k hz H locs ls hP hS hL)
theorem ty_aloadN (j : Nat) {k0 : Fin 4} {i : Nat} (C0 : tmC p s m args meth c cc nL ret own Ts NW D cy sh ad n X A) (hdg : decode cc pc = .ok (.aload_n k0, 1)) (hi : (k0 : Nat) = i) (hl : lv[j]? = some (i, .null)) (k : tmG p l e R s m args below meth c cells slots Q nL D cy sh ad n X A z (pc + 1) lv (.null :: st) v res) : tmG p l e R s m args below meth c cells slots Q nL D cy sh ad n X A z pc lv st v res := fun hz H locs ls hP hS hL => lv_aload_nN C0.1 C0.2.1 hdg hi (lv_at hL j hl) (k hz H locs ls hP hS hL)
theorem ty_astoreN (lv' : List (Nat × Value)) {k0 : Fin 4} {i : Nat} (C0 : tmC p s m args meth c cc nL ret own Ts NW D cy sh ad n X A) (hdg : decode cc pc = .ok (.astore_n k0, 1)) (hi : (k0 : Nat) = i) (hn : i < nL) (hl : (i, Value.null) :: lv.filter (fun q => !(q.1 == i) && !(q.1 + 1 == i && q.2.category == 2)) = lv') (k : tmG p l e R s m args below meth c cells slots Q nL D cy sh ad n X A z (pc + 1) lv' st v res) : tmG p l e R s m args below meth c cells slots Q nL D cy sh ad n X A z pc lv (.null :: st) v res := fun hz H locs ls hP hS hL => lv_astore_nN C0.1 C0.2.1 hdg hi hL hn hl (fun ls' hL' => k hz H locs ls' hP hS hL')
theorem ty_ldcws {is a : Nat} {tx : String} (C0 : tmC p s m args meth c cc nL ret own Ts NW D cy sh ad n X A) (hdg : decode cc pc = .ok (.ldc_w is, 3)) (hstr : vk_R own is tx a s) (k : tmG p l e R s m args below meth c cells slots Q nL D cy sh ad n X A z (pc + 3) lv (.ref a :: st) v res) : tmG p l e R s m args below meth c cells slots Q nL D cy sh ad n X A z pc lv st v res := fun hz H locs ls hP hS hL T hT X => by
  obtain ⟨t, a1, b1⟩ := k hz H locs ls hP hS hL T hT X
  exact ⟨t, X.ldcStringW C0.1 C0.2.2.2.2.2.1 (text := tx) (a := a) hstr.1 hstr.2 (g := F0 m pc ls st) rfl (by rw [C0.2.1]; exact hdg) t a1, b1⟩
theorem ty_ldcs {is a : Nat} {tx : String} (C0 : tmC p s m args meth c cc nL ret own Ts NW D cy sh ad n X A) (hdg : decode cc pc = .ok (.ldc is, 2)) (hstr : vk_R own is tx a s) (k : tmG p l e R s m args below meth c cells slots Q nL D cy sh ad n X A z (pc + 2) lv (.ref a :: st) v res) : tmG p l e R s m args below meth c cells slots Q nL D cy sh ad n X A z pc lv st v res := fun hz H locs ls hP hS hL => va_ldcS C0.1 C0.2.1 C0.2.2.2.2.2.1 hstr hdg (k hz H locs ls hP hS hL)
end TMY
section TMYR
variable {p : Program} {l : Launch} {e : Env} {R : Room} {s : State} {m : MethodId} {args : Array Value} {below : List Frame} {meth : Method} {c : Code} {cells slots : Nat} {Q : State → Prop} {cc : ByteArray} {nL : Nat} {ret : Option FieldType} {own : String} {Ts : List Cond} {NW : List Cond} {D : va_G} {cy : Nat → ClassId} {sh : Nat → tmE} {ad : Nat → Nat} {n : Nat} {A : Nat → Prop} {adK adV adE : Nat → Nat} {tC : Nat}
variable {β : Type} {pc : Nat} {lv : List (Nat × Value)} {st : List Value} {v : tmM}
/-- receivers: a cell of the world; a text -/
theorem tm_rvW {cl0 : Nat} {C : String} {T : u_T} {N k0 : Nat} {fs : List (Option Nat)} (C0 : tmC p s m args meth c cc nL ret own Ts NW D cy sh ad n [] A) (hk : k0 < n) (hsh : sh k0 = .inr (.inr (cl0, fs))) (hc : vwCl[cl0]? = some (C, T, N)) : ∀ (H : Heap) (locs : List Loc), va_P D vwCl (tm_w cy sh ad n v ++ []) H → va_S A s.heap H locs → ∃ cell : Cell, H[ad k0]? = some cell ∧ cell.vm.isStatics = false ∧ s.vm.findClass C = some cell.cls := by
  intro H locs hP hS
  have ha := tm_wget (cy := cy) (sh := sh) (ad := ad) (v := v) (X := []) hk
  rw [hsh] at ha
  exact va_recv C0.2.2.2.2.2.2.2.1 hP hc ha
theorem tm_rvS {i : Nat} (hE : tmSc adK adV adE tC A s s.heap) (hi : i < 15) : ∀ (H : Heap) (locs : List Loc), va_P D vwCl (tm_w cy sh ad n v ++ []) H → va_S A s.heap H locs → ∃ cell : Cell, H[adK i]? = some cell ∧ cell.vm.isStatics = false ∧ s.vm.findClass "java/lang/String" = some cell.cls := fun H locs hP hS => vk_recv hE.1 hi hS
theorem tg_cret {z : Int32 × tmM} {x : Int32} (C0 : tmC p s m args meth c cc nL (some .char) own Ts NW D cy sh ad n [] A) (hdg : decode cc pc = .ok (.ireturn, 1)) : tmG p l e R s m args below meth c 0 0 (MQ below (va_Qi (fun r u => z = (r, u)) (tmAt sh n D cy ad A) A) args s 0 0 A) nL D cy sh ad n [] A z pc lv [.int x] v (tm_g (tm_ci x) (some (x, v))) := tg_g fun hx => tg_zret C0 hdg (tm_cin hx)
theorem ty_aretS {z : Option Nat × tmM} {i : Nat} {C : String} (C0 : tmC p s m args meth c cc nL (some (.object C)) own Ts NW D cy sh ad n [] A) (hdg : decode cc pc = .ok (.areturn, 1)) : tmG p l e R s m args below meth c 0 0 (MQ below (va_Qe adE (fun r u => z = (r, u)) (tmAt sh n D cy ad A) A) args s 0 0 A) nL D cy sh ad n [] A z pc lv [.ref (adE i)] v (some (some i, v)) := fun hz H locs ls hP hS hL => W.aret C0.1 C0.2.1 C0.2.2.2.1 (Or.inl ⟨_, rfl⟩) (Or.inr ⟨_, rfl⟩) (fun t ht hW => ⟨⟨some i, v, rfl, (Option.some.inj hz).symm, by rw [ht]; exact tm_Pleft hP, tm_Dleft C0.dd⟩, hS.F ht⟩) hS.2.2 hdg C0.2.2.2.2.1
theorem ty_aretN {z : Option Nat × tmM} {C : String} (C0 : tmC p s m args meth c cc nL (some (.object C)) own Ts NW D cy sh ad n [] A) (hdg : decode cc pc = .ok (.areturn, 1)) : tmG p l e R s m args below meth c 0 0 (MQ below (va_Qe adE (fun r u => z = (r, u)) (tmAt sh n D cy ad A) A) args s 0 0 A) nL D cy sh ad n [] A z pc lv [.null] v (some (none, v)) := fun hz H locs ls hP hS hL => W.aret C0.1 C0.2.1 C0.2.2.2.1 (Or.inl ⟨_, rfl⟩) (Or.inl rfl) (fun t ht hW => ⟨⟨none, v, rfl, (Option.some.inj hz).symm, by rw [ht]; exact tm_Pleft hP, tm_Dleft C0.dd⟩, hS.F ht⟩) hS.2.2 hdg C0.2.2.2.2.1
def tm_oc {β : Type} (r : Option Nat) (a : Option β) (b : Nat → Option β) : Option β := match r with
  | none => a
  | some i => b i

theorem tmYi.of {y : MethodName} {ws : List Cond} {rm : Room} {av : (Nat → Nat) → List Value} {o : Option (Int32 × tmM)} {rty : FieldType} (hy : plainName y.cls = true) (hw : ws = Cond.code y cc nL (some rty) :: Ts) (hn : NW.all tm_isN = true) (hlen : ∀ ad : Nat → Nat, (lg_sl (av ad)).length ≤ nL)
    (h : ∀ (p : Program) (e : Env) (s : State) (m : MethodId) (args : Array Value) (below : List Frame) (meth : Method) (c : Code) (A : Nat → Prop) (D : va_G) (cy : Nat → ClassId) (ad : Nat → Nat) (z : Int32 × tmM), tmC p s m args meth c cc nL (some rty) y.cls Ts NW D cy sh ad n [] A → tmSc adK adV adE tC A s s.heap → tmG p l e rm s m args below meth c 0 0 (MQ below (va_Qi (fun r u => z = (r, u)) (tmAt sh n D cy ad A) A) args s 0 0 A) nL D cy sh ad n [] A z 0 (lv_args 0 (av ad)) [] v o) : tmYi NW sh n l adK adV adE tC y ws rm av v o := by
  intro D cy ad sz z hz
  refine Met.ofW (cc := cc) (maxL := nL) (ret := (some rty)) hy hw ?_
  intro p e s m args below meth c s₁ B hml hv
  obtain ⟨rfl, ⟨hsz, hP, hK, hN, hD0⟩, hE⟩ := hv
  have hx := B.exec
  have hb := B.bytes
  have hr := B.returns
  have hts : ∀ w ∈ Ts, w.before _ s = true := fun w h => atoms_spec (ws := ws) B.pre w (by rw [hw]; exact List.mem_cons_of_mem _ h)
  have hown : s.vm.findClass y.cls = some m.cls := findClass_of_methodNamed B.named
  have hlocks := B.notSynchronized
  subst hsz
  have hD := hD0.self (sz := s.heap.size)
  generalize hAe : va_A (tm_w cy sh ad n v) s.heap.size = A at hD hE ⊢
  have hA : ∀ q : Nat, s.heap.size ≤ q → A q := fun q h => by rw [← hAe]; exact Or.inr h
  have hl := lv_entry (av ad) (n := nL) (hlen ad)
  rw [lg_entry_eq]
  exact h p e s m _ below meth c A D cy ad z ⟨hx, hb, hml, hr, hlocks, hown, hts, hK, hN, hn, by rw [List.append_nil]; exact tm_Dw hD, hA⟩ hE hz s.heap [] _ (by rw [List.append_nil]; exact hP) va_S.rf hl
theorem tmYv.of {y : MethodName} {ws : List Cond} {rm : Room} {av : (Nat → Nat) → List Value} {o : Option (Unit × tmM)} (hy : plainName y.cls = true) (hw : ws = Cond.code y cc nL none :: Ts) (hn : NW.all tm_isN = true) (hlen : ∀ ad : Nat → Nat, (lg_sl (av ad)).length ≤ nL)
    (h : ∀ (p : Program) (e : Env) (s : State) (m : MethodId) (args : Array Value) (below : List Frame) (meth : Method) (c : Code) (A : Nat → Prop) (D : va_G) (cy : Nat → ClassId) (ad : Nat → Nat) (z : Unit × tmM), tmC p s m args meth c cc nL none y.cls Ts NW D cy sh ad n [] A → tmSc adK adV adE tC A s s.heap → tmG p l e rm s m args below meth c 0 0 (MQ below (va_Qv (fun u => z = ((), u)) (tmAt sh n D cy ad A) A) args s 0 0 A) nL D cy sh ad n [] A z 0 (lv_args 0 (av ad)) [] v o) : tmYv NW sh n l adK adV adE tC y ws rm av v o := by
  intro D cy ad sz z hz
  refine Met.ofW (cc := cc) (maxL := nL) (ret := none) hy hw ?_
  intro p e s m args below meth c s₁ B hml hv
  obtain ⟨rfl, ⟨hsz, hP, hK, hN, hD0⟩, hE⟩ := hv
  have hx := B.exec
  have hb := B.bytes
  have hr := B.returns
  have hts : ∀ w ∈ Ts, w.before _ s = true := fun w h => atoms_spec (ws := ws) B.pre w (by rw [hw]; exact List.mem_cons_of_mem _ h)
  have hown : s.vm.findClass y.cls = some m.cls := findClass_of_methodNamed B.named
  have hlocks := B.notSynchronized
  subst hsz
  have hD := hD0.self (sz := s.heap.size)
  generalize hAe : va_A (tm_w cy sh ad n v) s.heap.size = A at hD hE ⊢
  have hA : ∀ q : Nat, s.heap.size ≤ q → A q := fun q h => by rw [← hAe]; exact Or.inr h
  have hl := lv_entry (av ad) (n := nL) (hlen ad)
  rw [lg_entry_eq]
  exact h p e s m _ below meth c A D cy ad z ⟨hx, hb, hml, hr, hlocks, hown, hts, hK, hN, hn, by rw [List.append_nil]; exact tm_Dw hD, hA⟩ hE hz s.heap [] _ (by rw [List.append_nil]; exact hP) va_S.rf hl
theorem tmYe.of {y : MethodName} {ws : List Cond} {rm : Room} {av : (Nat → Nat) → List Value} {o : Option (Option Nat × tmM)} {rty : FieldType} (hy : plainName y.cls = true) (hw : ws = Cond.code y cc nL (some rty) :: Ts) (hn : NW.all tm_isN = true) (hlen : ∀ ad : Nat → Nat, (lg_sl (av ad)).length ≤ nL)
    (h : ∀ (p : Program) (e : Env) (s : State) (m : MethodId) (args : Array Value) (below : List Frame) (meth : Method) (c : Code) (A : Nat → Prop) (D : va_G) (cy : Nat → ClassId) (ad : Nat → Nat) (z : Option Nat × tmM), tmC p s m args meth c cc nL (some rty) y.cls Ts NW D cy sh ad n [] A → tmSc adK adV adE tC A s s.heap → tmG p l e rm s m args below meth c 0 0 (MQ below (va_Qe adE (fun r u => z = (r, u)) (tmAt sh n D cy ad A) A) args s 0 0 A) nL D cy sh ad n [] A z 0 (lv_args 0 (av ad)) [] v o) : tmYe NW sh n l adK adV adE tC y ws rm av v o := by
  intro D cy ad sz z hz
  refine Met.ofW (cc := cc) (maxL := nL) (ret := (some rty)) hy hw ?_
  intro p e s m args below meth c s₁ B hml hv
  obtain ⟨rfl, ⟨hsz, hP, hK, hN, hD0⟩, hE⟩ := hv
  have hx := B.exec
  have hb := B.bytes
  have hr := B.returns
  have hts : ∀ w ∈ Ts, w.before _ s = true := fun w h => atoms_spec (ws := ws) B.pre w (by rw [hw]; exact List.mem_cons_of_mem _ h)
  have hown : s.vm.findClass y.cls = some m.cls := findClass_of_methodNamed B.named
  have hlocks := B.notSynchronized
  subst hsz
  have hD := hD0.self (sz := s.heap.size)
  generalize hAe : va_A (tm_w cy sh ad n v) s.heap.size = A at hD hE ⊢
  have hA : ∀ q : Nat, s.heap.size ≤ q → A q := fun q h => by rw [← hAe]; exact Or.inr h
  have hl := lv_entry (av ad) (n := nL) (hlen ad)
  rw [lg_entry_eq]
  exact h p e s m _ below meth c A D cy ad z ⟨hx, hb, hml, hr, hlocks, hown, hts, hK, hN, hn, by rw [List.append_nil]; exact tm_Dw hD, hA⟩ hE hz s.heap [] _ (by rw [List.append_nil]; exact hP) va_S.rf hl
theorem ty_callVi {b : Nat} {C : String} {z : β} {y : MethodName} {wsy ws' : List Cond} {rmy : Room} {av : (Nat → Nat) → List Value} {o : Option (Int32 × tmM)} {K : Int32 → tmM → Option β} {bytes : ByteArray} {maxL idx : Nat} {rt : Option FieldType} {As st0 : List Value} (na : Nat) (C0 : tmC p s m args meth c cc nL ret own Ts NW D cy sh ad n [] A) (hE : tmSc adK adV adE tC A s s.heap) (hdg : decode cc pc = .ok (.invokevirtual idx, 3)) (hM : tmYi NW sh n l adK adV adE tC y wsy rmy av v o) (hav : av ad = .ref b :: As) (hst : st0 = As.reverse ++ .ref b :: st) (hG : GoodIn Ts (wsV own idx C y wsy)) (hrv : ∀ (H : Heap) (locs : List Loc), va_P D vwCl (tm_w cy sh ad n v ++ []) H → va_S A s.heap H locs → ∃ cell : Cell, H[b]? = some cell ∧ cell.vm.isStatics = false ∧ s.vm.findClass C = some cell.cls) (hna : As.length = na) (hw : wsy = Cond.code y bytes maxL rt :: ws') (hrc : rmy.cells = 0) (hrs : rmy.slots = 0) (hd : y.cls = C ∧ y.cls ≠ "java/lang/invoke/MethodHandle" ∧ y.cls ≠ "java/lang/invoke/VarHandle" ∧ (parseMethodDescriptor y.desc).map (fun d => d.parameters.length) = some na) (hR : rmy.frames + 1 ≤ R.frames ∧ 8 + (maxL + 11) + rmy.locals ≤ R.locals) (hcat : (st.map fun v => v.category).sum ≤ 8) (hcs : cells ≤ R.cells ∧ slots ≤ R.slots) (k : ∀ (r : Int32) (v' : tmM), o = some (r, v') → tmG p l e R s m args below meth c cells slots Q nL D cy sh ad n [] A z (pc + 3) lv (.int r :: st) v' (K r v')) : tmG p l e R s m args below meth c cells slots Q nL D cy sh ad n [] A z pc lv st0 v (tm_cl o K) := by
  intro hz
  cases ho : o with
  | none => rw [ho] at hz; cases hz
  | some y0 =>
    rw [ho] at hz
    intro H locs ls hP hS hL
    obtain ⟨r0, v0⟩ := y0
    have hMet := hM D cy ad H.size (r0, v0) ho
    have hts := C0.2.2.2.2.2.2.1
    have hF := tm_free (w1 := tm_w cy sh ad n v) (w2 := []) C0.dd hS C0.2.2.2.2.2.2.2.2.2.2.2
    subst hst
    refine va_calli (va_runV (As := As) (rest := st) ⟨C0.1, C0.2.1, C0.2.2.1, C0.2.2.2.2.2.1, hts⟩ hMet (cwV na hts hG hw hrc hrs hd hR) ⟨tmYP.blind C0.2.2.2.2.2.2.2.2.2.1 _, hrv H locs hP hS, fun U hU hW => ⟨by rw [hav], ⟨by rw [hU], by rw [hU]; exact tm_Pleft hP, va_K.moved hW.alike C0.2.2.2.2.2.2.2.1, tmNs.warm C0.2.2.2.2.2.2.2.2.2.1 hW C0.2.2.2.2.2.2.2.2.1, (tm_Dleft C0.dd).weaken (fun _ _ _ _ => trivial)⟩, hE.go hS hF hU hW⟩⟩ rfl hna hL.1 rfl (lv_room hcat) hdg ⟨hcs.1, hcs.2⟩) hS (fun q _ h => hF q h) hF (fun r u t H1 locs1 ht hvm hw2 hB hz1 hk1 hS1 => ?_)
    obtain ⟨hP1, hD1⟩ := hB
    rw [ht] at hP1
    cases hw2
    have hj := tm_join hP C0.dd hk1 hF hP1 hD1
    exact k _ _ ho hz H1 locs1 ls hj.1 hS1 hL
theorem ty_callVv {b : Nat} {C : String} {z : β} {y : MethodName} {wsy ws' : List Cond} {rmy : Room} {av : (Nat → Nat) → List Value} {o : Option (Unit × tmM)} {K : Unit → tmM → Option β} {bytes : ByteArray} {maxL idx : Nat} {rt : Option FieldType} {As st0 : List Value} (na : Nat) (C0 : tmC p s m args meth c cc nL ret own Ts NW D cy sh ad n [] A) (hE : tmSc adK adV adE tC A s s.heap) (hdg : decode cc pc = .ok (.invokevirtual idx, 3)) (hM : tmYv NW sh n l adK adV adE tC y wsy rmy av v o) (hav : av ad = .ref b :: As) (hst : st0 = As.reverse ++ .ref b :: st) (hG : GoodIn Ts (wsV own idx C y wsy)) (hrv : ∀ (H : Heap) (locs : List Loc), va_P D vwCl (tm_w cy sh ad n v ++ []) H → va_S A s.heap H locs → ∃ cell : Cell, H[b]? = some cell ∧ cell.vm.isStatics = false ∧ s.vm.findClass C = some cell.cls) (hna : As.length = na) (hw : wsy = Cond.code y bytes maxL rt :: ws') (hrc : rmy.cells = 0) (hrs : rmy.slots = 0) (hd : y.cls = C ∧ y.cls ≠ "java/lang/invoke/MethodHandle" ∧ y.cls ≠ "java/lang/invoke/VarHandle" ∧ (parseMethodDescriptor y.desc).map (fun d => d.parameters.length) = some na) (hR : rmy.frames + 1 ≤ R.frames ∧ 8 + (maxL + 11) + rmy.locals ≤ R.locals) (hcat : (st.map fun v => v.category).sum ≤ 8) (hcs : cells ≤ R.cells ∧ slots ≤ R.slots) (k : ∀ (v' : tmM), o = some ((), v') → tmG p l e R s m args below meth c cells slots Q nL D cy sh ad n [] A z (pc + 3) lv st v' (K () v')) : tmG p l e R s m args below meth c cells slots Q nL D cy sh ad n [] A z pc lv st0 v (tm_cl o K) := by
  intro hz
  cases ho : o with
  | none => rw [ho] at hz; cases hz
  | some y0 =>
    rw [ho] at hz
    intro H locs ls hP hS hL
    obtain ⟨r0, v0⟩ := y0
    have hMet := hM D cy ad H.size (r0, v0) ho
    have hts := C0.2.2.2.2.2.2.1
    have hF := tm_free (w1 := tm_w cy sh ad n v) (w2 := []) C0.dd hS C0.2.2.2.2.2.2.2.2.2.2.2
    subst hst
    refine va_callv (va_runV (As := As) (rest := st) ⟨C0.1, C0.2.1, C0.2.2.1, C0.2.2.2.2.2.1, hts⟩ hMet (cwV na hts hG hw hrc hrs hd hR) ⟨tmYP.blind C0.2.2.2.2.2.2.2.2.2.1 _, hrv H locs hP hS, fun U hU hW => ⟨by rw [hav], ⟨by rw [hU], by rw [hU]; exact tm_Pleft hP, va_K.moved hW.alike C0.2.2.2.2.2.2.2.1, tmNs.warm C0.2.2.2.2.2.2.2.2.2.1 hW C0.2.2.2.2.2.2.2.2.1, (tm_Dleft C0.dd).weaken (fun _ _ _ _ => trivial)⟩, hE.go hS hF hU hW⟩⟩ rfl hna hL.1 rfl (lv_room hcat) hdg ⟨hcs.1, hcs.2⟩) hS (fun q _ h => hF q h) hF (fun u t H1 locs1 ht hvm hw2 hB hz1 hk1 hS1 => ?_)
    obtain ⟨hP1, hD1⟩ := hB
    rw [ht] at hP1
    cases hw2
    have hj := tm_join hP C0.dd hk1 hF hP1 hD1
    exact k _ ho hz H1 locs1 ls hj.1 hS1 hL
theorem ty_callVe {b : Nat} {C : String} {z : β} {y : MethodName} {wsy ws' : List Cond} {rmy : Room} {av : (Nat → Nat) → List Value} {o : Option (Option Nat × tmM)} {Ka : tmM → Option β} {Kb : Nat → tmM → Option β} {bytes : ByteArray} {maxL idx : Nat} {rt : Option FieldType} {As st0 : List Value} (na : Nat) (C0 : tmC p s m args meth c cc nL ret own Ts NW D cy sh ad n [] A) (hE : tmSc adK adV adE tC A s s.heap) (hdg : decode cc pc = .ok (.invokevirtual idx, 3)) (hM : tmYe NW sh n l adK adV adE tC y wsy rmy av v o) (hav : av ad = .ref b :: As) (hst : st0 = As.reverse ++ .ref b :: st) (hG : GoodIn Ts (wsV own idx C y wsy)) (hrv : ∀ (H : Heap) (locs : List Loc), va_P D vwCl (tm_w cy sh ad n v ++ []) H → va_S A s.heap H locs → ∃ cell : Cell, H[b]? = some cell ∧ cell.vm.isStatics = false ∧ s.vm.findClass C = some cell.cls) (hna : As.length = na) (hw : wsy = Cond.code y bytes maxL rt :: ws') (hrc : rmy.cells = 0) (hrs : rmy.slots = 0) (hd : y.cls = C ∧ y.cls ≠ "java/lang/invoke/MethodHandle" ∧ y.cls ≠ "java/lang/invoke/VarHandle" ∧ (parseMethodDescriptor y.desc).map (fun d => d.parameters.length) = some na) (hR : rmy.frames + 1 ≤ R.frames ∧ 8 + (maxL + 11) + rmy.locals ≤ R.locals) (hcat : (st.map fun v => v.category).sum ≤ 8) (hcs : cells ≤ R.cells ∧ slots ≤ R.slots) (kn : ∀ (v' : tmM), o = some (none, v') → tmG p l e R s m args below meth c cells slots Q nL D cy sh ad n [] A z (pc + 3) lv (.null :: st) v' (Ka v')) (ks : ∀ (i : Nat) (v' : tmM), o = some (some i, v') → tmG p l e R s m args below meth c cells slots Q nL D cy sh ad n [] A z (pc + 3) lv (.ref (adE i) :: st) v' (Kb i v')) : tmG p l e R s m args below meth c cells slots Q nL D cy sh ad n [] A z pc lv st0 v (tm_cl o (fun r v' => tm_oc r (Ka v') (fun i => Kb i v'))) := by
  intro hz
  cases ho : o with
  | none => rw [ho] at hz; cases hz
  | some y0 =>
    rw [ho] at hz
    intro H locs ls hP hS hL
    obtain ⟨r0, v0⟩ := y0
    have hMet := hM D cy ad H.size (r0, v0) ho
    have hts := C0.2.2.2.2.2.2.1
    have hF := tm_free (w1 := tm_w cy sh ad n v) (w2 := []) C0.dd hS C0.2.2.2.2.2.2.2.2.2.2.2
    subst hst
    refine va_calle (va_runV (As := As) (rest := st) ⟨C0.1, C0.2.1, C0.2.2.1, C0.2.2.2.2.2.1, hts⟩ hMet (cwV na hts hG hw hrc hrs hd hR) ⟨tmYP.blind C0.2.2.2.2.2.2.2.2.2.1 _, hrv H locs hP hS, fun U hU hW => ⟨by rw [hav], ⟨by rw [hU], by rw [hU]; exact tm_Pleft hP, va_K.moved hW.alike C0.2.2.2.2.2.2.2.1, tmNs.warm C0.2.2.2.2.2.2.2.2.2.1 hW C0.2.2.2.2.2.2.2.2.1, (tm_Dleft C0.dd).weaken (fun _ _ _ _ => trivial)⟩, hE.go hS hF hU hW⟩⟩ rfl hna hL.1 rfl (lv_room hcat) hdg ⟨hcs.1, hcs.2⟩) hS (fun q _ h => hF q h) hF (fun r u t H1 locs1 ht hvm hw2 hB hz1 hk1 hS1 => ?_)
    obtain ⟨hP1, hD1⟩ := hB
    rw [ht] at hP1
    cases hw2
    have hj := tm_join hP C0.dd hk1 hF hP1 hD1
    cases r0 with
    | none => exact kn _ ho hz H1 locs1 ls hj.1 hS1 hL
    | some i => exact ks i _ ho hz H1 locs1 ls hj.1 hS1 hL
theorem ty_callSi {z : β} {y : MethodName} {wsy ws' : List Cond} {rmy : Room} {av : (Nat → Nat) → List Value} {o : Option (Int32 × tmM)} {K : Int32 → tmM → Option β} {bytes : ByteArray} {maxL idx : Nat} {rt : Option FieldType} {As st0 : List Value} (na : Nat) (C0 : tmC p s m args meth c cc nL ret own Ts NW D cy sh ad n [] A) (hE : tmSc adK adV adE tC A s s.heap) (hdg : decode cc pc = .ok (.invokestatic idx, 3)) (hM : tmYi NW sh n l adK adV adE tC y wsy rmy av v o) (hav : av ad = As) (hst : st0 = As.reverse ++ st) (hG : GoodIn Ts wsy) (hlink : Cond.methodLink own idx y ∈ Ts) (hini : Cond.initialized y.cls ∈ Ts) (hstat : Cond.static y ∈ Ts) (hna : As.length = na) (hw : wsy = Cond.code y bytes maxL rt :: ws') (hrc : rmy.cells = 0) (hrs : rmy.slots = 0) (hd : y.cls ≠ "java/lang/invoke/MethodHandle" ∧ y.cls ≠ "java/lang/invoke/VarHandle" ∧ (parseMethodDescriptor y.desc).map (fun d => d.parameters.length) = some na) (hR : rmy.frames + 1 ≤ R.frames ∧ 8 + (maxL + 11) + rmy.locals ≤ R.locals) (hcat : (st.map fun v => v.category).sum ≤ 8) (hcs : cells ≤ R.cells ∧ slots ≤ R.slots) (k : ∀ (r : Int32) (v' : tmM), o = some (r, v') → tmG p l e R s m args below meth c cells slots Q nL D cy sh ad n [] A z (pc + 3) lv (.int r :: st) v' (K r v')) : tmG p l e R s m args below meth c cells slots Q nL D cy sh ad n [] A z pc lv st0 v (tm_cl o K) := by
  intro hz
  cases ho : o with
  | none => rw [ho] at hz; cases hz
  | some y0 =>
    rw [ho] at hz
    intro H locs ls hP hS hL
    obtain ⟨r0, v0⟩ := y0
    have hMet := hM D cy ad H.size (r0, v0) ho
    have hts := C0.2.2.2.2.2.2.1
    have hF := tm_free (w1 := tm_w cy sh ad n v) (w2 := []) C0.dd hS C0.2.2.2.2.2.2.2.2.2.2.2
    subst hst
    refine va_calli (va_runS (As := As) (rest := st) ⟨C0.1, C0.2.1, C0.2.2.1, C0.2.2.2.2.2.1, hts⟩ hMet ⟨callB_of na hts hG hw hrc hrs (hts _ hini) (hts _ hlink) hd hR, hts _ hstat⟩ ⟨tmYP.blind C0.2.2.2.2.2.2.2.2.2.1 _, fun U hU hW => ⟨by rw [hav], ⟨by rw [hU], by rw [hU]; exact tm_Pleft hP, va_K.moved hW.alike C0.2.2.2.2.2.2.2.1, tmNs.warm C0.2.2.2.2.2.2.2.2.2.1 hW C0.2.2.2.2.2.2.2.2.1, (tm_Dleft C0.dd).weaken (fun _ _ _ _ => trivial)⟩, hE.go hS hF hU hW⟩⟩ rfl hna hL.1 rfl (lv_room hcat) hdg ⟨hcs.1, hcs.2⟩) hS (fun q _ h => hF q h) hF (fun r u t H1 locs1 ht hvm hw2 hB hz1 hk1 hS1 => ?_)
    obtain ⟨hP1, hD1⟩ := hB
    rw [ht] at hP1
    cases hw2
    have hj := tm_join hP C0.dd hk1 hF hP1 hD1
    exact k _ _ ho hz H1 locs1 ls hj.1 hS1 hL
theorem ty_callSv {z : β} {y : MethodName} {wsy ws' : List Cond} {rmy : Room} {av : (Nat → Nat) → List Value} {o : Option (Unit × tmM)} {K : Unit → tmM → Option β} {bytes : ByteArray} {maxL idx : Nat} {rt : Option FieldType} {As st0 : List Value} (na : Nat) (C0 : tmC p s m args meth c cc nL ret own Ts NW D cy sh ad n [] A) (hE : tmSc adK adV adE tC A s s.heap) (hdg : decode cc pc = .ok (.invokestatic idx, 3)) (hM : tmYv NW sh n l adK adV adE tC y wsy rmy av v o) (hav : av ad = As) (hst : st0 = As.reverse ++ st) (hG : GoodIn Ts wsy) (hlink : Cond.methodLink own idx y ∈ Ts) (hini : Cond.initialized y.cls ∈ Ts) (hstat : Cond.static y ∈ Ts) (hna : As.length = na) (hw : wsy = Cond.code y bytes maxL rt :: ws') (hrc : rmy.cells = 0) (hrs : rmy.slots = 0) (hd : y.cls ≠ "java/lang/invoke/MethodHandle" ∧ y.cls ≠ "java/lang/invoke/VarHandle" ∧ (parseMethodDescriptor y.desc).map (fun d => d.parameters.length) = some na) (hR : rmy.frames + 1 ≤ R.frames ∧ 8 + (maxL + 11) + rmy.locals ≤ R.locals) (hcat : (st.map fun v => v.category).sum ≤ 8) (hcs : cells ≤ R.cells ∧ slots ≤ R.slots) (k : ∀ (v' : tmM), o = some ((), v') → tmG p l e R s m args below meth c cells slots Q nL D cy sh ad n [] A z (pc + 3) lv st v' (K () v')) : tmG p l e R s m args below meth c cells slots Q nL D cy sh ad n [] A z pc lv st0 v (tm_cl o K) := by
  intro hz
  cases ho : o with
  | none => rw [ho] at hz; cases hz
  | some y0 =>
    rw [ho] at hz
    intro H locs ls hP hS hL
    obtain ⟨r0, v0⟩ := y0
    have hMet := hM D cy ad H.size (r0, v0) ho
    have hts := C0.2.2.2.2.2.2.1
    have hF := tm_free (w1 := tm_w cy sh ad n v) (w2 := []) C0.dd hS C0.2.2.2.2.2.2.2.2.2.2.2
    subst hst
    refine va_callv (va_runS (As := As) (rest := st) ⟨C0.1, C0.2.1, C0.2.2.1, C0.2.2.2.2.2.1, hts⟩ hMet ⟨callB_of na hts hG hw hrc hrs (hts _ hini) (hts _ hlink) hd hR, hts _ hstat⟩ ⟨tmYP.blind C0.2.2.2.2.2.2.2.2.2.1 _, fun U hU hW => ⟨by rw [hav], ⟨by rw [hU], by rw [hU]; exact tm_Pleft hP, va_K.moved hW.alike C0.2.2.2.2.2.2.2.1, tmNs.warm C0.2.2.2.2.2.2.2.2.2.1 hW C0.2.2.2.2.2.2.2.2.1, (tm_Dleft C0.dd).weaken (fun _ _ _ _ => trivial)⟩, hE.go hS hF hU hW⟩⟩ rfl hna hL.1 rfl (lv_room hcat) hdg ⟨hcs.1, hcs.2⟩) hS (fun q _ h => hF q h) hF (fun u t H1 locs1 ht hvm hw2 hB hz1 hk1 hS1 => ?_)
    obtain ⟨hP1, hD1⟩ := hB
    rw [ht] at hP1
    cases hw2
    have hj := tm_join hP C0.dd hk1 hF hP1 hD1
    exact k _ ho hz H1 locs1 ls hj.1 hS1 hL
end TMYR
