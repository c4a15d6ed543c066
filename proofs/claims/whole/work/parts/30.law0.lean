/-! ===== THE LAW'S WORLD: the class's cells, its text, the reference's cells, the two rows for answers ===== -/
/-- castable words of the three exceptions -/
def tl_NW : List Cond := [.castable (tm_ex 0) (tm_ex 0), .castable (tm_ex 1) (tm_ex 1), .castable (tm_ex 2) (tm_ex 2)]
theorem tl_NW_ok : tl_NW.all tm_isN = true := rfl
def tl_tys (cy : Nat → ClassId) (cL cD : ClassId) : List (ClassId × FieldType) := tm_tys cy ++ [(cL, .long), (cD, .double)]
def tlF (D : va_G) (cy : Nat → ClassId) (cL cD : ClassId) (U : State) : Prop := va_K D vwCl (tl_tys cy cL cD) U ∧ tmNs tl_NW U ∧ ∀ i j, i < 3 → j < 3 → i ≠ j → va_Nc (tm_ex i) (tm_ex j) U
theorem tlF.alike {D : va_G} {cy : Nat → ClassId} {cL cD : ClassId} {s U : State} (hW : s.WarmedH U.vm) (h : tlF D cy cL cD s) : tlF D cy cL cD U := ⟨va_K.moved hW.alike h.1, tmNs.warm tl_NW_ok hW h.2.1, fun i j hi hj hij => va_Nc.moved hW.alike (h.2.2 i j hi hj hij)⟩
theorem tlF.call {D : va_G} {cy : Nat → ClassId} {cL cD : ClassId} {U : State} {g : JFrame} {mk : MethodId} {a : Array Value} (h : tlF D cy cL cD U) : tlF D cy cL cD (U.calling g mk a) := ⟨va_K.moved (u := U) (U := U.calling g mk a) (Vm.Alike.refl U.vm) h.1, tmNs.same (u := U) tl_NW_ok rfl h.2.1, fun i j hi hj hij => va_Nc.moved (u := U) (U := U.calling g mk a) (Vm.Alike.refl U.vm) (h.2.2 i j hi hj hij)⟩
def tl_L (xo : Int64) : Nat → Int64 := fun j => if j = 0 then xo else 0
def tl_D (xd : UInt64) : Nat → UInt64 := fun j => if j = 0 then xd else 0
def tlO (o1 o2 : Nat) (cL cD : ClassId) (xo : Int64) (xd : UInt64) : va_W := [(o1, .inl (cL, 1, .inr (.inl (tl_L xo)))), (o2, .inl (cD, 1, .inr (.inr (.inr (.inl (tl_D xd))))))]
def tlW (cy : Nat → ClassId) (ad ar : Nat → Nat) (o1 o2 : Nat) (cL cD : ClassId) (κ b0 : Nat) (u v w : tmM) (xo : Int64) (xd : UInt64) : va_W := (tm_w cy tm_shC ad 256 v ++ tmXB cy (ad 256) κ b0 u) ++ (tm_w cy tm_shR ar 13 w ++ tlO o1 o2 cL cD xo xd)
section TLW
variable {cy : Nat → ClassId} {ad ar : Nat → Nat} {o1 o2 : Nat} {cL cD : ClassId} {κ b0 : Nat} {u v w : tmM} {xo : Int64} {xd : UInt64}
theorem tl_len1 : (tm_w cy tm_shC ad 256 v ++ tmXB cy (ad 256) κ b0 u).length = 258 := by rw [List.length_append, tm_wlen]; rfl
theorem tl_get (j : Nat) : (tlW cy ad ar o1 o2 cL cD κ b0 u v w xo xd)[271 + j]? = (tlO o1 o2 cL cD xo xd)[j]? := by
  unfold tlW
  rw [List.getElem?_append_right (by rw [tl_len1]; omega), tl_len1, List.getElem?_append_right (by rw [tm_wlen]; omega), tm_wlen, show 271 + j - 258 - 13 = j by omega]
theorem tl_set (j : Nat) (e : Nat × va_E) : (tlW cy ad ar o1 o2 cL cD κ b0 u v w xo xd).set (271 + j) e = (tm_w cy tm_shC ad 256 v ++ tmXB cy (ad 256) κ b0 u) ++ (tm_w cy tm_shR ar 13 w ++ (tlO o1 o2 cL cD xo xd).set j e) := by
  unfold tlW
  rw [List.set_append_right _ _ (by rw [tl_len1]; omega), tl_len1, List.set_append_right _ _ (by rw [tm_wlen]; omega), tm_wlen, show 271 + j - 258 - 13 = j by omega]
theorem tl_setL (x : Int64) : (tlW cy ad ar o1 o2 cL cD κ b0 u v w xo xd).set 271 (o1, .inl (cL, 1, .inr (.inl (vp_updL (tl_L xo) 0 x)))) = tlW cy ad ar o1 o2 cL cD κ b0 u v w x xd := by
  rw [show (271 : Nat) = 271 + 0 from rfl, tl_set]
  have e : vp_updL (tl_L xo) 0 x = tl_L x := by
    funext j
    show (if j = 0 then x else if j = 0 then xo else 0) = if j = 0 then x else 0
    by_cases h : j = 0
    · rw [if_pos h, if_pos h]
    · rw [if_neg h, if_neg h, if_neg h]
  rw [e]
  rfl
theorem tl_setD (x : UInt64) : (tlW cy ad ar o1 o2 cL cD κ b0 u v w xo xd).set 272 (o2, .inl (cD, 1, .inr (.inr (.inr (.inl (vf_upd (tl_D xd) 0 x)))))) = tlW cy ad ar o1 o2 cL cD κ b0 u v w xo x := by
  rw [show (272 : Nat) = 271 + 1 from rfl, tl_set]
  have e : vf_upd (tl_D xd) 0 x = tl_D x := by
    funext j
    show (if j = 0 then x else if j = 0 then xd else 0) = if j = 0 then x else 0
    by_cases h : j = 0
    · rw [if_pos h, if_pos h]
    · rw [if_neg h, if_neg h, if_neg h]
  rw [e]
  rfl
end TLW
theorem tl_join {D : va_G} {A : Nat → Prop} {pre wc suf w1 : va_W} {H H1 : Heap} (hP : va_P D vwCl (pre ++ (wc ++ suf)) H) (hD : va_D A (pre ++ (wc ++ suf))) (hk : ∀ q : Nat, q < H.size → ¬ va_A wc H.size q → H1[q]? = H[q]?) (hF : ∀ q, va_A wc H.size q → A q) (hP1 : va_P D vwCl w1 H1) (hD1 : va_D (va_A wc H.size) w1) : va_P D vwCl (pre ++ (w1 ++ suf)) H1 ∧ va_D A (pre ++ (w1 ++ suf)) := by
  have h1 := tm_swapP hP
  have h2 := tm_swapD hD
  rw [List.append_assoc] at h1 h2
  have h := tm_join h1 h2 hk hF hP1 hD1
  rw [← List.append_assoc] at h
  exact ⟨tm_swapP h.1, tm_swapD h.2⟩
theorem tl_P {D : va_G} {pre wc suf : va_W} {H : Heap} (hP : va_P D vwCl (pre ++ (wc ++ suf)) H) : va_P D vwCl wc H := by
  have h1 := tm_swapP hP
  rw [List.append_assoc] at h1
  exact tm_Pleft h1
theorem tl_D1 {A : Nat → Prop} {pre wc suf : va_W} (hD : va_D A (pre ++ (wc ++ suf))) : va_D A (wc ++ (suf ++ pre)) := by
  have h2 := tm_swapD hD
  rw [List.append_assoc] at h2
  exact h2
section TL
variable {p : Program} {l : Launch} {e : Env} {R : Room} {s : State} {m : MethodId} {args : Array Value} {below : List Frame} {meth : Method} {c : Code} {cells slots mc ms : Nat} {Q : State → Prop} {cc : ByteArray} {nL : Nat} {ret : Option FieldType} {own : String} {D : va_G} {cy : Nat → ClassId} {A : Nat → Prop} {adK adV adE : Nat → Nat} {tC : Nat} {X X' : va_W} {pc : Nat} {lv lv' : List (Nat × Value)} {st : List Value} {β : Type} {z : β} {res : Option β}
theorem tl_X (hX : X = X') (k : tmG p l e R s m args below meth c cells slots Q nL D cy tm_s0 tm_a0 0 X' A z pc lv st tm_v0 res) : tmG p l e R s m args below meth c cells slots Q nL D cy tm_s0 tm_a0 0 X A z pc lv st tm_v0 res := hX ▸ k
theorem tl_widen {c2 s2 : Nat} (hc : cells ≤ c2) (hs : slots ≤ s2) (k : tmG p l e R s m args below meth c c2 s2 Q nL D cy tm_s0 tm_a0 0 X A z pc lv st tm_v0 res) : tmG p l e R s m args below meth c cells slots Q nL D cy tm_s0 tm_a0 0 X A z pc lv st tm_v0 res := fun hz H locs ls hP hS hL => W.widen hc hs (k hz H locs ls hP hS hL)
/-- a call of a method on a part of the world: its contract's Met, the part wc, what it leaves w1 -/
theorem tl_callV {S : Type} {C : String} {T : u_T} {N ci : Nat} {vs : List Value} {y : MethodName} {wsy ws' : List Cond} {rmy : Room} {bytes : ByteArray} {maxL idx b q0 : Nat} {rt : Option FieldType} {As st0 : List Value} {pre wc suf : va_W} {Pc : Array Value → State → Prop} {Qc : Array Value → State → Outcome → State → Prop} {mc1 ms1 : Nat} (na : Nat) (C0 : tmC p s m args meth c cc nL ret own TMW tm_NWC D cy tm_s0 tm_a0 0 X A) (hX : X = pre ++ (wc ++ suf)) {H : Heap} {locs : List Loc} {ls : Array Slot} (hP : va_P D vwCl X H) (hS : va_S A s.heap H locs) (hL : lv_has ls nL lv) (hdg : decode cc pc = .ok (.invokevirtual idx, 3)) (hM : Met l y wsy rmy Pc Qc mc1 ms1 (va_A wc H.size)) (hst : st0 = As.reverse ++ .ref b :: st) (ha : wc[q0]? = some (b, .inr (ci, vs))) (hc : vwCl[ci]? = some (C, T, N)) (hG : GoodIn TMW (wsV own idx C y wsy)) (hna : As.length = na) (hw : wsy = Cond.code y bytes maxL rt :: ws') (hrc : rmy.cells = mc1) (hrs : rmy.slots = ms1) (hd : y.cls = C ∧ y.cls ≠ "java/lang/invoke/MethodHandle" ∧ y.cls ≠ "java/lang/invoke/VarHandle" ∧ (parseMethodDescriptor y.desc).map (fun d => d.parameters.length) = some na) (hR : rmy.frames + 1 ≤ R.frames ∧ 8 + (maxL + 11) + rmy.locals ≤ R.locals) (hcat : (st.map fun v => v.category).sum ≤ 8) (hcs : cells + mc1 ≤ R.cells ∧ slots + ms1 ≤ R.slots) (hbl : FrameBlind Pc) (hpre : ∀ U : State, U.heap = H → s.WarmedH U.vm → va_P D vwCl wc H → va_K D vwCl (tm_tys cy) U → tmNs tm_NWC U → va_D (fun _ => True) wc → Pc (Value.ref b :: As).toArray U) : va_Run p l e R s m args below meth c H locs cells slots mc1 ms1 (F0 m pc ls st0) st (Qc (Value.ref b :: As).toArray) (va_A wc H.size) := by
  subst hX
  have hD : va_D A (pre ++ (wc ++ suf)) := C0.dd (v := tm_v0)
  have hts := C0.2.2.2.2.2.2.1
  subst hst
  exact va_runV (As := As) (rest := st) ⟨C0.1, C0.2.1, C0.2.2.1, C0.2.2.2.2.2.1, hts⟩ hM (cwV na hts hG hw hrc hrs hd hR) ⟨hbl, va_recv C0.2.2.2.2.2.2.2.1 (tl_P hP) hc ha, fun U hU hW => hpre U hU hW (tl_P hP) (va_K.moved hW.alike C0.2.2.2.2.2.2.2.1) (tmNs.warm C0.2.2.2.2.2.2.2.2.2.1 hW C0.2.2.2.2.2.2.2.2.1) ((tm_Dleft (tl_D1 hD)).weaken (fun _ _ _ _ => trivial))⟩ rfl hna hL.1 rfl (lv_room hcat) hdg hcs
theorem tl_fr {pre wc suf : va_W} (C0 : tmC p s m args meth c cc nL ret own TMW tm_NWC D cy tm_s0 tm_a0 0 X A) (hX : X = pre ++ (wc ++ suf)) {H : Heap} {locs : List Loc} (hS : va_S A s.heap H locs) : ∀ q, va_A wc H.size q → A q := by
  subst hX
  exact tm_free (tl_D1 (C0.dd (v := tm_v0))) hS C0.2.2.2.2.2.2.2.2.2.2.2
theorem tl_jn {pre wc suf w1 : va_W} (C0 : tmC p s m args meth c cc nL ret own TMW tm_NWC D cy tm_s0 tm_a0 0 X A) (hX : X = pre ++ (wc ++ suf)) (hX' : X' = pre ++ (w1 ++ suf)) {H H1 : Heap} {locs : List Loc} (hP : va_P D vwCl X H) (hS : va_S A s.heap H locs) (hk : ∀ q : Nat, q < H.size → ¬ va_A wc H.size q → H1[q]? = H[q]?) (hP1 : va_P D vwCl w1 H1) (hD1 : va_D (va_A wc H.size) w1) : va_P D vwCl X' H1 ∧ tmC p s m args meth c cc nL ret own TMW tm_NWC D cy tm_s0 tm_a0 0 X' A := by
  have hF := tl_fr C0 hX hS
  subst hX
  subst hX'
  have h := tl_join hP (C0.dd (v := tm_v0)) hk hF hP1 hD1
  exact ⟨h.1, C0.ad (v := tm_v0) h.2⟩
/-- methods on one side's cells, whose answer is known: an int -/
theorem tl_mi (k0 : Nat) {sh : Nat → tmE} {n : Nat} {ad : Nat → Nat} {v v' : tmM} {r : Int32} {NW1 : List Cond} {pre suf : va_W} {C : String} {T : u_T} {N ci idx : Nat} {fs : List (Option Nat)} {y : MethodName} {wsy ws' : List Cond} {rmy : Room} {av : (Nat → Nat) → List Value} {o : Option (Int32 × tmM)} {bytes : ByteArray} {maxL : Nat} {rt : Option FieldType} {As st0 : List Value} (na : Nat) (C0 : tmC p s m args meth c cc nL ret own TMW tm_NWC D cy tm_s0 tm_a0 0 X A) (hX : X = pre ++ (tm_w cy sh ad n v ++ suf)) (hX' : X' = pre ++ (tm_w cy sh ad n v' ++ suf)) (hN : ∀ U, tmNs tm_NWC U → tmNs NW1 U) (hn1 : NW1.all tm_isN = true) (hdg : decode cc pc = .ok (.invokevirtual idx, 3)) (hM : tmMi NW1 sh n l y wsy rmy av v o) (ho : o = some (r, v')) (hav : av ad = .ref (ad k0) :: As) (hst : st0 = As.reverse ++ .ref (ad k0) :: st) (hk : k0 < n) (hsh : sh k0 = .inr (.inr (ci, fs))) (hc : vwCl[ci]? = some (C, T, N)) (hG : GoodIn TMW (wsV own idx C y wsy)) (hna : As.length = na) (hw : wsy = Cond.code y bytes maxL rt :: ws') (hrc : rmy.cells = 0) (hrs : rmy.slots = 0) (hd : y.cls = C ∧ y.cls ≠ "java/lang/invoke/MethodHandle" ∧ y.cls ≠ "java/lang/invoke/VarHandle" ∧ (parseMethodDescriptor y.desc).map (fun d => d.parameters.length) = some na) (hR : rmy.frames + 1 ≤ R.frames ∧ 8 + (maxL + 11) + rmy.locals ≤ R.locals) (hcat : (st.map fun v => v.category).sum ≤ 8) (hcs : cells + 0 ≤ R.cells ∧ slots + 0 ≤ R.slots) (k : tmC p s m args meth c cc nL ret own TMW tm_NWC D cy tm_s0 tm_a0 0 X' A → tmG p l e R s m args below meth c cells slots Q nL D cy tm_s0 tm_a0 0 X' A z (pc + 3) lv (.int r :: st) tm_v0 res) : tmG p l e R s m args below meth c cells slots Q nL D cy tm_s0 tm_a0 0 X A z pc lv st0 tm_v0 res := fun hz H locs ls hP hS hL => by
  have hP : va_P D vwCl X H := hP
  have hF := tl_fr C0 hX hS
  refine va_calli (tl_callV (S := Unit) na C0 hX hP hS hL hdg (hM D cy ad H.size _ ho) hst (show (tm_w cy sh ad n v)[k0]? = some (ad k0, .inr (ci, tm_slots ad (v k0) 0 fs)) by have h := tm_wget (cy := cy) (sh := sh) (ad := ad) (v := v) (X := []) hk; rw [List.append_nil, hsh] at h; exact h) hc hG hna hw hrc hrs hd hR hcat hcs (tmPre.blind hn1 _) (fun U hU hW hP2 hK2 hN2 hD2 => ⟨by rw [hav], by rw [hU], by rw [hU]; exact hP2, hK2, hN U hN2, hD2⟩)) hS (fun q _ h => hF q h) hF (fun r1 u t H1 locs1 ht hvm hw2 hB hz1 hk1 hS1 => ?_)
  obtain ⟨hP1, hD1⟩ := hB
  rw [ht] at hP1
  cases hw2
  obtain ⟨hj, hC⟩ := tl_jn C0 hX hX' hP hS hk1 hP1 hD1
  exact k hC hz H1 locs1 ls hj hS1 hL
theorem tl_mv (k0 : Nat) {sh : Nat → tmE} {n : Nat} {ad : Nat → Nat} {v v' : tmM} {NW1 : List Cond} {pre suf : va_W} {C : String} {T : u_T} {N ci idx : Nat} {fs : List (Option Nat)} {y : MethodName} {wsy ws' : List Cond} {rmy : Room} {av : (Nat → Nat) → List Value} {o : Option (Unit × tmM)} {bytes : ByteArray} {maxL : Nat} {rt : Option FieldType} {As st0 : List Value} (na : Nat) (C0 : tmC p s m args meth c cc nL ret own TMW tm_NWC D cy tm_s0 tm_a0 0 X A) (hX : X = pre ++ (tm_w cy sh ad n v ++ suf)) (hX' : X' = pre ++ (tm_w cy sh ad n v' ++ suf)) (hN : ∀ U, tmNs tm_NWC U → tmNs NW1 U) (hn1 : NW1.all tm_isN = true) (hdg : decode cc pc = .ok (.invokevirtual idx, 3)) (hM : tmMv NW1 sh n l y wsy rmy av v o) (ho : o = some ((), v')) (hav : av ad = .ref (ad k0) :: As) (hst : st0 = As.reverse ++ .ref (ad k0) :: st) (hk : k0 < n) (hsh : sh k0 = .inr (.inr (ci, fs))) (hc : vwCl[ci]? = some (C, T, N)) (hG : GoodIn TMW (wsV own idx C y wsy)) (hna : As.length = na) (hw : wsy = Cond.code y bytes maxL rt :: ws') (hrc : rmy.cells = 0) (hrs : rmy.slots = 0) (hd : y.cls = C ∧ y.cls ≠ "java/lang/invoke/MethodHandle" ∧ y.cls ≠ "java/lang/invoke/VarHandle" ∧ (parseMethodDescriptor y.desc).map (fun d => d.parameters.length) = some na) (hR : rmy.frames + 1 ≤ R.frames ∧ 8 + (maxL + 11) + rmy.locals ≤ R.locals) (hcat : (st.map fun v => v.category).sum ≤ 8) (hcs : cells + 0 ≤ R.cells ∧ slots + 0 ≤ R.slots) (k : tmC p s m args meth c cc nL ret own TMW tm_NWC D cy tm_s0 tm_a0 0 X' A → tmG p l e R s m args below meth c cells slots Q nL D cy tm_s0 tm_a0 0 X' A z (pc + 3) lv st tm_v0 res) : tmG p l e R s m args below meth c cells slots Q nL D cy tm_s0 tm_a0 0 X A z pc lv st0 tm_v0 res := fun hz H locs ls hP hS hL => by
  have hP : va_P D vwCl X H := hP
  have hF := tl_fr C0 hX hS
  refine va_callv (tl_callV (S := Unit) na C0 hX hP hS hL hdg (hM D cy ad H.size _ ho) hst (show (tm_w cy sh ad n v)[k0]? = some (ad k0, .inr (ci, tm_slots ad (v k0) 0 fs)) by have h := tm_wget (cy := cy) (sh := sh) (ad := ad) (v := v) (X := []) hk; rw [List.append_nil, hsh] at h; exact h) hc hG hna hw hrc hrs hd hR hcat hcs (tmPre.blind hn1 _) (fun U hU hW hP2 hK2 hN2 hD2 => ⟨by rw [hav], by rw [hU], by rw [hU]; exact hP2, hK2, hN U hN2, hD2⟩)) hS (fun q _ h => hF q h) hF (fun u t H1 locs1 ht hvm hw2 hB hz1 hk1 hS1 => ?_)
  obtain ⟨hP1, hD1⟩ := hB
  rw [ht] at hP1
  cases hw2
  obtain ⟨hj, hC⟩ := tl_jn C0 hX hX' hP hS hk1 hP1 hD1
  exact k hC hz H1 locs1 ls hj hS1 hL
theorem tl_mf (k0 : Nat) {sh : Nat → tmE} {n : Nat} {ad : Nat → Nat} {v v' : tmM} {r : UInt32} {NW1 : List Cond} {pre suf : va_W} {C : String} {T : u_T} {N ci idx : Nat} {fs : List (Option Nat)} {y : MethodName} {wsy ws' : List Cond} {rmy : Room} {av : (Nat → Nat) → List Value} {o : Option (UInt32 × tmM)} {bytes : ByteArray} {maxL : Nat} {rt : Option FieldType} {As st0 : List Value} (na : Nat) (C0 : tmC p s m args meth c cc nL ret own TMW tm_NWC D cy tm_s0 tm_a0 0 X A) (hX : X = pre ++ (tm_w cy sh ad n v ++ suf)) (hX' : X' = pre ++ (tm_w cy sh ad n v' ++ suf)) (hN : ∀ U, tmNs tm_NWC U → tmNs NW1 U) (hn1 : NW1.all tm_isN = true) (hdg : decode cc pc = .ok (.invokevirtual idx, 3)) (hM : tmMf NW1 sh n l y wsy rmy av v o) (ho : o = some (r, v')) (hav : av ad = .ref (ad k0) :: As) (hst : st0 = As.reverse ++ .ref (ad k0) :: st) (hk : k0 < n) (hsh : sh k0 = .inr (.inr (ci, fs))) (hc : vwCl[ci]? = some (C, T, N)) (hG : GoodIn TMW (wsV own idx C y wsy)) (hna : As.length = na) (hw : wsy = Cond.code y bytes maxL rt :: ws') (hrc : rmy.cells = 0) (hrs : rmy.slots = 0) (hd : y.cls = C ∧ y.cls ≠ "java/lang/invoke/MethodHandle" ∧ y.cls ≠ "java/lang/invoke/VarHandle" ∧ (parseMethodDescriptor y.desc).map (fun d => d.parameters.length) = some na) (hR : rmy.frames + 1 ≤ R.frames ∧ 8 + (maxL + 11) + rmy.locals ≤ R.locals) (hcat : (st.map fun v => v.category).sum ≤ 8) (hcs : cells + 0 ≤ R.cells ∧ slots + 0 ≤ R.slots) (k : tmC p s m args meth c cc nL ret own TMW tm_NWC D cy tm_s0 tm_a0 0 X' A → tmG p l e R s m args below meth c cells slots Q nL D cy tm_s0 tm_a0 0 X' A z (pc + 3) lv (.float r :: st) tm_v0 res) : tmG p l e R s m args below meth c cells slots Q nL D cy tm_s0 tm_a0 0 X A z pc lv st0 tm_v0 res := fun hz H locs ls hP hS hL => by
  have hP : va_P D vwCl X H := hP
  have hF := tl_fr C0 hX hS
  refine va_callf (tl_callV (S := Unit) na C0 hX hP hS hL hdg (hM D cy ad H.size _ ho) hst (show (tm_w cy sh ad n v)[k0]? = some (ad k0, .inr (ci, tm_slots ad (v k0) 0 fs)) by have h := tm_wget (cy := cy) (sh := sh) (ad := ad) (v := v) (X := []) hk; rw [List.append_nil, hsh] at h; exact h) hc hG hna hw hrc hrs hd hR hcat hcs (tmPre.blind hn1 _) (fun U hU hW hP2 hK2 hN2 hD2 => ⟨by rw [hav], by rw [hU], by rw [hU]; exact hP2, hK2, hN U hN2, hD2⟩)) hS (fun q _ h => hF q h) hF (fun r1 u t H1 locs1 ht hvm hw2 hB hz1 hk1 hS1 => ?_)
  obtain ⟨hP1, hD1⟩ := hB
  rw [ht] at hP1
  cases hw2
  obtain ⟨hj, hC⟩ := tl_jn C0 hX hX' hP hS hk1 hP1 hD1
  exact k hC hz H1 locs1 ls hj hS1 hL
theorem tl_md (k0 : Nat) {sh : Nat → tmE} {n : Nat} {ad : Nat → Nat} {v v' : tmM} {r : UInt64} {NW1 : List Cond} {pre suf : va_W} {C : String} {T : u_T} {N ci idx : Nat} {fs : List (Option Nat)} {y : MethodName} {wsy ws' : List Cond} {rmy : Room} {av : (Nat → Nat) → List Value} {o : Option (UInt64 × tmM)} {bytes : ByteArray} {maxL : Nat} {rt : Option FieldType} {As st0 : List Value} (na : Nat) (C0 : tmC p s m args meth c cc nL ret own TMW tm_NWC D cy tm_s0 tm_a0 0 X A) (hX : X = pre ++ (tm_w cy sh ad n v ++ suf)) (hX' : X' = pre ++ (tm_w cy sh ad n v' ++ suf)) (hN : ∀ U, tmNs tm_NWC U → tmNs NW1 U) (hn1 : NW1.all tm_isN = true) (hdg : decode cc pc = .ok (.invokevirtual idx, 3)) (hM : tmMd NW1 sh n l y wsy rmy av v o) (ho : o = some (r, v')) (hav : av ad = .ref (ad k0) :: As) (hst : st0 = As.reverse ++ .ref (ad k0) :: st) (hk : k0 < n) (hsh : sh k0 = .inr (.inr (ci, fs))) (hc : vwCl[ci]? = some (C, T, N)) (hG : GoodIn TMW (wsV own idx C y wsy)) (hna : As.length = na) (hw : wsy = Cond.code y bytes maxL rt :: ws') (hrc : rmy.cells = 0) (hrs : rmy.slots = 0) (hd : y.cls = C ∧ y.cls ≠ "java/lang/invoke/MethodHandle" ∧ y.cls ≠ "java/lang/invoke/VarHandle" ∧ (parseMethodDescriptor y.desc).map (fun d => d.parameters.length) = some na) (hR : rmy.frames + 1 ≤ R.frames ∧ 8 + (maxL + 11) + rmy.locals ≤ R.locals) (hcat : (st.map fun v => v.category).sum ≤ 8) (hcs : cells + 0 ≤ R.cells ∧ slots + 0 ≤ R.slots) (k : tmC p s m args meth c cc nL ret own TMW tm_NWC D cy tm_s0 tm_a0 0 X' A → tmG p l e R s m args below meth c cells slots Q nL D cy tm_s0 tm_a0 0 X' A z (pc + 3) lv (.double r :: st) tm_v0 res) : tmG p l e R s m args below meth c cells slots Q nL D cy tm_s0 tm_a0 0 X A z pc lv st0 tm_v0 res := fun hz H locs ls hP hS hL => by
  have hP : va_P D vwCl X H := hP
  have hF := tl_fr C0 hX hS
  refine va_calld (tl_callV (S := Unit) na C0 hX hP hS hL hdg (hM D cy ad H.size _ ho) hst (show (tm_w cy sh ad n v)[k0]? = some (ad k0, .inr (ci, tm_slots ad (v k0) 0 fs)) by have h := tm_wget (cy := cy) (sh := sh) (ad := ad) (v := v) (X := []) hk; rw [List.append_nil, hsh] at h; exact h) hc hG hna hw hrc hrs hd hR hcat hcs (tmPre.blind hn1 _) (fun U hU hW hP2 hK2 hN2 hD2 => ⟨by rw [hav], by rw [hU], by rw [hU]; exact hP2, hK2, hN U hN2, hD2⟩)) hS (fun q _ h => hF q h) hF (fun r1 u t H1 locs1 ht hvm hw2 hB hz1 hk1 hS1 => ?_)
  obtain ⟨hP1, hD1⟩ := hB
  rw [ht] at hP1
  cases hw2
  obtain ⟨hj, hC⟩ := tl_jn C0 hX hX' hP hS hk1 hP1 hD1
  exact k hC hz H1 locs1 ls hj hS1 hL
/-- runScript: texts beside -/
theorem tl_my (k0 : Nat) {sh : Nat → tmE} {n : Nat} {ad : Nat → Nat} {v v' : tmM} {r : Int32} {pre suf : va_W} {C : String} {T : u_T} {N ci idx : Nat} {fs : List (Option Nat)} {y : MethodName} {wsy ws' : List Cond} {rmy : Room} {av : (Nat → Nat) → List Value} {o : Option (Int32 × tmM)} {bytes : ByteArray} {maxL : Nat} {rt : Option FieldType} {As st0 : List Value} (na : Nat) (C0 : tmC p s m args meth c cc nL ret own TMW tm_NWC D cy tm_s0 tm_a0 0 X A) (hE : tmSc adK adV adE tC A s s.heap) (hX : X = pre ++ (tm_w cy sh ad n v ++ suf)) (hX' : X' = pre ++ (tm_w cy sh ad n v' ++ suf)) (hdg : decode cc pc = .ok (.invokevirtual idx, 3)) (hM : tmYi tm_NWC sh n l adK adV adE tC y wsy rmy av v o) (ho : o = some (r, v')) (hav : av ad = .ref (ad k0) :: As) (hst : st0 = As.reverse ++ .ref (ad k0) :: st) (hk : k0 < n) (hsh : sh k0 = .inr (.inr (ci, fs))) (hc : vwCl[ci]? = some (C, T, N)) (hG : GoodIn TMW (wsV own idx C y wsy)) (hna : As.length = na) (hw : wsy = Cond.code y bytes maxL rt :: ws') (hrc : rmy.cells = 0) (hrs : rmy.slots = 0) (hd : y.cls = C ∧ y.cls ≠ "java/lang/invoke/MethodHandle" ∧ y.cls ≠ "java/lang/invoke/VarHandle" ∧ (parseMethodDescriptor y.desc).map (fun d => d.parameters.length) = some na) (hR : rmy.frames + 1 ≤ R.frames ∧ 8 + (maxL + 11) + rmy.locals ≤ R.locals) (hcat : (st.map fun v => v.category).sum ≤ 8) (hcs : cells + 0 ≤ R.cells ∧ slots + 0 ≤ R.slots) (k : tmC p s m args meth c cc nL ret own TMW tm_NWC D cy tm_s0 tm_a0 0 X' A → tmG p l e R s m args below meth c cells slots Q nL D cy tm_s0 tm_a0 0 X' A z (pc + 3) lv (.int r :: st) tm_v0 res) : tmG p l e R s m args below meth c cells slots Q nL D cy tm_s0 tm_a0 0 X A z pc lv st0 tm_v0 res := fun hz H locs ls hP hS hL => by
  have hP : va_P D vwCl X H := hP
  have hF := tl_fr C0 hX hS
  refine va_calli (tl_callV (S := Unit) na C0 hX hP hS hL hdg (hM D cy ad H.size _ ho) hst (show (tm_w cy sh ad n v)[k0]? = some (ad k0, .inr (ci, tm_slots ad (v k0) 0 fs)) by have h := tm_wget (cy := cy) (sh := sh) (ad := ad) (v := v) (X := []) hk; rw [List.append_nil, hsh] at h; exact h) hc hG hna hw hrc hrs hd hR hcat hcs (tmYP.blind tm_NWC_ok _) (fun U hU hW hP2 hK2 hN2 hD2 => ⟨by rw [hav], ⟨by rw [hU], by rw [hU]; exact hP2, hK2, hN2, hD2⟩, hE.go hS hF hU hW⟩)) hS (fun q _ h => hF q h) hF (fun r1 u t H1 locs1 ht hvm hw2 hB hz1 hk1 hS1 => ?_)
  obtain ⟨hP1, hD1⟩ := hB
  rw [ht] at hP1
  cases hw2
  obtain ⟨hj, hC⟩ := tl_jn C0 hX hX' hP hS hk1 hP1 hD1
  exact k hC hz H1 locs1 ls hj hS1 hL
/-- output: the text beside -/
theorem tl_wi (k0 : Nat) {ad : Nat → Nat} {v v' : tmM} {bs bs' : List Int32} {κ b0 : Nat} {u : tmM} {r : Int32} {suf : va_W} {C : String} {T : u_T} {N ci idx : Nat} {fs : List (Option Nat)} {y : MethodName} {wsy ws' : List Cond} {rmy : Room} {av : (Nat → Nat) → List Value} {o : Option (Int32 × (tmM × List Int32))} {bytes : ByteArray} {maxL mc1 ms1 : Nat} {rt : Option FieldType} {As st0 : List Value} (na : Nat) (C0 : tmC p s m args meth c cc nL ret own TMW tm_NWC D cy tm_s0 tm_a0 0 X A) (hE : tmSc adK adV adE tC A s s.heap) (hT : tmTx κ u bs) (hX : X = (tm_w cy tm_shC ad 256 v ++ tmXB cy (ad 256) κ b0 u) ++ suf) (hdg : decode cc pc = .ok (.invokevirtual idx, 3)) (hM : tmWi tm_NWC tm_shC 256 l adK adV adE tC y wsy rmy av v bs mc1 ms1 o) (ho : o = some (r, (v', bs'))) (hav : av ad = .ref (ad k0) :: As) (hst : st0 = As.reverse ++ .ref (ad k0) :: st) (hk : k0 < 256) (hsh : tm_shC k0 = .inr (.inr (ci, fs))) (hc : vwCl[ci]? = some (C, T, N)) (hG : GoodIn TMW (wsV own idx C y wsy)) (hna : As.length = na) (hw : wsy = Cond.code y bytes maxL rt :: ws') (hrc : rmy.cells = mc1) (hrs : rmy.slots = ms1) (hd : y.cls = C ∧ y.cls ≠ "java/lang/invoke/MethodHandle" ∧ y.cls ≠ "java/lang/invoke/VarHandle" ∧ (parseMethodDescriptor y.desc).map (fun d => d.parameters.length) = some na) (hR : rmy.frames + 1 ≤ R.frames ∧ 8 + (maxL + 11) + rmy.locals ≤ R.locals) (hcat : (st.map fun v => v.category).sum ≤ 8) (hcs : cells + mc1 ≤ R.cells ∧ slots + ms1 ≤ R.slots) (k : ∀ (κ b0 : Nat) (u : tmM), tmTx κ u bs' → tmC p s m args meth c cc nL ret own TMW tm_NWC D cy tm_s0 tm_a0 0 ((tm_w cy tm_shC ad 256 v' ++ tmXB cy (ad 256) κ b0 u) ++ suf) A → tmG p l e R s m args below meth c (cells + mc1) (slots + ms1) Q nL D cy tm_s0 tm_a0 0 ((tm_w cy tm_shC ad 256 v' ++ tmXB cy (ad 256) κ b0 u) ++ suf) A z (pc + 3) lv (.int r :: st) tm_v0 res) : tmG p l e R s m args below meth c cells slots Q nL D cy tm_s0 tm_a0 0 X A z pc lv st0 tm_v0 res := fun hz H locs ls hP hS hL => by
  have hP : va_P D vwCl X H := hP
  have hX2 : X = [] ++ ((tm_w cy tm_shC ad 256 v ++ tmXB cy (ad 256) κ b0 u) ++ suf) := hX
  have hF := tl_fr C0 hX2 hS
  refine va_calli (tl_callV (S := Unit) na C0 hX2 hP hS hL hdg (hM D cy ad H.size κ b0 u _ hT ho) hst (by have h := tm_wget (cy := cy) (sh := tm_shC) (ad := ad) (v := v) (X := tmXB cy (ad 256) κ b0 u) hk; rw [hsh] at h; exact h) hc hG hna hw hrc hrs hd hR hcat hcs (tmWP.blind tm_NWC_ok _) (fun U hU hW hP2 hK2 hN2 hD2 => ⟨by rw [hav], ⟨by rw [hU], by rw [hU]; exact hP2, hK2, hN2, hD2⟩, hE.go hS hF hU hW⟩)) hS (fun q _ h => hF q h) hF (fun r1 y1 t H1 locs1 ht hvm hw2 hB hz1 hk1 hS1 => ?_)
  obtain ⟨κ1, b1, u1, hT1, hP1, hD1⟩ := hB
  rw [ht] at hP1
  cases hw2
  obtain ⟨hj, hC⟩ := tl_jn (X' := [] ++ ((tm_w cy tm_shC ad 256 v' ++ tmXB cy (ad 256) κ1 b1 u1) ++ suf)) C0 hX2 rfl hP hS hk1 hP1 hD1
  exact k κ1 b1 u1 hT1 hC hz H1 locs1 ls hj hS1 hL
end TL
