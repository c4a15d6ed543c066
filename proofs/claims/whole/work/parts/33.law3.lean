/-! ===== the law's own rows ===== -/
section TL3
variable {p : Program} {l : Launch} {e : Env} {R : Room} {s : State} {m : MethodId} {args : Array Value} {below : List Frame} {meth : Method} {c : Code} {cells slots : Nat} {Q : State → Prop} {cc : ByteArray} {nL : Nat} {ret : Option FieldType} {D : va_G} {cy : Nat → ClassId} {A : Nat → Prop} {adK adV adE : Nat → Nat} {tC : Nat} {pc : Nat} {lv lv' : List (Nat × Value)} {st : List Value} {β : Type} {z : β} {res : Option β} {ad ar : Nat → Nat} {o1 o2 : Nat} {cL cD : ClassId} {κ b0 : Nat} {u v w v' : tmM} {bs bs' : List Int32} {xo xo' : Int64} {xd xd' : UInt64} {X : va_W}
theorem tl_gS2 {own : String} {idx : Nat} {y : MethodName} {w : Cond} (h1 : Cond.methodLink own idx y ∈ TMW) (h2 : Cond.static y ∈ TMW) (h3 : Cond.initialized y.cls ∈ TMW) (h4 : w ∈ TMW) : GoodIn TMW (va_wsS own idx y (w :: TMW)) := tm_gl (fun x hx => by
  unfold va_wsS at hx
  simp only [List.cons_append, List.nil_append, List.mem_cons] at hx
  rcases hx with rfl | rfl | rfl | rfl | hx
  · exact h1
  · exact h2
  · exact h3
  · exact h4
  · exact hx)
theorem tl_callS {idx : Nat} {y : MethodName} {wsy ws' : List Cond} {rmy : Room} {As : Nat → Nat → List Value} {o : Int64 → UInt64 → Option (Int32 × tlS)} {r : Int32} {bytes : ByteArray} {maxL mc1 ms1 : Nat} {rt : Option FieldType} {hh : List (Nat × Nat × Nat × Nat)} {st0 : List Value} (na : Nat) (C0 : tmC p s m args meth c cc nL ret RL TMW tm_NWC D cy tm_s0 tm_a0 0 (tlW cy ad ar o1 o2 cL cD κ b0 u v w xo xd) A) (hE : tmSc adK adV adE tC A s s.heap) (hTh : tmTh A s s.heap) (hF : tlF D cy cL cD s) (hT : tmTx κ u bs) (hdg : decode cc pc = .ok (.invokestatic idx, 3)) (hM : tlI l adK adV adE tC y wsy rmy As v bs mc1 ms1 o) (ho : o xo xd = some (r, ((xo', xd'), (v', bs')))) (hst : st0 = (.ref (ad 247) :: As o1 o2).reverse ++ st) (hG : GoodIn TMW (va_wsS RL idx y wsy)) (hna : (.ref (ad 247) :: As o1 o2 : List Value).length = na) (hw : wsy = Cond.codeWith y bytes maxL rt hh :: ws') (hrc : rmy.cells = mc1) (hrs : rmy.slots = ms1) (hd : y.cls ≠ "java/lang/invoke/MethodHandle" ∧ y.cls ≠ "java/lang/invoke/VarHandle" ∧ (parseMethodDescriptor y.desc).map (fun d => d.parameters.length) = some na) (hR : rmy.frames + 1 ≤ R.frames ∧ 8 + (maxL + 11) + rmy.locals ≤ R.locals) (hcat : (st.map fun v => v.category).sum ≤ 8) (hcs : cells + mc1 ≤ R.cells ∧ slots + ms1 ≤ R.slots) (k : ∀ (κ b0 : Nat) (u : tmM), tmTx κ u bs' → tmC p s m args meth c cc nL ret RL TMW tm_NWC D cy tm_s0 tm_a0 0 (tlW cy ad ar o1 o2 cL cD κ b0 u v' w xo' xd') A → tmG p l e R s m args below meth c (cells + mc1) (slots + ms1) Q nL D cy tm_s0 tm_a0 0 (tlW cy ad ar o1 o2 cL cD κ b0 u v' w xo' xd') A z (pc + 3) lv (.int r :: st) tm_v0 res) : tmG p l e R s m args below meth c cells slots Q nL D cy tm_s0 tm_a0 0 (tlW cy ad ar o1 o2 cL cD κ b0 u v w xo xd) A z pc lv st0 tm_v0 res := fun hz H locs ls hP hS hL => by
  have hP : va_P D vwCl (tlW cy ad ar o1 o2 cL cD κ b0 u v w xo xd) H := hP
  have hD : va_D A (tlW cy ad ar o1 o2 cL cD κ b0 u v w xo xd) := C0.dd (v := tm_v0)
  have hts := C0.2.2.2.2.2.2.1
  have hX : tlW cy ad ar o1 o2 cL cD κ b0 u v w xo xd = [] ++ (tlW cy ad ar o1 o2 cL cD κ b0 u v w xo xd ++ []) := (List.append_nil _).symm
  have hFr := tl_fr C0 hX hS
  subst hst
  refine va_calli (vx_runSW (As := .ref (ad 247) :: As o1 o2) (rest := st) ⟨C0.1, C0.2.1, C0.2.2.1, C0.2.2.2.2.2.1, hts⟩ (hM D cy ad ar o1 o2 cL cD H.size κ b0 u w xo xd _ hT ho) (vx_cwSW na hts hG hw hrc hrs hd hR) ⟨tlP.blind _, fun U hU hW => ⟨rfl, ⟨by rw [hU], by rw [hU]; exact hP, va_K.moved hW.alike C0.2.2.2.2.2.2.2.1, tmNs.warm C0.2.2.2.2.2.2.2.2.2.1 hW C0.2.2.2.2.2.2.2.2.1, hD.weaken (fun _ _ _ _ => trivial)⟩, hE.go hS hFr hU hW, hTh.go hS hFr hU hW, hF.alike hW⟩⟩ rfl hna hL.1 rfl (lv_room hcat) hdg hcs) hS (fun q _ h => hFr q h) hFr (fun r1 y1 t H1 locs1 ht hvm hw2 hB hz1 hk1 hS1 => ?_)
  obtain ⟨κ1, b1, u1, hT1, hP1, hD1⟩ := hB
  rw [ht] at hP1
  cases hw2
  have hX' : tlW cy ad ar o1 o2 cL cD κ1 b1 u1 v' w xo' xd' = [] ++ (tlW cy ad ar o1 o2 cL cD κ1 b1 u1 v' w xo' xd' ++ []) := (List.append_nil _).symm
  obtain ⟨hj, hC⟩ := tl_jn C0 hX hX' hP hS hk1 hP1 hD1
  exact k κ1 b1 u1 hT1 hC hz H1 locs1 ls hj hS1 hL
theorem tl_sld {b L : Nat} {xs : Nat → Int32} {i : Int32} {own : String} (C0 : tmC p s m args meth c cc nL ret own TMW tm_NWC D cy tm_s0 tm_a0 0 X A) (hX : va_X b L xs s s.heap) (hbl : b < s.heap.size) (hbA : ¬ A b) (hin : vp_in i L) (hdg : decode cc pc = .ok (.iaload, 1)) (k : tmG p l e R s m args below meth c cells slots Q nL D cy tm_s0 tm_a0 0 X A z (pc + 1) lv (.int (xs i.toNatClampNeg) :: st) tm_v0 res) : tmG p l e R s m args below meth c cells slots Q nL D cy tm_s0 tm_a0 0 X A z pc lv (.int i :: .ref b :: st) tm_v0 res := fun hz H locs ls hP hS hL => va_sld C0.1 C0.2.1 hX hbl hbA hS hin hdg (k hz H locs ls hP hS hL)
theorem tl_slen {b L : Nat} {xs : Nat → Int32} {own : String} (C0 : tmC p s m args meth c cc nL ret own TMW tm_NWC D cy tm_s0 tm_a0 0 X A) (hX : va_X b L xs s s.heap) (hbl : b < s.heap.size) (hbA : ¬ A b) (hdg : decode cc pc = .ok (.arraylength, 1)) (k : tmG p l e R s m args below meth c cells slots Q nL D cy tm_s0 tm_a0 0 X A z (pc + 1) lv (.int (Int32.ofNat L) :: st) tm_v0 res) : tmG p l e R s m args below meth c cells slots Q nL D cy tm_s0 tm_a0 0 X A z pc lv (.ref b :: st) tm_v0 res := fun hz H locs ls hP hS hL => va_slen C0.1 C0.2.1 hX hbl hbA hS hdg (k hz H locs ls hP hS hL)
theorem tl_lald {own : String} (C0 : tmC p s m args meth c cc nL ret own TMW tm_NWC D cy tm_s0 tm_a0 0 (tlW cy ad ar o1 o2 cL cD κ b0 u v w xo xd) A) (hF : tlF D cy cL cD s) (hdg : decode cc pc = .ok (.laload, 1)) (k : tmG p l e R s m args below meth c cells slots Q nL D cy tm_s0 tm_a0 0 (tlW cy ad ar o1 o2 cL cD κ b0 u v w xo xd) A z (pc + 1) lv (.long xo :: st) tm_v0 res) : tmG p l e R s m args below meth c cells slots Q nL D cy tm_s0 tm_a0 0 (tlW cy ad ar o1 o2 cL cD κ b0 u v w xo xd) A z pc lv (.int 0 :: .ref o1 :: st) tm_v0 res := fun hz H locs ls hP hS hL => by
  have hP : va_P D vwCl (tlW cy ad ar o1 o2 cL cD κ b0 u v w xo xd) H := hP
  exact va_lald C0.1 C0.2.1 hF.1 hP 271 6 (n := 1) (f := tl_L xo) (tl_get 0) rfl (tm_ixin (by decide : tm_ix 0 1 = true)) hdg (k hz H locs ls hP hS hL)
theorem tl_dald {own : String} (C0 : tmC p s m args meth c cc nL ret own TMW tm_NWC D cy tm_s0 tm_a0 0 (tlW cy ad ar o1 o2 cL cD κ b0 u v w xo xd) A) (hF : tlF D cy cL cD s) (hdg : decode cc pc = .ok (.daload, 1)) (k : tmG p l e R s m args below meth c cells slots Q nL D cy tm_s0 tm_a0 0 (tlW cy ad ar o1 o2 cL cD κ b0 u v w xo xd) A z (pc + 1) lv (.double xd :: st) tm_v0 res) : tmG p l e R s m args below meth c cells slots Q nL D cy tm_s0 tm_a0 0 (tlW cy ad ar o1 o2 cL cD κ b0 u v w xo xd) A z pc lv (.int 0 :: .ref o2 :: st) tm_v0 res := fun hz H locs ls hP hS hL => by
  have hP : va_P D vwCl (tlW cy ad ar o1 o2 cL cD κ b0 u v w xo xd) H := hP
  exact va_dald C0.1 C0.2.1 hF.1 hP 272 7 (n := 1) (f := tl_D xd) (tl_get 1) rfl (tm_ixin (by decide : tm_ix 0 1 = true)) hdg (k hz H locs ls hP hS hL)
theorem tl_lcmp {x y : Int64} {own : String} (h : x = y) (C0 : tmC p s m args meth c cc nL ret own TMW tm_NWC D cy tm_s0 tm_a0 0 X A) (hdg : decode cc pc = .ok (.lcmp, 1)) (k : tmG p l e R s m args below meth c cells slots Q nL D cy tm_s0 tm_a0 0 X A z (pc + 1) lv (.int 0 :: st) tm_v0 res) : tmG p l e R s m args below meth c cells slots Q nL D cy tm_s0 tm_a0 0 X A z pc lv (.long y :: .long x :: st) tm_v0 res := fun hz H locs ls hP hS hL => by
  refine W.lcmp C0.1 C0.2.1 hdg ?_
  have e : lg_cmp x y = 0 := by
    unfold lg_cmp
    rw [h, if_neg (Int64.lt_irrefl), if_pos rfl]
  rw [e]
  exact k hz H locs ls hP hS hL
theorem tl_dcmp {x y : UInt64} {op : CmpOp} {own : String} (h : FP.dcmp x y = some .eq) (C0 : tmC p s m args meth c cc nL ret own TMW tm_NWC D cy tm_s0 tm_a0 0 X A) (hdg : decode cc pc = .ok (.dcmp op, 1)) (k : tmG p l e R s m args below meth c cells slots Q nL D cy tm_s0 tm_a0 0 X A z (pc + 1) lv (.int 0 :: st) tm_v0 res) : tmG p l e R s m args below meth c cells slots Q nL D cy tm_s0 tm_a0 0 X A z pc lv (.double y :: .double x :: st) tm_v0 res := fun hz H locs ls hP hS hL => by
  refine lv_dcmp C0.1 C0.2.1 hdg ?_
  rw [h]
  exact k hz H locs ls hP hS hL
theorem tl_f2d {x : UInt32} {own : String} (hne : vf_n64 (FP.f2d x)) (C0 : tmC p s m args meth c cc nL ret own TMW tm_NWC D cy tm_s0 tm_a0 0 X A) (hdg : decode cc pc = .ok (.f2d, 1)) (k : tmG p l e R s m args below meth c cells slots Q nL D cy tm_s0 tm_a0 0 X A z (pc + 1) lv (.double (FP.f2d x) :: st) tm_v0 res) : tmG p l e R s m args below meth c cells slots Q nL D cy tm_s0 tm_a0 0 X A z pc lv (.float x :: st) tm_v0 res := fun hz H locs ls hP hS hL => lv_f2d C0.1 C0.2.1 hdg hne (k hz H locs ls hP hS hL)
theorem tl_dstore (lv' : List (Nat × Value)) {i : Nat} {x : UInt64} {own : String} (C0 : tmC p s m args meth c cc nL ret own TMW tm_NWC D cy tm_s0 tm_a0 0 X A) (hdg : decode cc pc = .ok (.dstore i, 2)) (hn : i + 1 < nL) (hl : (i, Value.double x) :: lv.filter (fun q => !(q.1 == i) && (!(q.1 == i + 1) && !(q.1 + 1 == i && q.2.category == 2))) = lv') (k : tmG p l e R s m args below meth c cells slots Q nL D cy tm_s0 tm_a0 0 X A z (pc + 2) lv' st tm_v0 res) : tmG p l e R s m args below meth c cells slots Q nL D cy tm_s0 tm_a0 0 X A z pc lv (.double x :: st) tm_v0 res := fun hz H locs ls hP hS hL => lv_dstore C0.1 C0.2.1 hdg hL hn hl (fun ls' hL' => k hz H locs ls' hP hS hL')
theorem tl_dload (j : Nat) {i : Nat} {x : UInt64} {own : String} (C0 : tmC p s m args meth c cc nL ret own TMW tm_NWC D cy tm_s0 tm_a0 0 X A) (hdg : decode cc pc = .ok (.dload i, 2)) (hj : lv[j]? = some (i, .double x)) (k : tmG p l e R s m args below meth c cells slots Q nL D cy tm_s0 tm_a0 0 X A z (pc + 2) lv (.double x :: st) tm_v0 res) : tmG p l e R s m args below meth c cells slots Q nL D cy tm_s0 tm_a0 0 X A z pc lv st tm_v0 res := fun hz H locs ls hP hS hL => lv_dload C0.1 C0.2.1 hdg (lv_at hL j hj) (k hz H locs ls hP hS hL)
theorem tl_tab (i : Nat) {dflt lo hi : Int} {offs : Array Int} {len : Nat} {x : Int32} {off : Int} (tgt : Nat) {own : String} (C0 : tmC p s m args meth c cc nL ret own TMW tm_NWC D cy tm_s0 tm_a0 0 X A) (hdg : decode cc pc = .ok (.tableswitch dflt lo hi offs, len)) (h1 : ¬ x.toInt < lo) (h2 : ¬ hi < x.toInt) (ho : offs[(x.toInt - lo).toNat]? = some off) (ht : (pc : Int) + off = (tgt : Int)) (k : tmG p l e R s m args below meth c cells slots Q nL D cy tm_s0 tm_a0 0 X A z tgt lv st tm_v0 res) : tmG p l e R s m args below meth c cells slots Q nL D cy tm_s0 tm_a0 0 X A z pc lv (.int x :: st) tm_v0 res := fun hz H locs ls hP hS hL => lv_tableIn C0.1 C0.2.1 hdg h1 h2 ho ht (k hz H locs ls hP hS hL)
theorem tl_tabO {dflt lo hi : Int} {offs : Array Int} {len : Nat} {x : Int32} (tgt : Nat) {own : String} (C0 : tmC p s m args meth c cc nL ret own TMW tm_NWC D cy tm_s0 tm_a0 0 X A) (hdg : decode cc pc = .ok (.tableswitch dflt lo hi offs, len)) (h : x.toInt < lo ∨ hi < x.toInt) (ht : (pc : Int) + dflt = (tgt : Int)) (k : tmG p l e R s m args below meth c cells slots Q nL D cy tm_s0 tm_a0 0 X A z tgt lv st tm_v0 res) : tmG p l e R s m args below meth c cells slots Q nL D cy tm_s0 tm_a0 0 X A z pc lv (.int x :: st) tm_v0 res := fun hz H locs ls hP hS hL => lv_tableOut C0.1 C0.2.1 hdg h ht (k hz H locs ls hP hS hL)
/-- b ? 1 : 0 -/
theorem tl_bool {x : Int32} {f1 f2 : Int} (tA tB : Nat) {own : String} (C0 : tmC p s m args meth c cc nL ret own TMW tm_NWC D cy tm_s0 tm_a0 0 X A) (d0 : decode cc pc = .ok (.ifCond .eq f1, 3)) (d1 : decode cc (pc + 3) = .ok (.iconst 1, 1)) (d2 : decode cc (pc + 4) = .ok (.goto f2, 3)) (d3 : decode cc tA = .ok (.iconst 0, 1)) (hA : (pc : Int) + f1 = (tA : Int)) (hB : ((pc + 3 + 1 : Nat) : Int) + f2 = (tB : Int)) (hAB : tA + 1 = tB) (k : tmG p l e R s m args below meth c cells slots Q nL D cy tm_s0 tm_a0 0 X A () tB lv (.int (if x = 0 then 0 else 1) :: st) tm_v0 (some ())) : tmG p l e R s m args below meth c cells slots Q nL D cy tm_s0 tm_a0 0 X A () pc lv (.int x :: st) tm_v0 (some ()) := by
  refine tg_eq (r := if x = 0 then some () else some ()) (by split <;> rfl) ?_
  refine tg_if_eq tA C0 d0 hA (fun h => ?_) (fun h => ?_)
  · rw [if_pos h] at k
    refine tg_iconst (x := 0) C0 d3 (by decide) ?_
    rw [hAB]
    exact k
  · rw [if_neg h] at k
    refine tg_iconst (x := 1) C0 d1 (by decide) ?_
    exact tg_goto tB C0 d2 hB k
theorem tl_boolL {x : Int32} {f1 f2 : Int} (tA tB : Nat) {own : String} (C0 : tmC p s m args meth c cc nL ret own TMW tm_NWC D cy tm_s0 tm_a0 0 X A) (d0 : decode cc pc = .ok (.ifCond .eq f1, 3)) (d1 : decode cc (pc + 3) = .ok (.lconst 1, 1)) (d2 : decode cc (pc + 4) = .ok (.goto f2, 3)) (d3 : decode cc tA = .ok (.lconst 0, 1)) (hA : (pc : Int) + f1 = (tA : Int)) (hB : ((pc + 3 + 1 : Nat) : Int) + f2 = (tB : Int)) (hAB : tA + 1 = tB) (k : tmG p l e R s m args below meth c cells slots Q nL D cy tm_s0 tm_a0 0 X A () tB lv (.long (if x = 0 then 0 else 1) :: st) tm_v0 (some ())) : tmG p l e R s m args below meth c cells slots Q nL D cy tm_s0 tm_a0 0 X A () pc lv (.int x :: st) tm_v0 (some ()) := by
  refine tg_eq (r := if x = 0 then some () else some ()) (by split <;> rfl) ?_
  refine tg_if_eq tA C0 d0 hA (fun h => ?_) (fun h => ?_)
  · rw [if_pos h] at k
    refine (fun hz H locs ls hP hS hL => lv_lconst C0.1 C0.2.1 d3 rfl ?_)
    rw [hAB]
    exact k hz H locs ls hP hS hL
  · rw [if_neg h] at k
    refine (fun hz H locs ls hP hS hL => lv_lconst C0.1 C0.2.1 d1 rfl ?_)
    exact tg_goto tB C0 d2 hB k hz H locs ls hP hS hL
theorem tl_idx {L i : Nat} (h : i < L) (hL : L ≤ 2560) : vp_in (nI i) L := by
  unfold vp_in
  rw [nI_clamp (by omega)]
  exact fun q => q.elim (fun q => nI_pos (by omega) q) (fun q => by omega)
theorem tl_add (i k : Nat) : nI i + nI k = nI (i + k) := nI_add i k
end TL3
