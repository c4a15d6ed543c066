set_option maxRecDepth 512
theorem tcl_L_28 : Cond.classLink RL 28 (tm_ex 0) ∈ TMW := tm_in 935 (by decide +kernel) (by decide +kernel)
theorem tcl_L_18 : Cond.classLink RL 18 (tm_ex 1) ∈ TMW := tm_in 898 (by decide +kernel) (by decide +kernel)
theorem tcl_L_13 : Cond.classLink RL 13 (tm_ex 2) ∈ TMW := tm_in 818 (by decide +kernel) (by decide +kernel)
theorem tl_hcl : ∀ j, j < 3 → Cond.classLink RL (tl_ct j) (tm_ex j) ∈ TMW := fun j hj => by
  match j, hj with
  | 0, _ => exact tcl_L_28
  | 1, _ => exact tcl_L_18
  | 2, _ => exact tcl_L_13
  | _ + 3, hj => omega
def tl_kx (h0 h1 h2 : Option Int32) (i : Nat) (y : tlS) : Option (Int32 × tlS) := match i with
  | 0 => h0.map (fun k => (k, y))
  | 1 => h1.map (fun k => (k, y))
  | _ => h2.map (fun k => (k, y))
def tl_hh (p0 p1 p2 : Option Nat) (i : Nat) : Option Nat := match i with
  | 0 => p0
  | 1 => p1
  | _ => p2
theorem tl_hno {p0 p1 p2 : Option Nat} {h0 h1 h2 : Option Int32} (e0 : p0 = none → h0 = none) (e1 : p1 = none → h1 = none) (e2 : p2 = none → h2 = none) (i : Nat) (y : tlS) (h : tl_hh p0 p1 p2 i = none) : tl_kx h0 h1 h2 i y = none := by
  match i, h with
  | 0, h => show h0.map _ = none; rw [e0 h]; rfl
  | 1, h => show h1.map _ = none; rw [e1 h]; rfl
  | _ + 2, h => show h2.map _ = none; rw [e2 h]; rfl
-- ----- appendText
theorem dL_appendText_0 : decode cL_appendText 0 = .ok (.aload_n 2, 1) := by decide +kernel
theorem dL_appendText_1 : decode cL_appendText 1 = .ok (.iconst 0, 1) := by decide +kernel
theorem dL_appendText_2 : decode cL_appendText 2 = .ok (.aload_n 0, 1) := by decide +kernel
theorem dL_appendText_3 : decode cL_appendText 3 = .ok (.iload_n 1, 1) := by decide +kernel
theorem dL_appendText_4 : decode cL_appendText 4 = .ok (.invokevirtual 7, 3) := by decide +kernel
theorem dL_appendText_7 : decode cL_appendText 7 = .ok (.i2l, 1) := by decide +kernel
theorem dL_appendText_8 : decode cL_appendText 8 = .ok (.lastore, 1) := by decide +kernel
theorem dL_appendText_9 : decode cL_appendText 9 = .ok (.goto 6, 3) := by decide +kernel
theorem dL_appendText_12 : decode cL_appendText 12 = .ok (.astore_n 3, 1) := by decide +kernel
theorem dL_appendText_13 : decode cL_appendText 13 = .ok (.iconst 1, 1) := by decide +kernel
theorem dL_appendText_14 : decode cL_appendText 14 = .ok (.ireturn, 1) := by decide +kernel
theorem dL_appendText_15 : decode cL_appendText 15 = .ok (.iconst 0, 1) := by decide +kernel
theorem dL_appendText_16 : decode cL_appendText 16 = .ok (.ireturn, 1) := by decide +kernel
theorem tl_L_7 : Cond.methodLink RL 7 yX7_appendText ∈ TMW := tm_in 819 (by decide +kernel) (by decide +kernel)
theorem ti_X7_appendText : Cond.instanceMethod yX7_appendText ∈ TMW := tm_in 820 (by decide +kernel) (by decide +kernel)
theorem ts_X7_appendText : Cond.selects RX7 yX7_appendText yX7_appendText ∈ TMW := tm_in 821 (by decide +kernel) (by decide +kernel)
theorem tc_X7_appendText : Cond.code yX7_appendText cX7_appendText 3 (some .int) ∈ TMW := tm_in 822 (by decide +kernel) (by decide +kernel)
def g_appendText (x1 : Int32) (v : tmM) (bs : List Int32) (xo : Int64) (xd : UInt64) : Option (Int32 × tlS) := tl_cx (f_X7_appendText x1 v) (fun r v' => some (0, ((r.toInt64, xd), (v', bs)))) (fun i v' => tl_kx (none) (none) (some 1) i ((xo, xd), (v', bs)))
set_option maxRecDepth 100000 in
theorem wL_appendText {p : Program} {l : Launch} (hl : l.stackTraces = false) {e : Env} {s : State} {m : MethodId} {args : Array Value} {below : List Frame} {meth : Method} {c : Code} {A : Nat → Prop} {D : va_G} {cy : Nat → ClassId} {ad ar : Nat → Nat} {o1 o2 : Nat} {cL cD : ClassId} {κ b0 : Nat} {u v w : tmM} {bs : List Int32} {xo : Int64} {xd : UInt64} {z : Int32 × tlS} {adK adV adE : Nat → Nat} {tC : Nat} (x1 : Int32) (C0 : tmC p s m args meth c cL_appendText 4 (some .int) RL TMW tm_NWC D cy tm_s0 tm_a0 0 (tlW cy ad ar o1 o2 cL cD κ b0 u v w xo xd) A) (hE : tmSc adK adV adE tC A s s.heap) (hTh : tmTh A s s.heap) (hF : tlF D cy cL cD s) (hT : tmTx κ u bs) (htab : c.exceptionTable.toList = tableOf [(0, 9, 12, 13)]) : tmG p l e ({ frames := 8, cells := 1, slots := 6, locals := 132 }) s m args below meth c 0 0 (MQ below (va_Qi (fun r y => z = (r, y)) (tlT D cy ad ar o1 o2 cL cD w A) A) args s 1 6 A) 4 D cy tm_s0 tm_a0 0 (tlW cy ad ar o1 o2 cL cD κ b0 u v w xo xd) A z 0 [(0, .ref (ad 247)), (1, .int x1), (2, .ref o1)] [] tm_v0 (g_appendText x1 v bs xo xd) := by
  unfold g_appendText
  refine tg_aload_n 2 C0 dL_appendText_0 rfl rfl ?_
  refine tg_iconst (x := 0) C0 dL_appendText_1 (by decide) ?_
  refine tg_aload_n 0 C0 dL_appendText_2 rfl rfl ?_
  refine tg_iload_n 1 C0 dL_appendText_3 rfl rfl ?_
  refine tl_xi (tl_hh (none) (none) (some 12)) (As := [.int x1]) (fs := [some 0, some 248, none, none, some 249, none, some 250, some 251, some 256]) 1 C0 hTh dL_appendText_4 (c_X7_appendText l hl x1 v) rfl rfl rfl rfl (tm_gV tl_L_7 ti_X7_appendText ts_X7_appendText tn_X7 tc_X7_appendText) rfl rfl rfl rfl (by decide +kernel) ⟨Nat.le_of_ble_eq_true rfl, Nat.le_of_ble_eq_true rfl⟩ (Nat.le_of_ble_eq_true rfl) ⟨Nat.le_of_ble_eq_true rfl, Nat.le_of_ble_eq_true rfl⟩ (fun i v' h => tl_hno (fun _ => rfl) (fun _ => rfl) (fun h => by cases h) i ((xo, xd), (v', bs)) h) (fun i pcH hi H locs ls q ce hq hv hc kk => ?_) (fun i pcH q v' hi C0 => ?_) (fun r v' C0 => ?_)
  · match i, hi with
    | 0, hi => cases hi
    | 1, hi => cases hi
    | i + 2, hi =>
      cases hi
      exact tl_catch (i + 2) C0.2.2.2.2.2.1 C0.2.2.2.2.2.2.1 tl_hcl hF [] [] ⟨0, 9, 12, 13⟩ htab (fun z hz => by cases hz) rfl (by rw [show min (i + 2) 2 = 2 by omega]; rfl) hq hv hc kk
  · match i, hi with
    | 0, hi => cases hi
    | 1, hi => cases hi
    | i + 2, hi =>
      cases hi
      refine tg_eq (r := some (1, ((xo, xd), (v', bs)))) rfl ?_
      refine tg_astore_n [(3, .ref q), (0, .ref (ad 247)), (1, .int x1), (2, .ref o1)] C0 dL_appendText_12 rfl (by decide) rfl ?_
      refine tg_iconst (x := 1) C0 dL_appendText_13 (by decide) ?_
      exact tl_iret C0 hT dL_appendText_14 ⟨Nat.le_of_ble_eq_true rfl, Nat.le_of_ble_eq_true rfl⟩
  · refine tl_i2l C0 dL_appendText_7 ?_
    refine tl_last C0 hF dL_appendText_8 (fun C0 => ?_)
    refine tg_goto 15 C0 dL_appendText_9 (by decide) ?_
    refine tg_iconst (x := 0) C0 dL_appendText_15 (by decide) ?_
    exact tl_iret C0 hT dL_appendText_16 ⟨Nat.le_of_ble_eq_true rfl, Nat.le_of_ble_eq_true rfl⟩
theorem cL_c_appendText (l : Launch) (hl : l.stackTraces = false) {adK adV adE : Nat → Nat} {tC : Nat} (x1 : Int32) (v : tmM) (bs : List Int32) : tlI l adK adV adE tC yL_appendText (Cond.codeWith yL_appendText cL_appendText 4 (some .int) [(0, 9, 12, 13)] :: TMW) ({ frames := 8, cells := 1, slots := 6, locals := 132 }) (fun o1 o2 => [.int x1, .ref o1]) v bs 1 6 (g_appendText x1 v bs) :=
  tlI.of (hh := [(0, 9, 12, 13)]) (by decide +kernel) rfl (fun _ _ _ => Nat.le_of_ble_eq_true rfl) (fun p e s m args below meth c A D cy ad ar o1 o2 cL cD κ b0 u w xo xd z C0 hE hTh hF hT htab => wL_appendText hl x1 C0 hE hTh hF hT htab)
-- ----- truncateText
theorem dL_truncateText_0 : decode cL_truncateText 0 = .ok (.aload_n 2, 1) := by decide +kernel
theorem dL_truncateText_1 : decode cL_truncateText 1 = .ok (.iconst 0, 1) := by decide +kernel
theorem dL_truncateText_2 : decode cL_truncateText 2 = .ok (.aload_n 0, 1) := by decide +kernel
theorem dL_truncateText_3 : decode cL_truncateText 3 = .ok (.iload_n 1, 1) := by decide +kernel
theorem dL_truncateText_4 : decode cL_truncateText 4 = .ok (.invokevirtual 15, 3) := by decide +kernel
theorem dL_truncateText_7 : decode cL_truncateText 7 = .ok (.i2l, 1) := by decide +kernel
theorem dL_truncateText_8 : decode cL_truncateText 8 = .ok (.lastore, 1) := by decide +kernel
theorem dL_truncateText_9 : decode cL_truncateText 9 = .ok (.goto 6, 3) := by decide +kernel
theorem dL_truncateText_12 : decode cL_truncateText 12 = .ok (.astore_n 3, 1) := by decide +kernel
theorem dL_truncateText_13 : decode cL_truncateText 13 = .ok (.iconst 1, 1) := by decide +kernel
theorem dL_truncateText_14 : decode cL_truncateText 14 = .ok (.ireturn, 1) := by decide +kernel
theorem dL_truncateText_15 : decode cL_truncateText 15 = .ok (.iconst 0, 1) := by decide +kernel
theorem dL_truncateText_16 : decode cL_truncateText 16 = .ok (.ireturn, 1) := by decide +kernel
theorem tl_L_15 : Cond.methodLink RL 15 yX7_truncateText ∈ TMW := tm_in 899 (by decide +kernel) (by decide +kernel)
theorem ti_X7_truncateText : Cond.instanceMethod yX7_truncateText ∈ TMW := tm_in 900 (by decide +kernel) (by decide +kernel)
theorem ts_X7_truncateText : Cond.selects RX7 yX7_truncateText yX7_truncateText ∈ TMW := tm_in 901 (by decide +kernel) (by decide +kernel)
theorem tc_X7_truncateText : Cond.code yX7_truncateText cX7_truncateText 2 (some .int) ∈ TMW := tm_in 902 (by decide +kernel) (by decide +kernel)
def g_truncateText (x1 : Int32) (v : tmM) (bs : List Int32) (xo : Int64) (xd : UInt64) : Option (Int32 × tlS) := tl_cx (f_X7_truncateText x1 v) (fun r v' => some (0, ((r.toInt64, xd), (v', bs)))) (fun i v' => tl_kx (none) (some 1) (none) i ((xo, xd), (v', bs)))
set_option maxRecDepth 100000 in
theorem wL_truncateText {p : Program} {l : Launch} (hl : l.stackTraces = false) {e : Env} {s : State} {m : MethodId} {args : Array Value} {below : List Frame} {meth : Method} {c : Code} {A : Nat → Prop} {D : va_G} {cy : Nat → ClassId} {ad ar : Nat → Nat} {o1 o2 : Nat} {cL cD : ClassId} {κ b0 : Nat} {u v w : tmM} {bs : List Int32} {xo : Int64} {xd : UInt64} {z : Int32 × tlS} {adK adV adE : Nat → Nat} {tC : Nat} (x1 : Int32) (C0 : tmC p s m args meth c cL_truncateText 4 (some .int) RL TMW tm_NWC D cy tm_s0 tm_a0 0 (tlW cy ad ar o1 o2 cL cD κ b0 u v w xo xd) A) (hE : tmSc adK adV adE tC A s s.heap) (hTh : tmTh A s s.heap) (hF : tlF D cy cL cD s) (hT : tmTx κ u bs) (htab : c.exceptionTable.toList = tableOf [(0, 9, 12, 18)]) : tmG p l e ({ frames := 8, cells := 1, slots := 6, locals := 131 }) s m args below meth c 0 0 (MQ below (va_Qi (fun r y => z = (r, y)) (tlT D cy ad ar o1 o2 cL cD w A) A) args s 1 6 A) 4 D cy tm_s0 tm_a0 0 (tlW cy ad ar o1 o2 cL cD κ b0 u v w xo xd) A z 0 [(0, .ref (ad 247)), (1, .int x1), (2, .ref o1)] [] tm_v0 (g_truncateText x1 v bs xo xd) := by
  unfold g_truncateText
  refine tg_aload_n 2 C0 dL_truncateText_0 rfl rfl ?_
  refine tg_iconst (x := 0) C0 dL_truncateText_1 (by decide) ?_
  refine tg_aload_n 0 C0 dL_truncateText_2 rfl rfl ?_
  refine tg_iload_n 1 C0 dL_truncateText_3 rfl rfl ?_
  refine tl_xi (tl_hh (none) (some 12) (none)) (As := [.int x1]) (fs := [some 0, some 248, none, none, some 249, none, some 250, some 251, some 256]) 1 C0 hTh dL_truncateText_4 (c_X7_truncateText l hl x1 v) rfl rfl rfl rfl (tm_gV tl_L_15 ti_X7_truncateText ts_X7_truncateText tn_X7 tc_X7_truncateText) rfl rfl rfl rfl (by decide +kernel) ⟨Nat.le_of_ble_eq_true rfl, Nat.le_of_ble_eq_true rfl⟩ (Nat.le_of_ble_eq_true rfl) ⟨Nat.le_of_ble_eq_true rfl, Nat.le_of_ble_eq_true rfl⟩ (fun i v' h => tl_hno (fun _ => rfl) (fun h => by cases h) (fun _ => rfl) i ((xo, xd), (v', bs)) h) (fun i pcH hi H locs ls q ce hq hv hc kk => ?_) (fun i pcH q v' hi C0 => ?_) (fun r v' C0 => ?_)
  · match i, hi with
    | 0, hi => cases hi
    | 1, hi =>
      cases hi
      exact tl_catch (1) C0.2.2.2.2.2.1 C0.2.2.2.2.2.2.1 tl_hcl hF [] [] ⟨0, 9, 12, 18⟩ htab (fun z hz => by cases hz) rfl rfl hq hv hc kk
    | i + 2, hi => cases hi
  · match i, hi with
    | 0, hi => cases hi
    | 1, hi =>
      cases hi
      refine tg_eq (r := some (1, ((xo, xd), (v', bs)))) rfl ?_
      refine tg_astore_n [(3, .ref q), (0, .ref (ad 247)), (1, .int x1), (2, .ref o1)] C0 dL_truncateText_12 rfl (by decide) rfl ?_
      refine tg_iconst (x := 1) C0 dL_truncateText_13 (by decide) ?_
      exact tl_iret C0 hT dL_truncateText_14 ⟨Nat.le_of_ble_eq_true rfl, Nat.le_of_ble_eq_true rfl⟩
    | i + 2, hi => cases hi
  · refine tl_i2l C0 dL_truncateText_7 ?_
    refine tl_last C0 hF dL_truncateText_8 (fun C0 => ?_)
    refine tg_goto 15 C0 dL_truncateText_9 (by decide) ?_
    refine tg_iconst (x := 0) C0 dL_truncateText_15 (by decide) ?_
    exact tl_iret C0 hT dL_truncateText_16 ⟨Nat.le_of_ble_eq_true rfl, Nat.le_of_ble_eq_true rfl⟩
theorem cL_c_truncateText (l : Launch) (hl : l.stackTraces = false) {adK adV adE : Nat → Nat} {tC : Nat} (x1 : Int32) (v : tmM) (bs : List Int32) : tlI l adK adV adE tC yL_truncateText (Cond.codeWith yL_truncateText cL_truncateText 4 (some .int) [(0, 9, 12, 18)] :: TMW) ({ frames := 8, cells := 1, slots := 6, locals := 131 }) (fun o1 o2 => [.int x1, .ref o1]) v bs 1 6 (g_truncateText x1 v bs) :=
  tlI.of (hh := [(0, 9, 12, 18)]) (by decide +kernel) rfl (fun _ _ _ => Nat.le_of_ble_eq_true rfl) (fun p e s m args below meth c A D cy ad ar o1 o2 cL cD κ b0 u w xo xd z C0 hE hTh hF hT htab => wL_truncateText hl x1 C0 hE hTh hF hT htab)
-- ----- setForm
theorem dL_setForm_0 : decode cL_setForm 0 = .ok (.aload_n 0, 1) := by decide +kernel
theorem dL_setForm_1 : decode cL_setForm 1 = .ok (.iload_n 1, 1) := by decide +kernel
theorem dL_setForm_2 : decode cL_setForm 2 = .ok (.iload_n 2, 1) := by decide +kernel
theorem dL_setForm_3 : decode cL_setForm 3 = .ok (.invokevirtual 20, 3) := by decide +kernel
theorem dL_setForm_6 : decode cL_setForm 6 = .ok (.goto 9, 3) := by decide +kernel
theorem dL_setForm_9 : decode cL_setForm 9 = .ok (.astore_n 3, 1) := by decide +kernel
theorem dL_setForm_10 : decode cL_setForm 10 = .ok (.iconst 1, 1) := by decide +kernel
theorem dL_setForm_11 : decode cL_setForm 11 = .ok (.ireturn, 1) := by decide +kernel
theorem dL_setForm_12 : decode cL_setForm 12 = .ok (.astore_n 3, 1) := by decide +kernel
theorem dL_setForm_13 : decode cL_setForm 13 = .ok (.iconst 2, 1) := by decide +kernel
theorem dL_setForm_14 : decode cL_setForm 14 = .ok (.ireturn, 1) := by decide +kernel
theorem dL_setForm_15 : decode cL_setForm 15 = .ok (.iconst 0, 1) := by decide +kernel
theorem dL_setForm_16 : decode cL_setForm 16 = .ok (.ireturn, 1) := by decide +kernel
theorem tl_L_20 : Cond.methodLink RL 20 yX7_setForm ∈ TMW := tm_in 925 (by decide +kernel) (by decide +kernel)
theorem ti_X7_setForm : Cond.instanceMethod yX7_setForm ∈ TMW := tm_in 926 (by decide +kernel) (by decide +kernel)
theorem ts_X7_setForm : Cond.selects RX7 yX7_setForm yX7_setForm ∈ TMW := tm_in 927 (by decide +kernel) (by decide +kernel)
theorem tc_X7_setForm : Cond.code yX7_setForm cX7_setForm 3 none ∈ TMW := tm_in 928 (by decide +kernel) (by decide +kernel)
def g_setForm (x1 : Int32) (x2 : Int32) (v : tmM) (bs : List Int32) (xo : Int64) (xd : UInt64) : Option (Int32 × tlS) := tl_cx (f_X7_setForm x1 x2 v) (fun _ v' => some (0, ((xo, xd), (v', bs)))) (fun i v' => tl_kx (none) (some 1) (some 2) i ((xo, xd), (v', bs)))
set_option maxRecDepth 100000 in
theorem wL_setForm {p : Program} {l : Launch} (hl : l.stackTraces = false) {e : Env} {s : State} {m : MethodId} {args : Array Value} {below : List Frame} {meth : Method} {c : Code} {A : Nat → Prop} {D : va_G} {cy : Nat → ClassId} {ad ar : Nat → Nat} {o1 o2 : Nat} {cL cD : ClassId} {κ b0 : Nat} {u v w : tmM} {bs : List Int32} {xo : Int64} {xd : UInt64} {z : Int32 × tlS} {adK adV adE : Nat → Nat} {tC : Nat} (x1 : Int32) (x2 : Int32) (C0 : tmC p s m args meth c cL_setForm 4 (some .int) RL TMW tm_NWC D cy tm_s0 tm_a0 0 (tlW cy ad ar o1 o2 cL cD κ b0 u v w xo xd) A) (hE : tmSc adK adV adE tC A s s.heap) (hTh : tmTh A s s.heap) (hF : tlF D cy cL cD s) (hT : tmTx κ u bs) (htab : c.exceptionTable.toList = tableOf [(0, 6, 9, 18), (0, 6, 12, 13)]) : tmG p l e ({ frames := 8, cells := 2, slots := 12, locals := 146 }) s m args below meth c 0 0 (MQ below (va_Qi (fun r y => z = (r, y)) (tlT D cy ad ar o1 o2 cL cD w A) A) args s 2 12 A) 4 D cy tm_s0 tm_a0 0 (tlW cy ad ar o1 o2 cL cD κ b0 u v w xo xd) A z 0 [(0, .ref (ad 247)), (1, .int x1), (2, .int x2)] [] tm_v0 (g_setForm x1 x2 v bs xo xd) := by
  unfold g_setForm
  refine tg_aload_n 0 C0 dL_setForm_0 rfl rfl ?_
  refine tg_iload_n 1 C0 dL_setForm_1 rfl rfl ?_
  refine tg_iload_n 2 C0 dL_setForm_2 rfl rfl ?_
  refine tl_xv (tl_hh (none) (some 9) (some 12)) (As := [.int x1, .int x2]) (fs := [some 0, some 248, none, none, some 249, none, some 250, some 251, some 256]) 2 C0 hTh dL_setForm_3 (c_X7_setForm l hl x1 x2 v) rfl rfl rfl rfl (tm_gV tl_L_20 ti_X7_setForm ts_X7_setForm tn_X7 tc_X7_setForm) rfl rfl rfl rfl (by decide +kernel) ⟨Nat.le_of_ble_eq_true rfl, Nat.le_of_ble_eq_true rfl⟩ (Nat.le_of_ble_eq_true rfl) ⟨Nat.le_of_ble_eq_true rfl, Nat.le_of_ble_eq_true rfl⟩ (fun i v' h => tl_hno (fun _ => rfl) (fun h => by cases h) (fun h => by cases h) i ((xo, xd), (v', bs)) h) (fun i pcH hi H locs ls q ce hq hv hc kk => ?_) (fun i pcH q v' hi C0 => ?_) (fun v' C0 => ?_)
  · match i, hi with
    | 0, hi => cases hi
    | 1, hi =>
      cases hi
      exact tl_catch (1) C0.2.2.2.2.2.1 C0.2.2.2.2.2.2.1 tl_hcl hF [] [⟨0, 6, 12, 13⟩] ⟨0, 6, 9, 18⟩ htab (fun z hz => by cases hz) rfl rfl hq hv hc kk
    | i + 2, hi =>
      cases hi
      exact tl_catch (i + 2) C0.2.2.2.2.2.1 C0.2.2.2.2.2.2.1 tl_hcl hF [⟨0, 6, 9, 18⟩] [] ⟨0, 6, 12, 13⟩ htab (fun z hz => by
        simp only [List.mem_cons, List.not_mem_nil, or_false] at hz
        rcases hz with rfl
        · exact ⟨1, by decide, by omega, rfl⟩) rfl (by rw [show min (i + 2) 2 = 2 by omega]; rfl) hq hv hc kk
  · match i, hi with
    | 0, hi => cases hi
    | 1, hi =>
      cases hi
      refine tg_eq (r := some (1, ((xo, xd), (v', bs)))) rfl ?_
      refine tg_astore_n [(3, .ref q), (0, .ref (ad 247)), (1, .int x1), (2, .int x2)] C0 dL_setForm_9 rfl (by decide) rfl ?_
      refine tg_iconst (x := 1) C0 dL_setForm_10 (by decide) ?_
      exact tl_iret C0 hT dL_setForm_11 ⟨Nat.le_of_ble_eq_true rfl, Nat.le_of_ble_eq_true rfl⟩
    | i + 2, hi =>
      cases hi
      refine tg_eq (r := some (2, ((xo, xd), (v', bs)))) rfl ?_
      refine tg_astore_n [(3, .ref q), (0, .ref (ad 247)), (1, .int x1), (2, .int x2)] C0 dL_setForm_12 rfl (by decide) rfl ?_
      refine tg_iconst (x := 2) C0 dL_setForm_13 (by decide) ?_
      exact tl_iret C0 hT dL_setForm_14 ⟨Nat.le_of_ble_eq_true rfl, Nat.le_of_ble_eq_true rfl⟩
  · refine tg_goto 15 C0 dL_setForm_6 (by decide) ?_
    refine tg_iconst (x := 0) C0 dL_setForm_15 (by decide) ?_
    exact tl_iret C0 hT dL_setForm_16 ⟨Nat.le_of_ble_eq_true rfl, Nat.le_of_ble_eq_true rfl⟩
theorem cL_c_setForm (l : Launch) (hl : l.stackTraces = false) {adK adV adE : Nat → Nat} {tC : Nat} (x1 : Int32) (x2 : Int32) (v : tmM) (bs : List Int32) : tlI l adK adV adE tC yL_setForm (Cond.codeWith yL_setForm cL_setForm 4 (some .int) [(0, 6, 9, 18), (0, 6, 12, 13)] :: TMW) ({ frames := 8, cells := 2, slots := 12, locals := 146 }) (fun o1 o2 => [.int x1, .int x2]) v bs 2 12 (g_setForm x1 x2 v bs) :=
  tlI.of (hh := [(0, 6, 9, 18), (0, 6, 12, 13)]) (by decide +kernel) rfl (fun _ _ _ => Nat.le_of_ble_eq_true rfl) (fun p e s m args below meth c A D cy ad ar o1 o2 cL cD κ b0 u w xo xd z C0 hE hTh hF hT htab => wL_setForm hl x1 x2 C0 hE hTh hF hT htab)
-- ----- setUp
theorem dL_setUp_0 : decode cL_setUp 0 = .ok (.aload_n 3, 1) := by decide +kernel
theorem dL_setUp_1 : decode cL_setUp 1 = .ok (.iconst 0, 1) := by decide +kernel
theorem dL_setUp_2 : decode cL_setUp 2 = .ok (.aload_n 0, 1) := by decide +kernel
theorem dL_setUp_3 : decode cL_setUp 3 = .ok (.iload_n 1, 1) := by decide +kernel
theorem dL_setUp_4 : decode cL_setUp 4 = .ok (.iload_n 2, 1) := by decide +kernel
theorem dL_setUp_5 : decode cL_setUp 5 = .ok (.invokevirtual 24, 3) := by decide +kernel
theorem dL_setUp_8 : decode cL_setUp 8 = .ok (.ifCond .eq 7, 3) := by decide +kernel
theorem dL_setUp_11 : decode cL_setUp 11 = .ok (.lconst 1, 1) := by decide +kernel
theorem dL_setUp_12 : decode cL_setUp 12 = .ok (.goto 4, 3) := by decide +kernel
theorem dL_setUp_15 : decode cL_setUp 15 = .ok (.lconst 0, 1) := by decide +kernel
theorem dL_setUp_16 : decode cL_setUp 16 = .ok (.lastore, 1) := by decide +kernel
theorem dL_setUp_17 : decode cL_setUp 17 = .ok (.goto 7, 3) := by decide +kernel
theorem dL_setUp_20 : decode cL_setUp 20 = .ok (.astore 4, 2) := by decide +kernel
theorem dL_setUp_22 : decode cL_setUp 22 = .ok (.iconst 1, 1) := by decide +kernel
theorem dL_setUp_23 : decode cL_setUp 23 = .ok (.ireturn, 1) := by decide +kernel
theorem dL_setUp_24 : decode cL_setUp 24 = .ok (.iconst 0, 1) := by decide +kernel
theorem dL_setUp_25 : decode cL_setUp 25 = .ok (.ireturn, 1) := by decide +kernel
theorem tl_L_24 : Cond.methodLink RL 24 yX7_setUp ∈ TMW := tm_in 936 (by decide +kernel) (by decide +kernel)
theorem ti_X7_setUp : Cond.instanceMethod yX7_setUp ∈ TMW := tm_in 937 (by decide +kernel) (by decide +kernel)
theorem ts_X7_setUp : Cond.selects RX7 yX7_setUp yX7_setUp ∈ TMW := tm_in 938 (by decide +kernel) (by decide +kernel)
theorem tc_X7_setUp : Cond.code yX7_setUp cX7_setUp 4 (some .boolean) ∈ TMW := tm_in 939 (by decide +kernel) (by decide +kernel)
def g_setUp (x1 : Int32) (x2 : Int32) (v : tmM) (bs : List Int32) (xo : Int64) (xd : UInt64) : Option (Int32 × tlS) := tl_cx (f_X7_setUp x1 x2 v) (fun r v' => if r = 0 then some (0, ((0, xd), (v', bs))) else some (0, ((1, xd), (v', bs)))) (fun i v' => tl_kx (some 1) (none) (none) i ((xo, xd), (v', bs)))
set_option maxRecDepth 100000 in
theorem wL_setUp {p : Program} {l : Launch} (hl : l.stackTraces = false) {e : Env} {s : State} {m : MethodId} {args : Array Value} {below : List Frame} {meth : Method} {c : Code} {A : Nat → Prop} {D : va_G} {cy : Nat → ClassId} {ad ar : Nat → Nat} {o1 o2 : Nat} {cL cD : ClassId} {κ b0 : Nat} {u v w : tmM} {bs : List Int32} {xo : Int64} {xd : UInt64} {z : Int32 × tlS} {adK adV adE : Nat → Nat} {tC : Nat} (x1 : Int32) (x2 : Int32) (C0 : tmC p s m args meth c cL_setUp 5 (some .int) RL TMW tm_NWC D cy tm_s0 tm_a0 0 (tlW cy ad ar o1 o2 cL cD κ b0 u v w xo xd) A) (hE : tmSc adK adV adE tC A s s.heap) (hTh : tmTh A s s.heap) (hF : tlF D cy cL cD s) (hT : tmTx κ u bs) (htab : c.exceptionTable.toList = tableOf [(0, 17, 20, 28)]) : tmG p l e ({ frames := 8, cells := 1, slots := 6, locals := 147 }) s m args below meth c 0 0 (MQ below (va_Qi (fun r y => z = (r, y)) (tlT D cy ad ar o1 o2 cL cD w A) A) args s 1 6 A) 5 D cy tm_s0 tm_a0 0 (tlW cy ad ar o1 o2 cL cD κ b0 u v w xo xd) A z 0 [(0, .ref (ad 247)), (1, .int x1), (2, .int x2), (3, .ref o1)] [] tm_v0 (g_setUp x1 x2 v bs xo xd) := by
  unfold g_setUp
  refine tg_aload_n 3 C0 dL_setUp_0 rfl rfl ?_
  refine tg_iconst (x := 0) C0 dL_setUp_1 (by decide) ?_
  refine tg_aload_n 0 C0 dL_setUp_2 rfl rfl ?_
  refine tg_iload_n 1 C0 dL_setUp_3 rfl rfl ?_
  refine tg_iload_n 2 C0 dL_setUp_4 rfl rfl ?_
  refine tl_xi (tl_hh (some 20) (none) (none)) (As := [.int x1, .int x2]) (fs := [some 0, some 248, none, none, some 249, none, some 250, some 251, some 256]) 2 C0 hTh dL_setUp_5 (c_X7_setUp l hl x1 x2 v) rfl rfl rfl rfl (tm_gV tl_L_24 ti_X7_setUp ts_X7_setUp tn_X7 tc_X7_setUp) rfl rfl rfl rfl (by decide +kernel) ⟨Nat.le_of_ble_eq_true rfl, Nat.le_of_ble_eq_true rfl⟩ (Nat.le_of_ble_eq_true rfl) ⟨Nat.le_of_ble_eq_true rfl, Nat.le_of_ble_eq_true rfl⟩ (fun i v' h => tl_hno (fun h => by cases h) (fun _ => rfl) (fun _ => rfl) i ((xo, xd), (v', bs)) h) (fun i pcH hi H locs ls q ce hq hv hc kk => ?_) (fun i pcH q v' hi C0 => ?_) (fun r v' C0 => ?_)
  · match i, hi with
    | 0, hi =>
      cases hi
      exact tl_catch (0) C0.2.2.2.2.2.1 C0.2.2.2.2.2.2.1 tl_hcl hF [] [] ⟨0, 17, 20, 28⟩ htab (fun z hz => by cases hz) rfl rfl hq hv hc kk
    | 1, hi => cases hi
    | i + 2, hi => cases hi
  · match i, hi with
    | 0, hi =>
      cases hi
      refine tg_eq (r := some (1, ((xo, xd), (v', bs)))) rfl ?_
      refine tg_astore [(4, .ref q), (0, .ref (ad 247)), (1, .int x1), (2, .int x2), (3, .ref o1)] C0 dL_setUp_20 (by decide) rfl ?_
      refine tg_iconst (x := 1) C0 dL_setUp_22 (by decide) ?_
      exact tl_iret C0 hT dL_setUp_23 ⟨Nat.le_of_ble_eq_true rfl, Nat.le_of_ble_eq_true rfl⟩
    | 1, hi => cases hi
    | i + 2, hi => cases hi
  · refine tg_if_eq 15 C0 dL_setUp_8 (by decide) (fun _ => ?_) (fun _ => ?_)
    · refine tl_lconst (x := 0) C0 dL_setUp_15 rfl ?_
      refine tl_last C0 hF dL_setUp_16 (fun C0 => ?_)
      refine tg_goto 24 C0 dL_setUp_17 (by decide) ?_
      refine tg_iconst (x := 0) C0 dL_setUp_24 (by decide) ?_
      exact tl_iret C0 hT dL_setUp_25 ⟨Nat.le_of_ble_eq_true rfl, Nat.le_of_ble_eq_true rfl⟩
    · refine tl_lconst (x := 1) C0 dL_setUp_11 rfl ?_
      refine tg_goto 16 C0 dL_setUp_12 (by decide) ?_
      refine tl_last C0 hF dL_setUp_16 (fun C0 => ?_)
      refine tg_goto 24 C0 dL_setUp_17 (by decide) ?_
      refine tg_iconst (x := 0) C0 dL_setUp_24 (by decide) ?_
      exact tl_iret C0 hT dL_setUp_25 ⟨Nat.le_of_ble_eq_true rfl, Nat.le_of_ble_eq_true rfl⟩
theorem cL_c_setUp (l : Launch) (hl : l.stackTraces = false) {adK adV adE : Nat → Nat} {tC : Nat} (x1 : Int32) (x2 : Int32) (v : tmM) (bs : List Int32) : tlI l adK adV adE tC yL_setUp (Cond.codeWith yL_setUp cL_setUp 5 (some .int) [(0, 17, 20, 28)] :: TMW) ({ frames := 8, cells := 1, slots := 6, locals := 147 }) (fun o1 o2 => [.int x1, .int x2, .ref o1]) v bs 1 6 (g_setUp x1 x2 v bs) :=
  tlI.of (hh := [(0, 17, 20, 28)]) (by decide +kernel) rfl (fun _ _ _ => Nat.le_of_ble_eq_true rfl) (fun p e s m args below meth c A D cy ad ar o1 o2 cL cD κ b0 u w xo xd z C0 hE hTh hF hT htab => wL_setUp hl x1 x2 C0 hE hTh hF hT htab)
-- ----- damage
theorem dL_damage_0 : decode cL_damage 0 = .ok (.aload_n 3, 1) := by decide +kernel
theorem dL_damage_1 : decode cL_damage 1 = .ok (.iconst 0, 1) := by decide +kernel
theorem dL_damage_2 : decode cL_damage 2 = .ok (.aload_n 0, 1) := by decide +kernel
theorem dL_damage_3 : decode cL_damage 3 = .ok (.iload_n 1, 1) := by decide +kernel
theorem dL_damage_4 : decode cL_damage 4 = .ok (.iload_n 2, 1) := by decide +kernel
theorem dL_damage_5 : decode cL_damage 5 = .ok (.invokevirtual 30, 3) := by decide +kernel
theorem dL_damage_8 : decode cL_damage 8 = .ok (.i2l, 1) := by decide +kernel
theorem dL_damage_9 : decode cL_damage 9 = .ok (.lastore, 1) := by decide +kernel
theorem dL_damage_10 : decode cL_damage 10 = .ok (.goto 15, 3) := by decide +kernel
theorem dL_damage_13 : decode cL_damage 13 = .ok (.astore 4, 2) := by decide +kernel
theorem dL_damage_15 : decode cL_damage 15 = .ok (.iconst 1, 1) := by decide +kernel
theorem dL_damage_16 : decode cL_damage 16 = .ok (.ireturn, 1) := by decide +kernel
theorem dL_damage_17 : decode cL_damage 17 = .ok (.astore 4, 2) := by decide +kernel
theorem dL_damage_19 : decode cL_damage 19 = .ok (.iconst 2, 1) := by decide +kernel
theorem dL_damage_20 : decode cL_damage 20 = .ok (.ireturn, 1) := by decide +kernel
theorem dL_damage_21 : decode cL_damage 21 = .ok (.astore 4, 2) := by decide +kernel
theorem dL_damage_23 : decode cL_damage 23 = .ok (.iconst 3, 1) := by decide +kernel
theorem dL_damage_24 : decode cL_damage 24 = .ok (.ireturn, 1) := by decide +kernel
theorem dL_damage_25 : decode cL_damage 25 = .ok (.iconst 0, 1) := by decide +kernel
theorem dL_damage_26 : decode cL_damage 26 = .ok (.ireturn, 1) := by decide +kernel
theorem tl_L_30 : Cond.methodLink RL 30 yX7_damage ∈ TMW := tm_in 965 (by decide +kernel) (by decide +kernel)
theorem ti_X7_damage : Cond.instanceMethod yX7_damage ∈ TMW := tm_in 966 (by decide +kernel) (by decide +kernel)
theorem ts_X7_damage : Cond.selects RX7 yX7_damage yX7_damage ∈ TMW := tm_in 967 (by decide +kernel) (by decide +kernel)
theorem tc_X7_damage : Cond.code yX7_damage cX7_damage 4 (some .int) ∈ TMW := tm_in 968 (by decide +kernel) (by decide +kernel)
def g_damage (x1 : Int32) (x2 : Int32) (v : tmM) (bs : List Int32) (xo : Int64) (xd : UInt64) : Option (Int32 × tlS) := tl_cx (f_X7_damage x1 x2 v) (fun r v' => some (0, ((r.toInt64, xd), (v', bs)))) (fun i v' => tl_kx (some 1) (some 2) (some 3) i ((xo, xd), (v', bs)))
set_option maxRecDepth 100000 in
theorem wL_damage {p : Program} {l : Launch} (hl : l.stackTraces = false) {e : Env} {s : State} {m : MethodId} {args : Array Value} {below : List Frame} {meth : Method} {c : Code} {A : Nat → Prop} {D : va_G} {cy : Nat → ClassId} {ad ar : Nat → Nat} {o1 o2 : Nat} {cL cD : ClassId} {κ b0 : Nat} {u v w : tmM} {bs : List Int32} {xo : Int64} {xd : UInt64} {z : Int32 × tlS} {adK adV adE : Nat → Nat} {tC : Nat} (x1 : Int32) (x2 : Int32) (C0 : tmC p s m args meth c cL_damage 5 (some .int) RL TMW tm_NWC D cy tm_s0 tm_a0 0 (tlW cy ad ar o1 o2 cL cD κ b0 u v w xo xd) A) (hE : tmSc adK adV adE tC A s s.heap) (hTh : tmTh A s s.heap) (hF : tlF D cy cL cD s) (hT : tmTx κ u bs) (htab : c.exceptionTable.toList = tableOf [(0, 10, 13, 28), (0, 10, 17, 18), (0, 10, 21, 13)]) : tmG p l e ({ frames := 8, cells := 3, slots := 18, locals := 147 }) s m args below meth c 0 0 (MQ below (va_Qi (fun r y => z = (r, y)) (tlT D cy ad ar o1 o2 cL cD w A) A) args s 3 18 A) 5 D cy tm_s0 tm_a0 0 (tlW cy ad ar o1 o2 cL cD κ b0 u v w xo xd) A z 0 [(0, .ref (ad 247)), (1, .int x1), (2, .int x2), (3, .ref o1)] [] tm_v0 (g_damage x1 x2 v bs xo xd) := by
  unfold g_damage
  refine tg_aload_n 3 C0 dL_damage_0 rfl rfl ?_
  refine tg_iconst (x := 0) C0 dL_damage_1 (by decide) ?_
  refine tg_aload_n 0 C0 dL_damage_2 rfl rfl ?_
  refine tg_iload_n 1 C0 dL_damage_3 rfl rfl ?_
  refine tg_iload_n 2 C0 dL_damage_4 rfl rfl ?_
  refine tl_xi (tl_hh (some 13) (some 17) (some 21)) (As := [.int x1, .int x2]) (fs := [some 0, some 248, none, none, some 249, none, some 250, some 251, some 256]) 2 C0 hTh dL_damage_5 (c_X7_damage l hl x1 x2 v) rfl rfl rfl rfl (tm_gV tl_L_30 ti_X7_damage ts_X7_damage tn_X7 tc_X7_damage) rfl rfl rfl rfl (by decide +kernel) ⟨Nat.le_of_ble_eq_true rfl, Nat.le_of_ble_eq_true rfl⟩ (Nat.le_of_ble_eq_true rfl) ⟨Nat.le_of_ble_eq_true rfl, Nat.le_of_ble_eq_true rfl⟩ (fun i v' h => tl_hno (fun h => by cases h) (fun h => by cases h) (fun h => by cases h) i ((xo, xd), (v', bs)) h) (fun i pcH hi H locs ls q ce hq hv hc kk => ?_) (fun i pcH q v' hi C0 => ?_) (fun r v' C0 => ?_)
  · match i, hi with
    | 0, hi =>
      cases hi
      exact tl_catch (0) C0.2.2.2.2.2.1 C0.2.2.2.2.2.2.1 tl_hcl hF [] [⟨0, 10, 17, 18⟩, ⟨0, 10, 21, 13⟩] ⟨0, 10, 13, 28⟩ htab (fun z hz => by cases hz) rfl rfl hq hv hc kk
    | 1, hi =>
      cases hi
      exact tl_catch (1) C0.2.2.2.2.2.1 C0.2.2.2.2.2.2.1 tl_hcl hF [⟨0, 10, 13, 28⟩] [⟨0, 10, 21, 13⟩] ⟨0, 10, 17, 18⟩ htab (fun z hz => by
        simp only [List.mem_cons, List.not_mem_nil, or_false] at hz
        rcases hz with rfl
        · exact ⟨0, by decide, by omega, rfl⟩) rfl rfl hq hv hc kk
    | i + 2, hi =>
      cases hi
      exact tl_catch (i + 2) C0.2.2.2.2.2.1 C0.2.2.2.2.2.2.1 tl_hcl hF [⟨0, 10, 13, 28⟩, ⟨0, 10, 17, 18⟩] [] ⟨0, 10, 21, 13⟩ htab (fun z hz => by
        simp only [List.mem_cons, List.not_mem_nil, or_false] at hz
        rcases hz with rfl | rfl
        · exact ⟨0, by decide, by omega, rfl⟩
        · exact ⟨1, by decide, by omega, rfl⟩) rfl (by rw [show min (i + 2) 2 = 2 by omega]; rfl) hq hv hc kk
  · match i, hi with
    | 0, hi =>
      cases hi
      refine tg_eq (r := some (1, ((xo, xd), (v', bs)))) rfl ?_
      refine tg_astore [(4, .ref q), (0, .ref (ad 247)), (1, .int x1), (2, .int x2), (3, .ref o1)] C0 dL_damage_13 (by decide) rfl ?_
      refine tg_iconst (x := 1) C0 dL_damage_15 (by decide) ?_
      exact tl_iret C0 hT dL_damage_16 ⟨Nat.le_of_ble_eq_true rfl, Nat.le_of_ble_eq_true rfl⟩
    | 1, hi =>
      cases hi
      refine tg_eq (r := some (2, ((xo, xd), (v', bs)))) rfl ?_
      refine tg_astore [(4, .ref q), (0, .ref (ad 247)), (1, .int x1), (2, .int x2), (3, .ref o1)] C0 dL_damage_17 (by decide) rfl ?_
      refine tg_iconst (x := 2) C0 dL_damage_19 (by decide) ?_
      exact tl_iret C0 hT dL_damage_20 ⟨Nat.le_of_ble_eq_true rfl, Nat.le_of_ble_eq_true rfl⟩
    | i + 2, hi =>
      cases hi
      refine tg_eq (r := some (3, ((xo, xd), (v', bs)))) rfl ?_
      refine tg_astore [(4, .ref q), (0, .ref (ad 247)), (1, .int x1), (2, .int x2), (3, .ref o1)] C0 dL_damage_21 (by decide) rfl ?_
      refine tg_iconst (x := 3) C0 dL_damage_23 (by decide) ?_
      exact tl_iret C0 hT dL_damage_24 ⟨Nat.le_of_ble_eq_true rfl, Nat.le_of_ble_eq_true rfl⟩
  · refine tl_i2l C0 dL_damage_8 ?_
    refine tl_last C0 hF dL_damage_9 (fun C0 => ?_)
    refine tg_goto 25 C0 dL_damage_10 (by decide) ?_
    refine tg_iconst (x := 0) C0 dL_damage_25 (by decide) ?_
    exact tl_iret C0 hT dL_damage_26 ⟨Nat.le_of_ble_eq_true rfl, Nat.le_of_ble_eq_true rfl⟩
theorem cL_c_damage (l : Launch) (hl : l.stackTraces = false) {adK adV adE : Nat → Nat} {tC : Nat} (x1 : Int32) (x2 : Int32) (v : tmM) (bs : List Int32) : tlI l adK adV adE tC yL_damage (Cond.codeWith yL_damage cL_damage 5 (some .int) [(0, 10, 13, 28), (0, 10, 17, 18), (0, 10, 21, 13)] :: TMW) ({ frames := 8, cells := 3, slots := 18, locals := 147 }) (fun o1 o2 => [.int x1, .int x2, .ref o1]) v bs 3 18 (g_damage x1 x2 v bs) :=
  tlI.of (hh := [(0, 10, 13, 28), (0, 10, 17, 18), (0, 10, 21, 13)]) (by decide +kernel) rfl (fun _ _ _ => Nat.le_of_ble_eq_true rfl) (fun p e s m args below meth c A D cy ad ar o1 o2 cL cD κ b0 u w xo xd z C0 hE hTh hF hT htab => wL_damage hl x1 x2 C0 hE hTh hF hT htab)
-- ----- count
theorem dL_count_0 : decode cL_count 0 = .ok (.aload_n 2, 1) := by decide +kernel
theorem dL_count_1 : decode cL_count 1 = .ok (.iconst 0, 1) := by decide +kernel
theorem dL_count_2 : decode cL_count 2 = .ok (.aload_n 0, 1) := by decide +kernel
theorem dL_count_3 : decode cL_count 3 = .ok (.iload_n 1, 1) := by decide +kernel
theorem dL_count_4 : decode cL_count 4 = .ok (.invokevirtual 34, 3) := by decide +kernel
theorem dL_count_7 : decode cL_count 7 = .ok (.i2l, 1) := by decide +kernel
theorem dL_count_8 : decode cL_count 8 = .ok (.lastore, 1) := by decide +kernel
theorem dL_count_9 : decode cL_count 9 = .ok (.goto 6, 3) := by decide +kernel
theorem dL_count_12 : decode cL_count 12 = .ok (.astore_n 3, 1) := by decide +kernel
theorem dL_count_13 : decode cL_count 13 = .ok (.iconst 1, 1) := by decide +kernel
theorem dL_count_14 : decode cL_count 14 = .ok (.ireturn, 1) := by decide +kernel
theorem dL_count_15 : decode cL_count 15 = .ok (.iconst 0, 1) := by decide +kernel
theorem dL_count_16 : decode cL_count 16 = .ok (.ireturn, 1) := by decide +kernel
theorem tl_L_34 : Cond.methodLink RL 34 yX7_count ∈ TMW := tm_in 975 (by decide +kernel) (by decide +kernel)
theorem ti_X7_count : Cond.instanceMethod yX7_count ∈ TMW := tm_in 976 (by decide +kernel) (by decide +kernel)
theorem ts_X7_count : Cond.selects RX7 yX7_count yX7_count ∈ TMW := tm_in 977 (by decide +kernel) (by decide +kernel)
theorem tc_X7_count : Cond.code yX7_count cX7_count 2 (some .int) ∈ TMW := tm_in 978 (by decide +kernel) (by decide +kernel)
def g_count (x1 : Int32) (v : tmM) (bs : List Int32) (xo : Int64) (xd : UInt64) : Option (Int32 × tlS) := tl_cx (f_X7_count x1 v) (fun r v' => some (0, ((r.toInt64, xd), (v', bs)))) (fun i v' => tl_kx (none) (some 1) (none) i ((xo, xd), (v', bs)))
set_option maxRecDepth 100000 in
theorem wL_count {p : Program} {l : Launch} (hl : l.stackTraces = false) {e : Env} {s : State} {m : MethodId} {args : Array Value} {below : List Frame} {meth : Method} {c : Code} {A : Nat → Prop} {D : va_G} {cy : Nat → ClassId} {ad ar : Nat → Nat} {o1 o2 : Nat} {cL cD : ClassId} {κ b0 : Nat} {u v w : tmM} {bs : List Int32} {xo : Int64} {xd : UInt64} {z : Int32 × tlS} {adK adV adE : Nat → Nat} {tC : Nat} (x1 : Int32) (C0 : tmC p s m args meth c cL_count 4 (some .int) RL TMW tm_NWC D cy tm_s0 tm_a0 0 (tlW cy ad ar o1 o2 cL cD κ b0 u v w xo xd) A) (hE : tmSc adK adV adE tC A s s.heap) (hTh : tmTh A s s.heap) (hF : tlF D cy cL cD s) (hT : tmTx κ u bs) (htab : c.exceptionTable.toList = tableOf [(0, 9, 12, 18)]) : tmG p l e ({ frames := 8, cells := 1, slots := 6, locals := 131 }) s m args below meth c 0 0 (MQ below (va_Qi (fun r y => z = (r, y)) (tlT D cy ad ar o1 o2 cL cD w A) A) args s 1 6 A) 4 D cy tm_s0 tm_a0 0 (tlW cy ad ar o1 o2 cL cD κ b0 u v w xo xd) A z 0 [(0, .ref (ad 247)), (1, .int x1), (2, .ref o1)] [] tm_v0 (g_count x1 v bs xo xd) := by
  unfold g_count
  refine tg_aload_n 2 C0 dL_count_0 rfl rfl ?_
  refine tg_iconst (x := 0) C0 dL_count_1 (by decide) ?_
  refine tg_aload_n 0 C0 dL_count_2 rfl rfl ?_
  refine tg_iload_n 1 C0 dL_count_3 rfl rfl ?_
  refine tl_xi (tl_hh (none) (some 12) (none)) (As := [.int x1]) (fs := [some 0, some 248, none, none, some 249, none, some 250, some 251, some 256]) 1 C0 hTh dL_count_4 (c_X7_count l hl x1 v) rfl rfl rfl rfl (tm_gV tl_L_34 ti_X7_count ts_X7_count tn_X7 tc_X7_count) rfl rfl rfl rfl (by decide +kernel) ⟨Nat.le_of_ble_eq_true rfl, Nat.le_of_ble_eq_true rfl⟩ (Nat.le_of_ble_eq_true rfl) ⟨Nat.le_of_ble_eq_true rfl, Nat.le_of_ble_eq_true rfl⟩ (fun i v' h => tl_hno (fun _ => rfl) (fun h => by cases h) (fun _ => rfl) i ((xo, xd), (v', bs)) h) (fun i pcH hi H locs ls q ce hq hv hc kk => ?_) (fun i pcH q v' hi C0 => ?_) (fun r v' C0 => ?_)
  · match i, hi with
    | 0, hi => cases hi
    | 1, hi =>
      cases hi
      exact tl_catch (1) C0.2.2.2.2.2.1 C0.2.2.2.2.2.2.1 tl_hcl hF [] [] ⟨0, 9, 12, 18⟩ htab (fun z hz => by cases hz) rfl rfl hq hv hc kk
    | i + 2, hi => cases hi
  · match i, hi with
    | 0, hi => cases hi
    | 1, hi =>
      cases hi
      refine tg_eq (r := some (1, ((xo, xd), (v', bs)))) rfl ?_
      refine tg_astore_n [(3, .ref q), (0, .ref (ad 247)), (1, .int x1), (2, .ref o1)] C0 dL_count_12 rfl (by decide) rfl ?_
      refine tg_iconst (x := 1) C0 dL_count_13 (by decide) ?_
      exact tl_iret C0 hT dL_count_14 ⟨Nat.le_of_ble_eq_true rfl, Nat.le_of_ble_eq_true rfl⟩
    | i + 2, hi => cases hi
  · refine tl_i2l C0 dL_count_7 ?_
    refine tl_last C0 hF dL_count_8 (fun C0 => ?_)
    refine tg_goto 15 C0 dL_count_9 (by decide) ?_
    refine tg_iconst (x := 0) C0 dL_count_15 (by decide) ?_
    exact tl_iret C0 hT dL_count_16 ⟨Nat.le_of_ble_eq_true rfl, Nat.le_of_ble_eq_true rfl⟩
theorem cL_c_count (l : Launch) (hl : l.stackTraces = false) {adK adV adE : Nat → Nat} {tC : Nat} (x1 : Int32) (v : tmM) (bs : List Int32) : tlI l adK adV adE tC yL_count (Cond.codeWith yL_count cL_count 4 (some .int) [(0, 9, 12, 18)] :: TMW) ({ frames := 8, cells := 1, slots := 6, locals := 131 }) (fun o1 o2 => [.int x1, .ref o1]) v bs 1 6 (g_count x1 v bs) :=
  tlI.of (hh := [(0, 9, 12, 18)]) (by decide +kernel) rfl (fun _ _ _ => Nat.le_of_ble_eq_true rfl) (fun p e s m args below meth c A D cy ad ar o1 o2 cL cD κ b0 u w xo xd z C0 hE hTh hF hT htab => wL_count hl x1 C0 hE hTh hF hT htab)
-- ----- stored
theorem dL_stored_0 : decode cL_stored 0 = .ok (.aload_n 3, 1) := by decide +kernel
theorem dL_stored_1 : decode cL_stored 1 = .ok (.iconst 0, 1) := by decide +kernel
theorem dL_stored_2 : decode cL_stored 2 = .ok (.aload_n 0, 1) := by decide +kernel
theorem dL_stored_3 : decode cL_stored 3 = .ok (.iload_n 1, 1) := by decide +kernel
theorem dL_stored_4 : decode cL_stored 4 = .ok (.iload_n 2, 1) := by decide +kernel
theorem dL_stored_5 : decode cL_stored 5 = .ok (.invokevirtual 37, 3) := by decide +kernel
theorem dL_stored_8 : decode cL_stored 8 = .ok (.i2l, 1) := by decide +kernel
theorem dL_stored_9 : decode cL_stored 9 = .ok (.lastore, 1) := by decide +kernel
theorem dL_stored_10 : decode cL_stored 10 = .ok (.goto 7, 3) := by decide +kernel
theorem dL_stored_13 : decode cL_stored 13 = .ok (.astore 4, 2) := by decide +kernel
theorem dL_stored_15 : decode cL_stored 15 = .ok (.iconst 1, 1) := by decide +kernel
theorem dL_stored_16 : decode cL_stored 16 = .ok (.ireturn, 1) := by decide +kernel
theorem dL_stored_17 : decode cL_stored 17 = .ok (.iconst 0, 1) := by decide +kernel
theorem dL_stored_18 : decode cL_stored 18 = .ok (.ireturn, 1) := by decide +kernel
theorem tl_L_37 : Cond.methodLink RL 37 yX7_stored ∈ TMW := tm_in 993 (by decide +kernel) (by decide +kernel)
theorem ti_X7_stored : Cond.instanceMethod yX7_stored ∈ TMW := tm_in 994 (by decide +kernel) (by decide +kernel)
theorem ts_X7_stored : Cond.selects RX7 yX7_stored yX7_stored ∈ TMW := tm_in 995 (by decide +kernel) (by decide +kernel)
theorem tc_X7_stored : Cond.code yX7_stored cX7_stored 3 (some .int) ∈ TMW := tm_in 996 (by decide +kernel) (by decide +kernel)
def g_stored (x1 : Int32) (x2 : Int32) (v : tmM) (bs : List Int32) (xo : Int64) (xd : UInt64) : Option (Int32 × tlS) := tl_cx (f_X7_stored x1 x2 v) (fun r v' => some (0, ((r.toInt64, xd), (v', bs)))) (fun i v' => tl_kx (some 1) (none) (none) i ((xo, xd), (v', bs)))
set_option maxRecDepth 100000 in
theorem wL_stored {p : Program} {l : Launch} (hl : l.stackTraces = false) {e : Env} {s : State} {m : MethodId} {args : Array Value} {below : List Frame} {meth : Method} {c : Code} {A : Nat → Prop} {D : va_G} {cy : Nat → ClassId} {ad ar : Nat → Nat} {o1 o2 : Nat} {cL cD : ClassId} {κ b0 : Nat} {u v w : tmM} {bs : List Int32} {xo : Int64} {xd : UInt64} {z : Int32 × tlS} {adK adV adE : Nat → Nat} {tC : Nat} (x1 : Int32) (x2 : Int32) (C0 : tmC p s m args meth c cL_stored 5 (some .int) RL TMW tm_NWC D cy tm_s0 tm_a0 0 (tlW cy ad ar o1 o2 cL cD κ b0 u v w xo xd) A) (hE : tmSc adK adV adE tC A s s.heap) (hTh : tmTh A s s.heap) (hF : tlF D cy cL cD s) (hT : tmTx κ u bs) (htab : c.exceptionTable.toList = tableOf [(0, 10, 13, 28)]) : tmG p l e ({ frames := 8, cells := 1, slots := 6, locals := 132 }) s m args below meth c 0 0 (MQ below (va_Qi (fun r y => z = (r, y)) (tlT D cy ad ar o1 o2 cL cD w A) A) args s 1 6 A) 5 D cy tm_s0 tm_a0 0 (tlW cy ad ar o1 o2 cL cD κ b0 u v w xo xd) A z 0 [(0, .ref (ad 247)), (1, .int x1), (2, .int x2), (3, .ref o1)] [] tm_v0 (g_stored x1 x2 v bs xo xd) := by
  unfold g_stored
  refine tg_aload_n 3 C0 dL_stored_0 rfl rfl ?_
  refine tg_iconst (x := 0) C0 dL_stored_1 (by decide) ?_
  refine tg_aload_n 0 C0 dL_stored_2 rfl rfl ?_
  refine tg_iload_n 1 C0 dL_stored_3 rfl rfl ?_
  refine tg_iload_n 2 C0 dL_stored_4 rfl rfl ?_
  refine tl_xi (tl_hh (some 13) (none) (none)) (As := [.int x1, .int x2]) (fs := [some 0, some 248, none, none, some 249, none, some 250, some 251, some 256]) 2 C0 hTh dL_stored_5 (c_X7_stored l hl x1 x2 v) rfl rfl rfl rfl (tm_gV tl_L_37 ti_X7_stored ts_X7_stored tn_X7 tc_X7_stored) rfl rfl rfl rfl (by decide +kernel) ⟨Nat.le_of_ble_eq_true rfl, Nat.le_of_ble_eq_true rfl⟩ (Nat.le_of_ble_eq_true rfl) ⟨Nat.le_of_ble_eq_true rfl, Nat.le_of_ble_eq_true rfl⟩ (fun i v' h => tl_hno (fun h => by cases h) (fun _ => rfl) (fun _ => rfl) i ((xo, xd), (v', bs)) h) (fun i pcH hi H locs ls q ce hq hv hc kk => ?_) (fun i pcH q v' hi C0 => ?_) (fun r v' C0 => ?_)
  · match i, hi with
    | 0, hi =>
      cases hi
      exact tl_catch (0) C0.2.2.2.2.2.1 C0.2.2.2.2.2.2.1 tl_hcl hF [] [] ⟨0, 10, 13, 28⟩ htab (fun z hz => by cases hz) rfl rfl hq hv hc kk
    | 1, hi => cases hi
    | i + 2, hi => cases hi
  · match i, hi with
    | 0, hi =>
      cases hi
      refine tg_eq (r := some (1, ((xo, xd), (v', bs)))) rfl ?_
      refine tg_astore [(4, .ref q), (0, .ref (ad 247)), (1, .int x1), (2, .int x2), (3, .ref o1)] C0 dL_stored_13 (by decide) rfl ?_
      refine tg_iconst (x := 1) C0 dL_stored_15 (by decide) ?_
      exact tl_iret C0 hT dL_stored_16 ⟨Nat.le_of_ble_eq_true rfl, Nat.le_of_ble_eq_true rfl⟩
    | 1, hi => cases hi
    | i + 2, hi => cases hi
  · refine tl_i2l C0 dL_stored_8 ?_
    refine tl_last C0 hF dL_stored_9 (fun C0 => ?_)
    refine tg_goto 17 C0 dL_stored_10 (by decide) ?_
    refine tg_iconst (x := 0) C0 dL_stored_17 (by decide) ?_
    exact tl_iret C0 hT dL_stored_18 ⟨Nat.le_of_ble_eq_true rfl, Nat.le_of_ble_eq_true rfl⟩
theorem cL_c_stored (l : Launch) (hl : l.stackTraces = false) {adK adV adE : Nat → Nat} {tC : Nat} (x1 : Int32) (x2 : Int32) (v : tmM) (bs : List Int32) : tlI l adK adV adE tC yL_stored (Cond.codeWith yL_stored cL_stored 5 (some .int) [(0, 10, 13, 28)] :: TMW) ({ frames := 8, cells := 1, slots := 6, locals := 132 }) (fun o1 o2 => [.int x1, .int x2, .ref o1]) v bs 1 6 (g_stored x1 x2 v bs) :=
  tlI.of (hh := [(0, 10, 13, 28)]) (by decide +kernel) rfl (fun _ _ _ => Nat.le_of_ble_eq_true rfl) (fun p e s m args below meth c A D cy ad ar o1 o2 cL cD κ b0 u w xo xd z C0 hE hTh hF hT htab => wL_stored hl x1 x2 C0 hE hTh hF hT htab)
-- ----- read
theorem dL_read_0 : decode cL_read 0 = .ok (.aload_n 3, 1) := by decide +kernel
theorem dL_read_1 : decode cL_read 1 = .ok (.iconst 0, 1) := by decide +kernel
theorem dL_read_2 : decode cL_read 2 = .ok (.aload_n 0, 1) := by decide +kernel
theorem dL_read_3 : decode cL_read 3 = .ok (.iload_n 1, 1) := by decide +kernel
theorem dL_read_4 : decode cL_read 4 = .ok (.iload_n 2, 1) := by decide +kernel
theorem dL_read_5 : decode cL_read 5 = .ok (.invokevirtual 40, 3) := by decide +kernel
theorem dL_read_8 : decode cL_read 8 = .ok (.i2l, 1) := by decide +kernel
theorem dL_read_9 : decode cL_read 9 = .ok (.lastore, 1) := by decide +kernel
theorem dL_read_10 : decode cL_read 10 = .ok (.goto 7, 3) := by decide +kernel
theorem dL_read_13 : decode cL_read 13 = .ok (.astore 4, 2) := by decide +kernel
theorem dL_read_15 : decode cL_read 15 = .ok (.iconst 1, 1) := by decide +kernel
theorem dL_read_16 : decode cL_read 16 = .ok (.ireturn, 1) := by decide +kernel
theorem dL_read_17 : decode cL_read 17 = .ok (.iconst 0, 1) := by decide +kernel
theorem dL_read_18 : decode cL_read 18 = .ok (.ireturn, 1) := by decide +kernel
theorem tl_L_40 : Cond.methodLink RL 40 yX7_read ∈ TMW := tm_in 1000 (by decide +kernel) (by decide +kernel)
theorem ti_X7_read : Cond.instanceMethod yX7_read ∈ TMW := tm_in 1001 (by decide +kernel) (by decide +kernel)
theorem ts_X7_read : Cond.selects RX7 yX7_read yX7_read ∈ TMW := tm_in 1002 (by decide +kernel) (by decide +kernel)
theorem tc_X7_read : Cond.code yX7_read cX7_read 4 (some .int) ∈ TMW := tm_in 1003 (by decide +kernel) (by decide +kernel)
def g_read (x1 : Int32) (x2 : Int32) (v : tmM) (bs : List Int32) (xo : Int64) (xd : UInt64) : Option (Int32 × tlS) := tl_cx (f_X7_read x1 x2 v) (fun r v' => some (0, ((r.toInt64, xd), (v', bs)))) (fun i v' => tl_kx (some 1) (none) (none) i ((xo, xd), (v', bs)))
set_option maxRecDepth 100000 in
theorem wL_read {p : Program} {l : Launch} (hl : l.stackTraces = false) {e : Env} {s : State} {m : MethodId} {args : Array Value} {below : List Frame} {meth : Method} {c : Code} {A : Nat → Prop} {D : va_G} {cy : Nat → ClassId} {ad ar : Nat → Nat} {o1 o2 : Nat} {cL cD : ClassId} {κ b0 : Nat} {u v w : tmM} {bs : List Int32} {xo : Int64} {xd : UInt64} {z : Int32 × tlS} {adK adV adE : Nat → Nat} {tC : Nat} (x1 : Int32) (x2 : Int32) (C0 : tmC p s m args meth c cL_read 5 (some .int) RL TMW tm_NWC D cy tm_s0 tm_a0 0 (tlW cy ad ar o1 o2 cL cD κ b0 u v w xo xd) A) (hE : tmSc adK adV adE tC A s s.heap) (hTh : tmTh A s s.heap) (hF : tlF D cy cL cD s) (hT : tmTx κ u bs) (htab : c.exceptionTable.toList = tableOf [(0, 10, 13, 28)]) : tmG p l e ({ frames := 8, cells := 1, slots := 6, locals := 133 }) s m args below meth c 0 0 (MQ below (va_Qi (fun r y => z = (r, y)) (tlT D cy ad ar o1 o2 cL cD w A) A) args s 1 6 A) 5 D cy tm_s0 tm_a0 0 (tlW cy ad ar o1 o2 cL cD κ b0 u v w xo xd) A z 0 [(0, .ref (ad 247)), (1, .int x1), (2, .int x2), (3, .ref o1)] [] tm_v0 (g_read x1 x2 v bs xo xd) := by
  unfold g_read
  refine tg_aload_n 3 C0 dL_read_0 rfl rfl ?_
  refine tg_iconst (x := 0) C0 dL_read_1 (by decide) ?_
  refine tg_aload_n 0 C0 dL_read_2 rfl rfl ?_
  refine tg_iload_n 1 C0 dL_read_3 rfl rfl ?_
  refine tg_iload_n 2 C0 dL_read_4 rfl rfl ?_
  refine tl_xi (tl_hh (some 13) (none) (none)) (As := [.int x1, .int x2]) (fs := [some 0, some 248, none, none, some 249, none, some 250, some 251, some 256]) 2 C0 hTh dL_read_5 (c_X7_read l hl x1 x2 v) rfl rfl rfl rfl (tm_gV tl_L_40 ti_X7_read ts_X7_read tn_X7 tc_X7_read) rfl rfl rfl rfl (by decide +kernel) ⟨Nat.le_of_ble_eq_true rfl, Nat.le_of_ble_eq_true rfl⟩ (Nat.le_of_ble_eq_true rfl) ⟨Nat.le_of_ble_eq_true rfl, Nat.le_of_ble_eq_true rfl⟩ (fun i v' h => tl_hno (fun h => by cases h) (fun _ => rfl) (fun _ => rfl) i ((xo, xd), (v', bs)) h) (fun i pcH hi H locs ls q ce hq hv hc kk => ?_) (fun i pcH q v' hi C0 => ?_) (fun r v' C0 => ?_)
  · match i, hi with
    | 0, hi =>
      cases hi
      exact tl_catch (0) C0.2.2.2.2.2.1 C0.2.2.2.2.2.2.1 tl_hcl hF [] [] ⟨0, 10, 13, 28⟩ htab (fun z hz => by cases hz) rfl rfl hq hv hc kk
    | 1, hi => cases hi
    | i + 2, hi => cases hi
  · match i, hi with
    | 0, hi =>
      cases hi
      refine tg_eq (r := some (1, ((xo, xd), (v', bs)))) rfl ?_
      refine tg_astore [(4, .ref q), (0, .ref (ad 247)), (1, .int x1), (2, .int x2), (3, .ref o1)] C0 dL_read_13 (by decide) rfl ?_
      refine tg_iconst (x := 1) C0 dL_read_15 (by decide) ?_
      exact tl_iret C0 hT dL_read_16 ⟨Nat.le_of_ble_eq_true rfl, Nat.le_of_ble_eq_true rfl⟩
    | 1, hi => cases hi
    | i + 2, hi => cases hi
  · refine tl_i2l C0 dL_read_8 ?_
    refine tl_last C0 hF dL_read_9 (fun C0 => ?_)
    refine tg_goto 17 C0 dL_read_10 (by decide) ?_
    refine tg_iconst (x := 0) C0 dL_read_17 (by decide) ?_
    exact tl_iret C0 hT dL_read_18 ⟨Nat.le_of_ble_eq_true rfl, Nat.le_of_ble_eq_true rfl⟩
theorem cL_c_read (l : Launch) (hl : l.stackTraces = false) {adK adV adE : Nat → Nat} {tC : Nat} (x1 : Int32) (x2 : Int32) (v : tmM) (bs : List Int32) : tlI l adK adV adE tC yL_read (Cond.codeWith yL_read cL_read 5 (some .int) [(0, 10, 13, 28)] :: TMW) ({ frames := 8, cells := 1, slots := 6, locals := 133 }) (fun o1 o2 => [.int x1, .int x2, .ref o1]) v bs 1 6 (g_read x1 x2 v bs) :=
  tlI.of (hh := [(0, 10, 13, 28)]) (by decide +kernel) rfl (fun _ _ _ => Nat.le_of_ble_eq_true rfl) (fun p e s m args below meth c A D cy ad ar o1 o2 cL cD κ b0 u w xo xd z C0 hE hTh hF hT htab => wL_read hl x1 x2 C0 hE hTh hF hT htab)
-- ----- isSwitched
theorem dL_isSwitched_0 : decode cL_isSwitched 0 = .ok (.aload_n 2, 1) := by decide +kernel
theorem dL_isSwitched_1 : decode cL_isSwitched 1 = .ok (.iconst 0, 1) := by decide +kernel
theorem dL_isSwitched_2 : decode cL_isSwitched 2 = .ok (.aload_n 0, 1) := by decide +kernel
theorem dL_isSwitched_3 : decode cL_isSwitched 3 = .ok (.iload_n 1, 1) := by decide +kernel
theorem dL_isSwitched_4 : decode cL_isSwitched 4 = .ok (.invokevirtual 43, 3) := by decide +kernel
theorem dL_isSwitched_7 : decode cL_isSwitched 7 = .ok (.ifCond .eq 7, 3) := by decide +kernel
theorem dL_isSwitched_10 : decode cL_isSwitched 10 = .ok (.lconst 1, 1) := by decide +kernel
theorem dL_isSwitched_11 : decode cL_isSwitched 11 = .ok (.goto 4, 3) := by decide +kernel
theorem dL_isSwitched_14 : decode cL_isSwitched 14 = .ok (.lconst 0, 1) := by decide +kernel
theorem dL_isSwitched_15 : decode cL_isSwitched 15 = .ok (.lastore, 1) := by decide +kernel
theorem dL_isSwitched_16 : decode cL_isSwitched 16 = .ok (.goto 6, 3) := by decide +kernel
theorem dL_isSwitched_19 : decode cL_isSwitched 19 = .ok (.astore_n 3, 1) := by decide +kernel
theorem dL_isSwitched_20 : decode cL_isSwitched 20 = .ok (.iconst 1, 1) := by decide +kernel
theorem dL_isSwitched_21 : decode cL_isSwitched 21 = .ok (.ireturn, 1) := by decide +kernel
theorem dL_isSwitched_22 : decode cL_isSwitched 22 = .ok (.iconst 0, 1) := by decide +kernel
theorem dL_isSwitched_23 : decode cL_isSwitched 23 = .ok (.ireturn, 1) := by decide +kernel
theorem tl_L_43 : Cond.methodLink RL 43 yX7_isSwitched ∈ TMW := tm_in 1011 (by decide +kernel) (by decide +kernel)
theorem ti_X7_isSwitched : Cond.instanceMethod yX7_isSwitched ∈ TMW := tm_in 1012 (by decide +kernel) (by decide +kernel)
theorem ts_X7_isSwitched : Cond.selects RX7 yX7_isSwitched yX7_isSwitched ∈ TMW := tm_in 1013 (by decide +kernel) (by decide +kernel)
theorem tc_X7_isSwitched : Cond.code yX7_isSwitched cX7_isSwitched 2 (some .boolean) ∈ TMW := tm_in 1014 (by decide +kernel) (by decide +kernel)
def g_isSwitched (x1 : Int32) (v : tmM) (bs : List Int32) (xo : Int64) (xd : UInt64) : Option (Int32 × tlS) := tl_cx (f_X7_isSwitched x1 v) (fun r v' => if r = 0 then some (0, ((0, xd), (v', bs))) else some (0, ((1, xd), (v', bs)))) (fun i v' => tl_kx (some 1) (none) (none) i ((xo, xd), (v', bs)))
set_option maxRecDepth 100000 in
theorem wL_isSwitched {p : Program} {l : Launch} (hl : l.stackTraces = false) {e : Env} {s : State} {m : MethodId} {args : Array Value} {below : List Frame} {meth : Method} {c : Code} {A : Nat → Prop} {D : va_G} {cy : Nat → ClassId} {ad ar : Nat → Nat} {o1 o2 : Nat} {cL cD : ClassId} {κ b0 : Nat} {u v w : tmM} {bs : List Int32} {xo : Int64} {xd : UInt64} {z : Int32 × tlS} {adK adV adE : Nat → Nat} {tC : Nat} (x1 : Int32) (C0 : tmC p s m args meth c cL_isSwitched 4 (some .int) RL TMW tm_NWC D cy tm_s0 tm_a0 0 (tlW cy ad ar o1 o2 cL cD κ b0 u v w xo xd) A) (hE : tmSc adK adV adE tC A s s.heap) (hTh : tmTh A s s.heap) (hF : tlF D cy cL cD s) (hT : tmTx κ u bs) (htab : c.exceptionTable.toList = tableOf [(0, 16, 19, 28)]) : tmG p l e ({ frames := 8, cells := 1, slots := 6, locals := 131 }) s m args below meth c 0 0 (MQ below (va_Qi (fun r y => z = (r, y)) (tlT D cy ad ar o1 o2 cL cD w A) A) args s 1 6 A) 4 D cy tm_s0 tm_a0 0 (tlW cy ad ar o1 o2 cL cD κ b0 u v w xo xd) A z 0 [(0, .ref (ad 247)), (1, .int x1), (2, .ref o1)] [] tm_v0 (g_isSwitched x1 v bs xo xd) := by
  unfold g_isSwitched
  refine tg_aload_n 2 C0 dL_isSwitched_0 rfl rfl ?_
  refine tg_iconst (x := 0) C0 dL_isSwitched_1 (by decide) ?_
  refine tg_aload_n 0 C0 dL_isSwitched_2 rfl rfl ?_
  refine tg_iload_n 1 C0 dL_isSwitched_3 rfl rfl ?_
  refine tl_xi (tl_hh (some 19) (none) (none)) (As := [.int x1]) (fs := [some 0, some 248, none, none, some 249, none, some 250, some 251, some 256]) 1 C0 hTh dL_isSwitched_4 (c_X7_isSwitched l hl x1 v) rfl rfl rfl rfl (tm_gV tl_L_43 ti_X7_isSwitched ts_X7_isSwitched tn_X7 tc_X7_isSwitched) rfl rfl rfl rfl (by decide +kernel) ⟨Nat.le_of_ble_eq_true rfl, Nat.le_of_ble_eq_true rfl⟩ (Nat.le_of_ble_eq_true rfl) ⟨Nat.le_of_ble_eq_true rfl, Nat.le_of_ble_eq_true rfl⟩ (fun i v' h => tl_hno (fun h => by cases h) (fun _ => rfl) (fun _ => rfl) i ((xo, xd), (v', bs)) h) (fun i pcH hi H locs ls q ce hq hv hc kk => ?_) (fun i pcH q v' hi C0 => ?_) (fun r v' C0 => ?_)
  · match i, hi with
    | 0, hi =>
      cases hi
      exact tl_catch (0) C0.2.2.2.2.2.1 C0.2.2.2.2.2.2.1 tl_hcl hF [] [] ⟨0, 16, 19, 28⟩ htab (fun z hz => by cases hz) rfl rfl hq hv hc kk
    | 1, hi => cases hi
    | i + 2, hi => cases hi
  · match i, hi with
    | 0, hi =>
      cases hi
      refine tg_eq (r := some (1, ((xo, xd), (v', bs)))) rfl ?_
      refine tg_astore_n [(3, .ref q), (0, .ref (ad 247)), (1, .int x1), (2, .ref o1)] C0 dL_isSwitched_19 rfl (by decide) rfl ?_
      refine tg_iconst (x := 1) C0 dL_isSwitched_20 (by decide) ?_
      exact tl_iret C0 hT dL_isSwitched_21 ⟨Nat.le_of_ble_eq_true rfl, Nat.le_of_ble_eq_true rfl⟩
    | 1, hi => cases hi
    | i + 2, hi => cases hi
  · refine tg_if_eq 14 C0 dL_isSwitched_7 (by decide) (fun _ => ?_) (fun _ => ?_)
    · refine tl_lconst (x := 0) C0 dL_isSwitched_14 rfl ?_
      refine tl_last C0 hF dL_isSwitched_15 (fun C0 => ?_)
      refine tg_goto 22 C0 dL_isSwitched_16 (by decide) ?_
      refine tg_iconst (x := 0) C0 dL_isSwitched_22 (by decide) ?_
      exact tl_iret C0 hT dL_isSwitched_23 ⟨Nat.le_of_ble_eq_true rfl, Nat.le_of_ble_eq_true rfl⟩
    · refine tl_lconst (x := 1) C0 dL_isSwitched_10 rfl ?_
      refine tg_goto 15 C0 dL_isSwitched_11 (by decide) ?_
      refine tl_last C0 hF dL_isSwitched_15 (fun C0 => ?_)
      refine tg_goto 22 C0 dL_isSwitched_16 (by decide) ?_
      refine tg_iconst (x := 0) C0 dL_isSwitched_22 (by decide) ?_
      exact tl_iret C0 hT dL_isSwitched_23 ⟨Nat.le_of_ble_eq_true rfl, Nat.le_of_ble_eq_true rfl⟩
theorem cL_c_isSwitched (l : Launch) (hl : l.stackTraces = false) {adK adV adE : Nat → Nat} {tC : Nat} (x1 : Int32) (v : tmM) (bs : List Int32) : tlI l adK adV adE tC yL_isSwitched (Cond.codeWith yL_isSwitched cL_isSwitched 4 (some .int) [(0, 16, 19, 28)] :: TMW) ({ frames := 8, cells := 1, slots := 6, locals := 131 }) (fun o1 o2 => [.int x1, .ref o1]) v bs 1 6 (g_isSwitched x1 v bs) :=
  tlI.of (hh := [(0, 16, 19, 28)]) (by decide +kernel) rfl (fun _ _ _ => Nat.le_of_ble_eq_true rfl) (fun p e s m args below meth c A D cy ad ar o1 o2 cL cD κ b0 u w xo xd z C0 hE hTh hF hT htab => wL_isSwitched hl x1 C0 hE hTh hF hT htab)
-- ----- chunk
theorem dL_chunk_0 : decode cL_chunk 0 = .ok (.aload_n 3, 1) := by decide +kernel
theorem dL_chunk_1 : decode cL_chunk 1 = .ok (.iconst 0, 1) := by decide +kernel
theorem dL_chunk_2 : decode cL_chunk 2 = .ok (.aload_n 0, 1) := by decide +kernel
theorem dL_chunk_3 : decode cL_chunk 3 = .ok (.iload_n 1, 1) := by decide +kernel
theorem dL_chunk_4 : decode cL_chunk 4 = .ok (.iload_n 2, 1) := by decide +kernel
theorem dL_chunk_5 : decode cL_chunk 5 = .ok (.invokevirtual 47, 3) := by decide +kernel
theorem dL_chunk_8 : decode cL_chunk 8 = .ok (.i2l, 1) := by decide +kernel
theorem dL_chunk_9 : decode cL_chunk 9 = .ok (.lastore, 1) := by decide +kernel
theorem dL_chunk_10 : decode cL_chunk 10 = .ok (.goto 11, 3) := by decide +kernel
theorem dL_chunk_13 : decode cL_chunk 13 = .ok (.astore 4, 2) := by decide +kernel
theorem dL_chunk_15 : decode cL_chunk 15 = .ok (.iconst 1, 1) := by decide +kernel
theorem dL_chunk_16 : decode cL_chunk 16 = .ok (.ireturn, 1) := by decide +kernel
theorem dL_chunk_17 : decode cL_chunk 17 = .ok (.astore 4, 2) := by decide +kernel
theorem dL_chunk_19 : decode cL_chunk 19 = .ok (.iconst 2, 1) := by decide +kernel
theorem dL_chunk_20 : decode cL_chunk 20 = .ok (.ireturn, 1) := by decide +kernel
theorem dL_chunk_21 : decode cL_chunk 21 = .ok (.iconst 0, 1) := by decide +kernel
theorem dL_chunk_22 : decode cL_chunk 22 = .ok (.ireturn, 1) := by decide +kernel
theorem tl_L_47 : Cond.methodLink RL 47 yX7_chunk ∈ TMW := tm_in 1018 (by decide +kernel) (by decide +kernel)
theorem ti_X7_chunk : Cond.instanceMethod yX7_chunk ∈ TMW := tm_in 1019 (by decide +kernel) (by decide +kernel)
theorem ts_X7_chunk : Cond.selects RX7 yX7_chunk yX7_chunk ∈ TMW := tm_in 1020 (by decide +kernel) (by decide +kernel)
theorem tc_X7_chunk : Cond.code yX7_chunk cX7_chunk 3 (some .int) ∈ TMW := tm_in 1021 (by decide +kernel) (by decide +kernel)
def g_chunk (x1 : Int32) (x2 : Int32) (v : tmM) (bs : List Int32) (xo : Int64) (xd : UInt64) : Option (Int32 × tlS) := tl_cx (f_X7_chunk x1 x2 v) (fun r v' => some (0, ((r.toInt64, xd), (v', bs)))) (fun i v' => tl_kx (some 1) (some 2) (none) i ((xo, xd), (v', bs)))
set_option maxRecDepth 100000 in
theorem wL_chunk {p : Program} {l : Launch} (hl : l.stackTraces = false) {e : Env} {s : State} {m : MethodId} {args : Array Value} {below : List Frame} {meth : Method} {c : Code} {A : Nat → Prop} {D : va_G} {cy : Nat → ClassId} {ad ar : Nat → Nat} {o1 o2 : Nat} {cL cD : ClassId} {κ b0 : Nat} {u v w : tmM} {bs : List Int32} {xo : Int64} {xd : UInt64} {z : Int32 × tlS} {adK adV adE : Nat → Nat} {tC : Nat} (x1 : Int32) (x2 : Int32) (C0 : tmC p s m args meth c cL_chunk 5 (some .int) RL TMW tm_NWC D cy tm_s0 tm_a0 0 (tlW cy ad ar o1 o2 cL cD κ b0 u v w xo xd) A) (hE : tmSc adK adV adE tC A s s.heap) (hTh : tmTh A s s.heap) (hF : tlF D cy cL cD s) (hT : tmTx κ u bs) (htab : c.exceptionTable.toList = tableOf [(0, 10, 13, 28), (0, 10, 17, 18)]) : tmG p l e ({ frames := 8, cells := 2, slots := 12, locals := 132 }) s m args below meth c 0 0 (MQ below (va_Qi (fun r y => z = (r, y)) (tlT D cy ad ar o1 o2 cL cD w A) A) args s 2 12 A) 5 D cy tm_s0 tm_a0 0 (tlW cy ad ar o1 o2 cL cD κ b0 u v w xo xd) A z 0 [(0, .ref (ad 247)), (1, .int x1), (2, .int x2), (3, .ref o1)] [] tm_v0 (g_chunk x1 x2 v bs xo xd) := by
  unfold g_chunk
  refine tg_aload_n 3 C0 dL_chunk_0 rfl rfl ?_
  refine tg_iconst (x := 0) C0 dL_chunk_1 (by decide) ?_
  refine tg_aload_n 0 C0 dL_chunk_2 rfl rfl ?_
  refine tg_iload_n 1 C0 dL_chunk_3 rfl rfl ?_
  refine tg_iload_n 2 C0 dL_chunk_4 rfl rfl ?_
  refine tl_xi (tl_hh (some 13) (some 17) (none)) (As := [.int x1, .int x2]) (fs := [some 0, some 248, none, none, some 249, none, some 250, some 251, some 256]) 2 C0 hTh dL_chunk_5 (c_X7_chunk l hl x1 x2 v) rfl rfl rfl rfl (tm_gV tl_L_47 ti_X7_chunk ts_X7_chunk tn_X7 tc_X7_chunk) rfl rfl rfl rfl (by decide +kernel) ⟨Nat.le_of_ble_eq_true rfl, Nat.le_of_ble_eq_true rfl⟩ (Nat.le_of_ble_eq_true rfl) ⟨Nat.le_of_ble_eq_true rfl, Nat.le_of_ble_eq_true rfl⟩ (fun i v' h => tl_hno (fun h => by cases h) (fun h => by cases h) (fun _ => rfl) i ((xo, xd), (v', bs)) h) (fun i pcH hi H locs ls q ce hq hv hc kk => ?_) (fun i pcH q v' hi C0 => ?_) (fun r v' C0 => ?_)
  · match i, hi with
    | 0, hi =>
      cases hi
      exact tl_catch (0) C0.2.2.2.2.2.1 C0.2.2.2.2.2.2.1 tl_hcl hF [] [⟨0, 10, 17, 18⟩] ⟨0, 10, 13, 28⟩ htab (fun z hz => by cases hz) rfl rfl hq hv hc kk
    | 1, hi =>
      cases hi
      exact tl_catch (1) C0.2.2.2.2.2.1 C0.2.2.2.2.2.2.1 tl_hcl hF [⟨0, 10, 13, 28⟩] [] ⟨0, 10, 17, 18⟩ htab (fun z hz => by
        simp only [List.mem_cons, List.not_mem_nil, or_false] at hz
        rcases hz with rfl
        · exact ⟨0, by decide, by omega, rfl⟩) rfl rfl hq hv hc kk
    | i + 2, hi => cases hi
  · match i, hi with
    | 0, hi =>
      cases hi
      refine tg_eq (r := some (1, ((xo, xd), (v', bs)))) rfl ?_
      refine tg_astore [(4, .ref q), (0, .ref (ad 247)), (1, .int x1), (2, .int x2), (3, .ref o1)] C0 dL_chunk_13 (by decide) rfl ?_
      refine tg_iconst (x := 1) C0 dL_chunk_15 (by decide) ?_
      exact tl_iret C0 hT dL_chunk_16 ⟨Nat.le_of_ble_eq_true rfl, Nat.le_of_ble_eq_true rfl⟩
    | 1, hi =>
      cases hi
      refine tg_eq (r := some (2, ((xo, xd), (v', bs)))) rfl ?_
      refine tg_astore [(4, .ref q), (0, .ref (ad 247)), (1, .int x1), (2, .int x2), (3, .ref o1)] C0 dL_chunk_17 (by decide) rfl ?_
      refine tg_iconst (x := 2) C0 dL_chunk_19 (by decide) ?_
      exact tl_iret C0 hT dL_chunk_20 ⟨Nat.le_of_ble_eq_true rfl, Nat.le_of_ble_eq_true rfl⟩
    | i + 2, hi => cases hi
  · refine tl_i2l C0 dL_chunk_8 ?_
    refine tl_last C0 hF dL_chunk_9 (fun C0 => ?_)
    refine tg_goto 21 C0 dL_chunk_10 (by decide) ?_
    refine tg_iconst (x := 0) C0 dL_chunk_21 (by decide) ?_
    exact tl_iret C0 hT dL_chunk_22 ⟨Nat.le_of_ble_eq_true rfl, Nat.le_of_ble_eq_true rfl⟩
theorem cL_c_chunk (l : Launch) (hl : l.stackTraces = false) {adK adV adE : Nat → Nat} {tC : Nat} (x1 : Int32) (x2 : Int32) (v : tmM) (bs : List Int32) : tlI l adK adV adE tC yL_chunk (Cond.codeWith yL_chunk cL_chunk 5 (some .int) [(0, 10, 13, 28), (0, 10, 17, 18)] :: TMW) ({ frames := 8, cells := 2, slots := 12, locals := 132 }) (fun o1 o2 => [.int x1, .int x2, .ref o1]) v bs 2 12 (g_chunk x1 x2 v bs) :=
  tlI.of (hh := [(0, 10, 13, 28), (0, 10, 17, 18)]) (by decide +kernel) rfl (fun _ _ _ => Nat.le_of_ble_eq_true rfl) (fun p e s m args below meth c A D cy ad ar o1 o2 cL cD κ b0 u w xo xd z C0 hE hTh hF hT htab => wL_chunk hl x1 x2 C0 hE hTh hF hT htab)
-- ----- stale
theorem dL_stale_0 : decode cL_stale 0 = .ok (.aload_n 2, 1) := by decide +kernel
theorem dL_stale_1 : decode cL_stale 1 = .ok (.iconst 0, 1) := by decide +kernel
theorem dL_stale_2 : decode cL_stale 2 = .ok (.aload_n 0, 1) := by decide +kernel
theorem dL_stale_3 : decode cL_stale 3 = .ok (.iload_n 1, 1) := by decide +kernel
theorem dL_stale_4 : decode cL_stale 4 = .ok (.invokevirtual 50, 3) := by decide +kernel
theorem dL_stale_7 : decode cL_stale 7 = .ok (.i2l, 1) := by decide +kernel
theorem dL_stale_8 : decode cL_stale 8 = .ok (.lastore, 1) := by decide +kernel
theorem dL_stale_9 : decode cL_stale 9 = .ok (.goto 6, 3) := by decide +kernel
theorem dL_stale_12 : decode cL_stale 12 = .ok (.astore_n 3, 1) := by decide +kernel
theorem dL_stale_13 : decode cL_stale 13 = .ok (.iconst 1, 1) := by decide +kernel
theorem dL_stale_14 : decode cL_stale 14 = .ok (.ireturn, 1) := by decide +kernel
theorem dL_stale_15 : decode cL_stale 15 = .ok (.iconst 0, 1) := by decide +kernel
theorem dL_stale_16 : decode cL_stale 16 = .ok (.ireturn, 1) := by decide +kernel
theorem tl_L_50 : Cond.methodLink RL 50 yX7_stale ∈ TMW := tm_in 1031 (by decide +kernel) (by decide +kernel)
theorem ti_X7_stale : Cond.instanceMethod yX7_stale ∈ TMW := tm_in 1032 (by decide +kernel) (by decide +kernel)
theorem ts_X7_stale : Cond.selects RX7 yX7_stale yX7_stale ∈ TMW := tm_in 1033 (by decide +kernel) (by decide +kernel)
theorem tc_X7_stale : Cond.code yX7_stale cX7_stale 2 (some .int) ∈ TMW := tm_in 1034 (by decide +kernel) (by decide +kernel)
def g_stale (x1 : Int32) (v : tmM) (bs : List Int32) (xo : Int64) (xd : UInt64) : Option (Int32 × tlS) := tl_cx (f_X7_stale x1 v) (fun r v' => some (0, ((r.toInt64, xd), (v', bs)))) (fun i v' => tl_kx (some 1) (none) (none) i ((xo, xd), (v', bs)))
set_option maxRecDepth 100000 in
theorem wL_stale {p : Program} {l : Launch} (hl : l.stackTraces = false) {e : Env} {s : State} {m : MethodId} {args : Array Value} {below : List Frame} {meth : Method} {c : Code} {A : Nat → Prop} {D : va_G} {cy : Nat → ClassId} {ad ar : Nat → Nat} {o1 o2 : Nat} {cL cD : ClassId} {κ b0 : Nat} {u v w : tmM} {bs : List Int32} {xo : Int64} {xd : UInt64} {z : Int32 × tlS} {adK adV adE : Nat → Nat} {tC : Nat} (x1 : Int32) (C0 : tmC p s m args meth c cL_stale 4 (some .int) RL TMW tm_NWC D cy tm_s0 tm_a0 0 (tlW cy ad ar o1 o2 cL cD κ b0 u v w xo xd) A) (hE : tmSc adK adV adE tC A s s.heap) (hTh : tmTh A s s.heap) (hF : tlF D cy cL cD s) (hT : tmTx κ u bs) (htab : c.exceptionTable.toList = tableOf [(0, 9, 12, 28)]) : tmG p l e ({ frames := 8, cells := 1, slots := 6, locals := 131 }) s m args below meth c 0 0 (MQ below (va_Qi (fun r y => z = (r, y)) (tlT D cy ad ar o1 o2 cL cD w A) A) args s 1 6 A) 4 D cy tm_s0 tm_a0 0 (tlW cy ad ar o1 o2 cL cD κ b0 u v w xo xd) A z 0 [(0, .ref (ad 247)), (1, .int x1), (2, .ref o1)] [] tm_v0 (g_stale x1 v bs xo xd) := by
  unfold g_stale
  refine tg_aload_n 2 C0 dL_stale_0 rfl rfl ?_
  refine tg_iconst (x := 0) C0 dL_stale_1 (by decide) ?_
  refine tg_aload_n 0 C0 dL_stale_2 rfl rfl ?_
  refine tg_iload_n 1 C0 dL_stale_3 rfl rfl ?_
  refine tl_xi (tl_hh (some 12) (none) (none)) (As := [.int x1]) (fs := [some 0, some 248, none, none, some 249, none, some 250, some 251, some 256]) 1 C0 hTh dL_stale_4 (c_X7_stale l hl x1 v) rfl rfl rfl rfl (tm_gV tl_L_50 ti_X7_stale ts_X7_stale tn_X7 tc_X7_stale) rfl rfl rfl rfl (by decide +kernel) ⟨Nat.le_of_ble_eq_true rfl, Nat.le_of_ble_eq_true rfl⟩ (Nat.le_of_ble_eq_true rfl) ⟨Nat.le_of_ble_eq_true rfl, Nat.le_of_ble_eq_true rfl⟩ (fun i v' h => tl_hno (fun h => by cases h) (fun _ => rfl) (fun _ => rfl) i ((xo, xd), (v', bs)) h) (fun i pcH hi H locs ls q ce hq hv hc kk => ?_) (fun i pcH q v' hi C0 => ?_) (fun r v' C0 => ?_)
  · match i, hi with
    | 0, hi =>
      cases hi
      exact tl_catch (0) C0.2.2.2.2.2.1 C0.2.2.2.2.2.2.1 tl_hcl hF [] [] ⟨0, 9, 12, 28⟩ htab (fun z hz => by cases hz) rfl rfl hq hv hc kk
    | 1, hi => cases hi
    | i + 2, hi => cases hi
  · match i, hi with
    | 0, hi =>
      cases hi
      refine tg_eq (r := some (1, ((xo, xd), (v', bs)))) rfl ?_
      refine tg_astore_n [(3, .ref q), (0, .ref (ad 247)), (1, .int x1), (2, .ref o1)] C0 dL_stale_12 rfl (by decide) rfl ?_
      refine tg_iconst (x := 1) C0 dL_stale_13 (by decide) ?_
      exact tl_iret C0 hT dL_stale_14 ⟨Nat.le_of_ble_eq_true rfl, Nat.le_of_ble_eq_true rfl⟩
    | 1, hi => cases hi
    | i + 2, hi => cases hi
  · refine tl_i2l C0 dL_stale_7 ?_
    refine tl_last C0 hF dL_stale_8 (fun C0 => ?_)
    refine tg_goto 15 C0 dL_stale_9 (by decide) ?_
    refine tg_iconst (x := 0) C0 dL_stale_15 (by decide) ?_
    exact tl_iret C0 hT dL_stale_16 ⟨Nat.le_of_ble_eq_true rfl, Nat.le_of_ble_eq_true rfl⟩
theorem cL_c_stale (l : Launch) (hl : l.stackTraces = false) {adK adV adE : Nat → Nat} {tC : Nat} (x1 : Int32) (v : tmM) (bs : List Int32) : tlI l adK adV adE tC yL_stale (Cond.codeWith yL_stale cL_stale 4 (some .int) [(0, 9, 12, 28)] :: TMW) ({ frames := 8, cells := 1, slots := 6, locals := 131 }) (fun o1 o2 => [.int x1, .ref o1]) v bs 1 6 (g_stale x1 v bs) :=
  tlI.of (hh := [(0, 9, 12, 28)]) (by decide +kernel) rfl (fun _ _ _ => Nat.le_of_ble_eq_true rfl) (fun p e s m args below meth c A D cy ad ar o1 o2 cL cD κ b0 u w xo xd z C0 hE hTh hF hT htab => wL_stale hl x1 C0 hE hTh hF hT htab)
-- ----- event
theorem dL_event_0 : decode cL_event 0 = .ok (.aload_n 3, 1) := by decide +kernel
theorem dL_event_1 : decode cL_event 1 = .ok (.iconst 0, 1) := by decide +kernel
theorem dL_event_2 : decode cL_event 2 = .ok (.aload_n 0, 1) := by decide +kernel
theorem dL_event_3 : decode cL_event 3 = .ok (.iload_n 1, 1) := by decide +kernel
theorem dL_event_4 : decode cL_event 4 = .ok (.iload_n 2, 1) := by decide +kernel
theorem dL_event_5 : decode cL_event 5 = .ok (.invokevirtual 53, 3) := by decide +kernel
theorem dL_event_8 : decode cL_event 8 = .ok (.i2l, 1) := by decide +kernel
theorem dL_event_9 : decode cL_event 9 = .ok (.lastore, 1) := by decide +kernel
theorem dL_event_10 : decode cL_event 10 = .ok (.goto 11, 3) := by decide +kernel
theorem dL_event_13 : decode cL_event 13 = .ok (.astore 4, 2) := by decide +kernel
theorem dL_event_15 : decode cL_event 15 = .ok (.iconst 1, 1) := by decide +kernel
theorem dL_event_16 : decode cL_event 16 = .ok (.ireturn, 1) := by decide +kernel
theorem dL_event_17 : decode cL_event 17 = .ok (.astore 4, 2) := by decide +kernel
theorem dL_event_19 : decode cL_event 19 = .ok (.iconst 2, 1) := by decide +kernel
theorem dL_event_20 : decode cL_event 20 = .ok (.ireturn, 1) := by decide +kernel
theorem dL_event_21 : decode cL_event 21 = .ok (.iconst 0, 1) := by decide +kernel
theorem dL_event_22 : decode cL_event 22 = .ok (.ireturn, 1) := by decide +kernel
theorem tl_L_53 : Cond.methodLink RL 53 yX7_event ∈ TMW := tm_in 1038 (by decide +kernel) (by decide +kernel)
theorem ti_X7_event : Cond.instanceMethod yX7_event ∈ TMW := tm_in 1039 (by decide +kernel) (by decide +kernel)
theorem ts_X7_event : Cond.selects RX7 yX7_event yX7_event ∈ TMW := tm_in 1040 (by decide +kernel) (by decide +kernel)
theorem tc_X7_event : Cond.code yX7_event cX7_event 3 (some .int) ∈ TMW := tm_in 1041 (by decide +kernel) (by decide +kernel)
def g_event (x1 : Int32) (x2 : Int32) (v : tmM) (bs : List Int32) (xo : Int64) (xd : UInt64) : Option (Int32 × tlS) := tl_cx (f_X7_event x1 x2 v) (fun r v' => some (0, ((r.toInt64, xd), (v', bs)))) (fun i v' => tl_kx (some 1) (some 2) (none) i ((xo, xd), (v', bs)))
set_option maxRecDepth 100000 in
theorem wL_event {p : Program} {l : Launch} (hl : l.stackTraces = false) {e : Env} {s : State} {m : MethodId} {args : Array Value} {below : List Frame} {meth : Method} {c : Code} {A : Nat → Prop} {D : va_G} {cy : Nat → ClassId} {ad ar : Nat → Nat} {o1 o2 : Nat} {cL cD : ClassId} {κ b0 : Nat} {u v w : tmM} {bs : List Int32} {xo : Int64} {xd : UInt64} {z : Int32 × tlS} {adK adV adE : Nat → Nat} {tC : Nat} (x1 : Int32) (x2 : Int32) (C0 : tmC p s m args meth c cL_event 5 (some .int) RL TMW tm_NWC D cy tm_s0 tm_a0 0 (tlW cy ad ar o1 o2 cL cD κ b0 u v w xo xd) A) (hE : tmSc adK adV adE tC A s s.heap) (hTh : tmTh A s s.heap) (hF : tlF D cy cL cD s) (hT : tmTx κ u bs) (htab : c.exceptionTable.toList = tableOf [(0, 10, 13, 28), (0, 10, 17, 18)]) : tmG p l e ({ frames := 8, cells := 2, slots := 12, locals := 132 }) s m args below meth c 0 0 (MQ below (va_Qi (fun r y => z = (r, y)) (tlT D cy ad ar o1 o2 cL cD w A) A) args s 2 12 A) 5 D cy tm_s0 tm_a0 0 (tlW cy ad ar o1 o2 cL cD κ b0 u v w xo xd) A z 0 [(0, .ref (ad 247)), (1, .int x1), (2, .int x2), (3, .ref o1)] [] tm_v0 (g_event x1 x2 v bs xo xd) := by
  unfold g_event
  refine tg_aload_n 3 C0 dL_event_0 rfl rfl ?_
  refine tg_iconst (x := 0) C0 dL_event_1 (by decide) ?_
  refine tg_aload_n 0 C0 dL_event_2 rfl rfl ?_
  refine tg_iload_n 1 C0 dL_event_3 rfl rfl ?_
  refine tg_iload_n 2 C0 dL_event_4 rfl rfl ?_
  refine tl_xi (tl_hh (some 13) (some 17) (none)) (As := [.int x1, .int x2]) (fs := [some 0, some 248, none, none, some 249, none, some 250, some 251, some 256]) 2 C0 hTh dL_event_5 (c_X7_event l hl x1 x2 v) rfl rfl rfl rfl (tm_gV tl_L_53 ti_X7_event ts_X7_event tn_X7 tc_X7_event) rfl rfl rfl rfl (by decide +kernel) ⟨Nat.le_of_ble_eq_true rfl, Nat.le_of_ble_eq_true rfl⟩ (Nat.le_of_ble_eq_true rfl) ⟨Nat.le_of_ble_eq_true rfl, Nat.le_of_ble_eq_true rfl⟩ (fun i v' h => tl_hno (fun h => by cases h) (fun h => by cases h) (fun _ => rfl) i ((xo, xd), (v', bs)) h) (fun i pcH hi H locs ls q ce hq hv hc kk => ?_) (fun i pcH q v' hi C0 => ?_) (fun r v' C0 => ?_)
  · match i, hi with
    | 0, hi =>
      cases hi
      exact tl_catch (0) C0.2.2.2.2.2.1 C0.2.2.2.2.2.2.1 tl_hcl hF [] [⟨0, 10, 17, 18⟩] ⟨0, 10, 13, 28⟩ htab (fun z hz => by cases hz) rfl rfl hq hv hc kk
    | 1, hi =>
      cases hi
      exact tl_catch (1) C0.2.2.2.2.2.1 C0.2.2.2.2.2.2.1 tl_hcl hF [⟨0, 10, 13, 28⟩] [] ⟨0, 10, 17, 18⟩ htab (fun z hz => by
        simp only [List.mem_cons, List.not_mem_nil, or_false] at hz
        rcases hz with rfl
        · exact ⟨0, by decide, by omega, rfl⟩) rfl rfl hq hv hc kk
    | i + 2, hi => cases hi
  · match i, hi with
    | 0, hi =>
      cases hi
      refine tg_eq (r := some (1, ((xo, xd), (v', bs)))) rfl ?_
      refine tg_astore [(4, .ref q), (0, .ref (ad 247)), (1, .int x1), (2, .int x2), (3, .ref o1)] C0 dL_event_13 (by decide) rfl ?_
      refine tg_iconst (x := 1) C0 dL_event_15 (by decide) ?_
      exact tl_iret C0 hT dL_event_16 ⟨Nat.le_of_ble_eq_true rfl, Nat.le_of_ble_eq_true rfl⟩
    | 1, hi =>
      cases hi
      refine tg_eq (r := some (2, ((xo, xd), (v', bs)))) rfl ?_
      refine tg_astore [(4, .ref q), (0, .ref (ad 247)), (1, .int x1), (2, .int x2), (3, .ref o1)] C0 dL_event_17 (by decide) rfl ?_
      refine tg_iconst (x := 2) C0 dL_event_19 (by decide) ?_
      exact tl_iret C0 hT dL_event_20 ⟨Nat.le_of_ble_eq_true rfl, Nat.le_of_ble_eq_true rfl⟩
    | i + 2, hi => cases hi
  · refine tl_i2l C0 dL_event_8 ?_
    refine tl_last C0 hF dL_event_9 (fun C0 => ?_)
    refine tg_goto 21 C0 dL_event_10 (by decide) ?_
    refine tg_iconst (x := 0) C0 dL_event_21 (by decide) ?_
    exact tl_iret C0 hT dL_event_22 ⟨Nat.le_of_ble_eq_true rfl, Nat.le_of_ble_eq_true rfl⟩
theorem cL_c_event (l : Launch) (hl : l.stackTraces = false) {adK adV adE : Nat → Nat} {tC : Nat} (x1 : Int32) (x2 : Int32) (v : tmM) (bs : List Int32) : tlI l adK adV adE tC yL_event (Cond.codeWith yL_event cL_event 5 (some .int) [(0, 10, 13, 28), (0, 10, 17, 18)] :: TMW) ({ frames := 8, cells := 2, slots := 12, locals := 132 }) (fun o1 o2 => [.int x1, .int x2, .ref o1]) v bs 2 12 (g_event x1 x2 v bs) :=
  tlI.of (hh := [(0, 10, 13, 28), (0, 10, 17, 18)]) (by decide +kernel) rfl (fun _ _ _ => Nat.le_of_ble_eq_true rfl) (fun p e s m args below meth c A D cy ad ar o1 o2 cL cD κ b0 u w xo xd z C0 hE hTh hF hT htab => wL_event hl x1 x2 C0 hE hTh hF hT htab)
-- ----- since
theorem dL_since_0 : decode cL_since 0 = .ok (.aload_n 3, 1) := by decide +kernel
theorem dL_since_1 : decode cL_since 1 = .ok (.iconst 0, 1) := by decide +kernel
theorem dL_since_2 : decode cL_since 2 = .ok (.aload_n 0, 1) := by decide +kernel
theorem dL_since_3 : decode cL_since 3 = .ok (.iload_n 1, 1) := by decide +kernel
theorem dL_since_4 : decode cL_since 4 = .ok (.iload_n 2, 1) := by decide +kernel
theorem dL_since_5 : decode cL_since 5 = .ok (.invokevirtual 56, 3) := by decide +kernel
theorem dL_since_8 : decode cL_since 8 = .ok (.i2l, 1) := by decide +kernel
theorem dL_since_9 : decode cL_since 9 = .ok (.lastore, 1) := by decide +kernel
theorem dL_since_10 : decode cL_since 10 = .ok (.goto 11, 3) := by decide +kernel
theorem dL_since_13 : decode cL_since 13 = .ok (.astore 4, 2) := by decide +kernel
theorem dL_since_15 : decode cL_since 15 = .ok (.iconst 1, 1) := by decide +kernel
theorem dL_since_16 : decode cL_since 16 = .ok (.ireturn, 1) := by decide +kernel
theorem dL_since_17 : decode cL_since 17 = .ok (.astore 4, 2) := by decide +kernel
theorem dL_since_19 : decode cL_since 19 = .ok (.iconst 2, 1) := by decide +kernel
theorem dL_since_20 : decode cL_since 20 = .ok (.ireturn, 1) := by decide +kernel
theorem dL_since_21 : decode cL_since 21 = .ok (.iconst 0, 1) := by decide +kernel
theorem dL_since_22 : decode cL_since 22 = .ok (.ireturn, 1) := by decide +kernel
theorem tl_L_56 : Cond.methodLink RL 56 yX7_since ∈ TMW := tm_in 1045 (by decide +kernel) (by decide +kernel)
theorem ti_X7_since : Cond.instanceMethod yX7_since ∈ TMW := tm_in 1046 (by decide +kernel) (by decide +kernel)
theorem ts_X7_since : Cond.selects RX7 yX7_since yX7_since ∈ TMW := tm_in 1047 (by decide +kernel) (by decide +kernel)
theorem tc_X7_since : Cond.code yX7_since cX7_since 3 (some .int) ∈ TMW := tm_in 1048 (by decide +kernel) (by decide +kernel)
def g_since (x1 : Int32) (x2 : Int32) (v : tmM) (bs : List Int32) (xo : Int64) (xd : UInt64) : Option (Int32 × tlS) := tl_cx (f_X7_since x1 x2 v) (fun r v' => some (0, ((r.toInt64, xd), (v', bs)))) (fun i v' => tl_kx (some 1) (some 2) (none) i ((xo, xd), (v', bs)))
set_option maxRecDepth 100000 in
theorem wL_since {p : Program} {l : Launch} (hl : l.stackTraces = false) {e : Env} {s : State} {m : MethodId} {args : Array Value} {below : List Frame} {meth : Method} {c : Code} {A : Nat → Prop} {D : va_G} {cy : Nat → ClassId} {ad ar : Nat → Nat} {o1 o2 : Nat} {cL cD : ClassId} {κ b0 : Nat} {u v w : tmM} {bs : List Int32} {xo : Int64} {xd : UInt64} {z : Int32 × tlS} {adK adV adE : Nat → Nat} {tC : Nat} (x1 : Int32) (x2 : Int32) (C0 : tmC p s m args meth c cL_since 5 (some .int) RL TMW tm_NWC D cy tm_s0 tm_a0 0 (tlW cy ad ar o1 o2 cL cD κ b0 u v w xo xd) A) (hE : tmSc adK adV adE tC A s s.heap) (hTh : tmTh A s s.heap) (hF : tlF D cy cL cD s) (hT : tmTx κ u bs) (htab : c.exceptionTable.toList = tableOf [(0, 10, 13, 28), (0, 10, 17, 18)]) : tmG p l e ({ frames := 8, cells := 2, slots := 12, locals := 132 }) s m args below meth c 0 0 (MQ below (va_Qi (fun r y => z = (r, y)) (tlT D cy ad ar o1 o2 cL cD w A) A) args s 2 12 A) 5 D cy tm_s0 tm_a0 0 (tlW cy ad ar o1 o2 cL cD κ b0 u v w xo xd) A z 0 [(0, .ref (ad 247)), (1, .int x1), (2, .int x2), (3, .ref o1)] [] tm_v0 (g_since x1 x2 v bs xo xd) := by
  unfold g_since
  refine tg_aload_n 3 C0 dL_since_0 rfl rfl ?_
  refine tg_iconst (x := 0) C0 dL_since_1 (by decide) ?_
  refine tg_aload_n 0 C0 dL_since_2 rfl rfl ?_
  refine tg_iload_n 1 C0 dL_since_3 rfl rfl ?_
  refine tg_iload_n 2 C0 dL_since_4 rfl rfl ?_
  refine tl_xi (tl_hh (some 13) (some 17) (none)) (As := [.int x1, .int x2]) (fs := [some 0, some 248, none, none, some 249, none, some 250, some 251, some 256]) 2 C0 hTh dL_since_5 (c_X7_since l hl x1 x2 v) rfl rfl rfl rfl (tm_gV tl_L_56 ti_X7_since ts_X7_since tn_X7 tc_X7_since) rfl rfl rfl rfl (by decide +kernel) ⟨Nat.le_of_ble_eq_true rfl, Nat.le_of_ble_eq_true rfl⟩ (Nat.le_of_ble_eq_true rfl) ⟨Nat.le_of_ble_eq_true rfl, Nat.le_of_ble_eq_true rfl⟩ (fun i v' h => tl_hno (fun h => by cases h) (fun h => by cases h) (fun _ => rfl) i ((xo, xd), (v', bs)) h) (fun i pcH hi H locs ls q ce hq hv hc kk => ?_) (fun i pcH q v' hi C0 => ?_) (fun r v' C0 => ?_)
  · match i, hi with
    | 0, hi =>
      cases hi
      exact tl_catch (0) C0.2.2.2.2.2.1 C0.2.2.2.2.2.2.1 tl_hcl hF [] [⟨0, 10, 17, 18⟩] ⟨0, 10, 13, 28⟩ htab (fun z hz => by cases hz) rfl rfl hq hv hc kk
    | 1, hi =>
      cases hi
      exact tl_catch (1) C0.2.2.2.2.2.1 C0.2.2.2.2.2.2.1 tl_hcl hF [⟨0, 10, 13, 28⟩] [] ⟨0, 10, 17, 18⟩ htab (fun z hz => by
        simp only [List.mem_cons, List.not_mem_nil, or_false] at hz
        rcases hz with rfl
        · exact ⟨0, by decide, by omega, rfl⟩) rfl rfl hq hv hc kk
    | i + 2, hi => cases hi
  · match i, hi with
    | 0, hi =>
      cases hi
      refine tg_eq (r := some (1, ((xo, xd), (v', bs)))) rfl ?_
      refine tg_astore [(4, .ref q), (0, .ref (ad 247)), (1, .int x1), (2, .int x2), (3, .ref o1)] C0 dL_since_13 (by decide) rfl ?_
      refine tg_iconst (x := 1) C0 dL_since_15 (by decide) ?_
      exact tl_iret C0 hT dL_since_16 ⟨Nat.le_of_ble_eq_true rfl, Nat.le_of_ble_eq_true rfl⟩
    | 1, hi =>
      cases hi
      refine tg_eq (r := some (2, ((xo, xd), (v', bs)))) rfl ?_
      refine tg_astore [(4, .ref q), (0, .ref (ad 247)), (1, .int x1), (2, .int x2), (3, .ref o1)] C0 dL_since_17 (by decide) rfl ?_
      refine tg_iconst (x := 2) C0 dL_since_19 (by decide) ?_
      exact tl_iret C0 hT dL_since_20 ⟨Nat.le_of_ble_eq_true rfl, Nat.le_of_ble_eq_true rfl⟩
    | i + 2, hi => cases hi
  · refine tl_i2l C0 dL_since_8 ?_
    refine tl_last C0 hF dL_since_9 (fun C0 => ?_)
    refine tg_goto 21 C0 dL_since_10 (by decide) ?_
    refine tg_iconst (x := 0) C0 dL_since_21 (by decide) ?_
    exact tl_iret C0 hT dL_since_22 ⟨Nat.le_of_ble_eq_true rfl, Nat.le_of_ble_eq_true rfl⟩
theorem cL_c_since (l : Launch) (hl : l.stackTraces = false) {adK adV adE : Nat → Nat} {tC : Nat} (x1 : Int32) (x2 : Int32) (v : tmM) (bs : List Int32) : tlI l adK adV adE tC yL_since (Cond.codeWith yL_since cL_since 5 (some .int) [(0, 10, 13, 28), (0, 10, 17, 18)] :: TMW) ({ frames := 8, cells := 2, slots := 12, locals := 132 }) (fun o1 o2 => [.int x1, .int x2, .ref o1]) v bs 2 12 (g_since x1 x2 v bs) :=
  tlI.of (hh := [(0, 10, 13, 28), (0, 10, 17, 18)]) (by decide +kernel) rfl (fun _ _ _ => Nat.le_of_ble_eq_true rfl) (fun p e s m args below meth c A D cy ad ar o1 o2 cL cD κ b0 u w xo xd z C0 hE hTh hF hT htab => wL_since hl x1 x2 C0 hE hTh hF hT htab)
-- ----- account
theorem dL_account_0 : decode cL_account 0 = .ok (.aload_n 2, 1) := by decide +kernel
theorem dL_account_1 : decode cL_account 1 = .ok (.iconst 0, 1) := by decide +kernel
theorem dL_account_2 : decode cL_account 2 = .ok (.aload_n 0, 1) := by decide +kernel
theorem dL_account_3 : decode cL_account 3 = .ok (.iload_n 1, 1) := by decide +kernel
theorem dL_account_4 : decode cL_account 4 = .ok (.invokevirtual 59, 3) := by decide +kernel
theorem dL_account_7 : decode cL_account 7 = .ok (.i2l, 1) := by decide +kernel
theorem dL_account_8 : decode cL_account 8 = .ok (.lastore, 1) := by decide +kernel
theorem dL_account_9 : decode cL_account 9 = .ok (.goto 6, 3) := by decide +kernel
theorem dL_account_12 : decode cL_account 12 = .ok (.astore_n 3, 1) := by decide +kernel
theorem dL_account_13 : decode cL_account 13 = .ok (.iconst 1, 1) := by decide +kernel
theorem dL_account_14 : decode cL_account 14 = .ok (.ireturn, 1) := by decide +kernel
theorem dL_account_15 : decode cL_account 15 = .ok (.iconst 0, 1) := by decide +kernel
theorem dL_account_16 : decode cL_account 16 = .ok (.ireturn, 1) := by decide +kernel
theorem tl_L_59 : Cond.methodLink RL 59 yX7_account ∈ TMW := tm_in 1057 (by decide +kernel) (by decide +kernel)
theorem ti_X7_account : Cond.instanceMethod yX7_account ∈ TMW := tm_in 1058 (by decide +kernel) (by decide +kernel)
theorem ts_X7_account : Cond.selects RX7 yX7_account yX7_account ∈ TMW := tm_in 1059 (by decide +kernel) (by decide +kernel)
theorem tc_X7_account : Cond.code yX7_account cX7_account 2 (some .int) ∈ TMW := tm_in 1060 (by decide +kernel) (by decide +kernel)
def g_account (x1 : Int32) (v : tmM) (bs : List Int32) (xo : Int64) (xd : UInt64) : Option (Int32 × tlS) := tl_cx (f_X7_account x1 v) (fun r v' => some (0, ((r.toInt64, xd), (v', bs)))) (fun i v' => tl_kx (none) (some 1) (none) i ((xo, xd), (v', bs)))
set_option maxRecDepth 100000 in
theorem wL_account {p : Program} {l : Launch} (hl : l.stackTraces = false) {e : Env} {s : State} {m : MethodId} {args : Array Value} {below : List Frame} {meth : Method} {c : Code} {A : Nat → Prop} {D : va_G} {cy : Nat → ClassId} {ad ar : Nat → Nat} {o1 o2 : Nat} {cL cD : ClassId} {κ b0 : Nat} {u v w : tmM} {bs : List Int32} {xo : Int64} {xd : UInt64} {z : Int32 × tlS} {adK adV adE : Nat → Nat} {tC : Nat} (x1 : Int32) (C0 : tmC p s m args meth c cL_account 4 (some .int) RL TMW tm_NWC D cy tm_s0 tm_a0 0 (tlW cy ad ar o1 o2 cL cD κ b0 u v w xo xd) A) (hE : tmSc adK adV adE tC A s s.heap) (hTh : tmTh A s s.heap) (hF : tlF D cy cL cD s) (hT : tmTx κ u bs) (htab : c.exceptionTable.toList = tableOf [(0, 9, 12, 18)]) : tmG p l e ({ frames := 8, cells := 1, slots := 6, locals := 131 }) s m args below meth c 0 0 (MQ below (va_Qi (fun r y => z = (r, y)) (tlT D cy ad ar o1 o2 cL cD w A) A) args s 1 6 A) 4 D cy tm_s0 tm_a0 0 (tlW cy ad ar o1 o2 cL cD κ b0 u v w xo xd) A z 0 [(0, .ref (ad 247)), (1, .int x1), (2, .ref o1)] [] tm_v0 (g_account x1 v bs xo xd) := by
  unfold g_account
  refine tg_aload_n 2 C0 dL_account_0 rfl rfl ?_
  refine tg_iconst (x := 0) C0 dL_account_1 (by decide) ?_
  refine tg_aload_n 0 C0 dL_account_2 rfl rfl ?_
  refine tg_iload_n 1 C0 dL_account_3 rfl rfl ?_
  refine tl_xi (tl_hh (none) (some 12) (none)) (As := [.int x1]) (fs := [some 0, some 248, none, none, some 249, none, some 250, some 251, some 256]) 1 C0 hTh dL_account_4 (c_X7_account l hl x1 v) rfl rfl rfl rfl (tm_gV tl_L_59 ti_X7_account ts_X7_account tn_X7 tc_X7_account) rfl rfl rfl rfl (by decide +kernel) ⟨Nat.le_of_ble_eq_true rfl, Nat.le_of_ble_eq_true rfl⟩ (Nat.le_of_ble_eq_true rfl) ⟨Nat.le_of_ble_eq_true rfl, Nat.le_of_ble_eq_true rfl⟩ (fun i v' h => tl_hno (fun _ => rfl) (fun h => by cases h) (fun _ => rfl) i ((xo, xd), (v', bs)) h) (fun i pcH hi H locs ls q ce hq hv hc kk => ?_) (fun i pcH q v' hi C0 => ?_) (fun r v' C0 => ?_)
  · match i, hi with
    | 0, hi => cases hi
    | 1, hi =>
      cases hi
      exact tl_catch (1) C0.2.2.2.2.2.1 C0.2.2.2.2.2.2.1 tl_hcl hF [] [] ⟨0, 9, 12, 18⟩ htab (fun z hz => by cases hz) rfl rfl hq hv hc kk
    | i + 2, hi => cases hi
  · match i, hi with
    | 0, hi => cases hi
    | 1, hi =>
      cases hi
      refine tg_eq (r := some (1, ((xo, xd), (v', bs)))) rfl ?_
      refine tg_astore_n [(3, .ref q), (0, .ref (ad 247)), (1, .int x1), (2, .ref o1)] C0 dL_account_12 rfl (by decide) rfl ?_
      refine tg_iconst (x := 1) C0 dL_account_13 (by decide) ?_
      exact tl_iret C0 hT dL_account_14 ⟨Nat.le_of_ble_eq_true rfl, Nat.le_of_ble_eq_true rfl⟩
    | i + 2, hi => cases hi
  · refine tl_i2l C0 dL_account_7 ?_
    refine tl_last C0 hF dL_account_8 (fun C0 => ?_)
    refine tg_goto 15 C0 dL_account_9 (by decide) ?_
    refine tg_iconst (x := 0) C0 dL_account_15 (by decide) ?_
    exact tl_iret C0 hT dL_account_16 ⟨Nat.le_of_ble_eq_true rfl, Nat.le_of_ble_eq_true rfl⟩
theorem cL_c_account (l : Launch) (hl : l.stackTraces = false) {adK adV adE : Nat → Nat} {tC : Nat} (x1 : Int32) (v : tmM) (bs : List Int32) : tlI l adK adV adE tC yL_account (Cond.codeWith yL_account cL_account 4 (some .int) [(0, 9, 12, 18)] :: TMW) ({ frames := 8, cells := 1, slots := 6, locals := 131 }) (fun o1 o2 => [.int x1, .ref o1]) v bs 1 6 (g_account x1 v bs) :=
  tlI.of (hh := [(0, 9, 12, 18)]) (by decide +kernel) rfl (fun _ _ _ => Nat.le_of_ble_eq_true rfl) (fun p e s m args below meth c A D cy ad ar o1 o2 cL cD κ b0 u w xo xd z C0 hE hTh hF hT htab => wL_account hl x1 C0 hE hTh hF hT htab)
-- ----- put
theorem dL_put_0 : decode cL_put 0 = .ok (.aload_n 3, 1) := by decide +kernel
theorem dL_put_1 : decode cL_put 1 = .ok (.iconst 0, 1) := by decide +kernel
theorem dL_put_2 : decode cL_put 2 = .ok (.aload_n 0, 1) := by decide +kernel
theorem dL_put_3 : decode cL_put 3 = .ok (.iload_n 1, 1) := by decide +kernel
theorem dL_put_4 : decode cL_put 4 = .ok (.iload_n 2, 1) := by decide +kernel
theorem dL_put_5 : decode cL_put 5 = .ok (.invokevirtual 62, 3) := by decide +kernel
theorem dL_put_8 : decode cL_put 8 = .ok (.i2l, 1) := by decide +kernel
theorem dL_put_9 : decode cL_put 9 = .ok (.lastore, 1) := by decide +kernel
theorem dL_put_10 : decode cL_put 10 = .ok (.goto 11, 3) := by decide +kernel
theorem dL_put_13 : decode cL_put 13 = .ok (.astore 4, 2) := by decide +kernel
theorem dL_put_15 : decode cL_put 15 = .ok (.iconst 1, 1) := by decide +kernel
theorem dL_put_16 : decode cL_put 16 = .ok (.ireturn, 1) := by decide +kernel
theorem dL_put_17 : decode cL_put 17 = .ok (.astore 4, 2) := by decide +kernel
theorem dL_put_19 : decode cL_put 19 = .ok (.iconst 2, 1) := by decide +kernel
theorem dL_put_20 : decode cL_put 20 = .ok (.ireturn, 1) := by decide +kernel
theorem dL_put_21 : decode cL_put 21 = .ok (.iconst 0, 1) := by decide +kernel
theorem dL_put_22 : decode cL_put 22 = .ok (.ireturn, 1) := by decide +kernel
theorem tl_L_62 : Cond.methodLink RL 62 yX7_put ∈ TMW := tm_in 1064 (by decide +kernel) (by decide +kernel)
theorem ti_X7_put : Cond.instanceMethod yX7_put ∈ TMW := tm_in 1065 (by decide +kernel) (by decide +kernel)
theorem ts_X7_put : Cond.selects RX7 yX7_put yX7_put ∈ TMW := tm_in 1066 (by decide +kernel) (by decide +kernel)
theorem tc_X7_put : Cond.code yX7_put cX7_put 3 (some .int) ∈ TMW := tm_in 1067 (by decide +kernel) (by decide +kernel)
def g_put (x1 : Int32) (x2 : Int32) (v : tmM) (bs : List Int32) (xo : Int64) (xd : UInt64) : Option (Int32 × tlS) := tl_cx (f_X7_put x1 x2 v) (fun r v' => some (0, ((r.toInt64, xd), (v', bs)))) (fun i v' => tl_kx (some 1) (some 2) (none) i ((xo, xd), (v', bs)))
set_option maxRecDepth 100000 in
theorem wL_put {p : Program} {l : Launch} (hl : l.stackTraces = false) {e : Env} {s : State} {m : MethodId} {args : Array Value} {below : List Frame} {meth : Method} {c : Code} {A : Nat → Prop} {D : va_G} {cy : Nat → ClassId} {ad ar : Nat → Nat} {o1 o2 : Nat} {cL cD : ClassId} {κ b0 : Nat} {u v w : tmM} {bs : List Int32} {xo : Int64} {xd : UInt64} {z : Int32 × tlS} {adK adV adE : Nat → Nat} {tC : Nat} (x1 : Int32) (x2 : Int32) (C0 : tmC p s m args meth c cL_put 5 (some .int) RL TMW tm_NWC D cy tm_s0 tm_a0 0 (tlW cy ad ar o1 o2 cL cD κ b0 u v w xo xd) A) (hE : tmSc adK adV adE tC A s s.heap) (hTh : tmTh A s s.heap) (hF : tlF D cy cL cD s) (hT : tmTx κ u bs) (htab : c.exceptionTable.toList = tableOf [(0, 10, 13, 28), (0, 10, 17, 18)]) : tmG p l e ({ frames := 8, cells := 2, slots := 12, locals := 172 }) s m args below meth c 0 0 (MQ below (va_Qi (fun r y => z = (r, y)) (tlT D cy ad ar o1 o2 cL cD w A) A) args s 2 12 A) 5 D cy tm_s0 tm_a0 0 (tlW cy ad ar o1 o2 cL cD κ b0 u v w xo xd) A z 0 [(0, .ref (ad 247)), (1, .int x1), (2, .int x2), (3, .ref o1)] [] tm_v0 (g_put x1 x2 v bs xo xd) := by
  unfold g_put
  refine tg_aload_n 3 C0 dL_put_0 rfl rfl ?_
  refine tg_iconst (x := 0) C0 dL_put_1 (by decide) ?_
  refine tg_aload_n 0 C0 dL_put_2 rfl rfl ?_
  refine tg_iload_n 1 C0 dL_put_3 rfl rfl ?_
  refine tg_iload_n 2 C0 dL_put_4 rfl rfl ?_
  refine tl_xi (tl_hh (some 13) (some 17) (none)) (As := [.int x1, .int x2]) (fs := [some 0, some 248, none, none, some 249, none, some 250, some 251, some 256]) 2 C0 hTh dL_put_5 (c_X7_put l hl x1 x2 v) rfl rfl rfl rfl (tm_gV tl_L_62 ti_X7_put ts_X7_put tn_X7 tc_X7_put) rfl rfl rfl rfl (by decide +kernel) ⟨Nat.le_of_ble_eq_true rfl, Nat.le_of_ble_eq_true rfl⟩ (Nat.le_of_ble_eq_true rfl) ⟨Nat.le_of_ble_eq_true rfl, Nat.le_of_ble_eq_true rfl⟩ (fun i v' h => tl_hno (fun h => by cases h) (fun h => by cases h) (fun _ => rfl) i ((xo, xd), (v', bs)) h) (fun i pcH hi H locs ls q ce hq hv hc kk => ?_) (fun i pcH q v' hi C0 => ?_) (fun r v' C0 => ?_)
  · match i, hi with
    | 0, hi =>
      cases hi
      exact tl_catch (0) C0.2.2.2.2.2.1 C0.2.2.2.2.2.2.1 tl_hcl hF [] [⟨0, 10, 17, 18⟩] ⟨0, 10, 13, 28⟩ htab (fun z hz => by cases hz) rfl rfl hq hv hc kk
    | 1, hi =>
      cases hi
      exact tl_catch (1) C0.2.2.2.2.2.1 C0.2.2.2.2.2.2.1 tl_hcl hF [⟨0, 10, 13, 28⟩] [] ⟨0, 10, 17, 18⟩ htab (fun z hz => by
        simp only [List.mem_cons, List.not_mem_nil, or_false] at hz
        rcases hz with rfl
        · exact ⟨0, by decide, by omega, rfl⟩) rfl rfl hq hv hc kk
    | i + 2, hi => cases hi
  · match i, hi with
    | 0, hi =>
      cases hi
      refine tg_eq (r := some (1, ((xo, xd), (v', bs)))) rfl ?_
      refine tg_astore [(4, .ref q), (0, .ref (ad 247)), (1, .int x1), (2, .int x2), (3, .ref o1)] C0 dL_put_13 (by decide) rfl ?_
      refine tg_iconst (x := 1) C0 dL_put_15 (by decide) ?_
      exact tl_iret C0 hT dL_put_16 ⟨Nat.le_of_ble_eq_true rfl, Nat.le_of_ble_eq_true rfl⟩
    | 1, hi =>
      cases hi
      refine tg_eq (r := some (2, ((xo, xd), (v', bs)))) rfl ?_
      refine tg_astore [(4, .ref q), (0, .ref (ad 247)), (1, .int x1), (2, .int x2), (3, .ref o1)] C0 dL_put_17 (by decide) rfl ?_
      refine tg_iconst (x := 2) C0 dL_put_19 (by decide) ?_
      exact tl_iret C0 hT dL_put_20 ⟨Nat.le_of_ble_eq_true rfl, Nat.le_of_ble_eq_true rfl⟩
    | i + 2, hi => cases hi
  · refine tl_i2l C0 dL_put_8 ?_
    refine tl_last C0 hF dL_put_9 (fun C0 => ?_)
    refine tg_goto 21 C0 dL_put_10 (by decide) ?_
    refine tg_iconst (x := 0) C0 dL_put_21 (by decide) ?_
    exact tl_iret C0 hT dL_put_22 ⟨Nat.le_of_ble_eq_true rfl, Nat.le_of_ble_eq_true rfl⟩
theorem cL_c_put (l : Launch) (hl : l.stackTraces = false) {adK adV adE : Nat → Nat} {tC : Nat} (x1 : Int32) (x2 : Int32) (v : tmM) (bs : List Int32) : tlI l adK adV adE tC yL_put (Cond.codeWith yL_put cL_put 5 (some .int) [(0, 10, 13, 28), (0, 10, 17, 18)] :: TMW) ({ frames := 8, cells := 2, slots := 12, locals := 172 }) (fun o1 o2 => [.int x1, .int x2, .ref o1]) v bs 2 12 (g_put x1 x2 v bs) :=
  tlI.of (hh := [(0, 10, 13, 28), (0, 10, 17, 18)]) (by decide +kernel) rfl (fun _ _ _ => Nat.le_of_ble_eq_true rfl) (fun p e s m args below meth c A D cy ad ar o1 o2 cL cD κ b0 u w xo xd z C0 hE hTh hF hT htab => wL_put hl x1 x2 C0 hE hTh hF hT htab)
-- ----- remove
theorem dL_remove_0 : decode cL_remove 0 = .ok (.aload_n 2, 1) := by decide +kernel
theorem dL_remove_1 : decode cL_remove 1 = .ok (.iconst 0, 1) := by decide +kernel
theorem dL_remove_2 : decode cL_remove 2 = .ok (.aload_n 0, 1) := by decide +kernel
theorem dL_remove_3 : decode cL_remove 3 = .ok (.iload_n 1, 1) := by decide +kernel
theorem dL_remove_4 : decode cL_remove 4 = .ok (.invokevirtual 65, 3) := by decide +kernel
theorem dL_remove_7 : decode cL_remove 7 = .ok (.i2l, 1) := by decide +kernel
theorem dL_remove_8 : decode cL_remove 8 = .ok (.lastore, 1) := by decide +kernel
theorem dL_remove_9 : decode cL_remove 9 = .ok (.goto 6, 3) := by decide +kernel
theorem dL_remove_12 : decode cL_remove 12 = .ok (.astore_n 3, 1) := by decide +kernel
theorem dL_remove_13 : decode cL_remove 13 = .ok (.iconst 1, 1) := by decide +kernel
theorem dL_remove_14 : decode cL_remove 14 = .ok (.ireturn, 1) := by decide +kernel
theorem dL_remove_15 : decode cL_remove 15 = .ok (.iconst 0, 1) := by decide +kernel
theorem dL_remove_16 : decode cL_remove 16 = .ok (.ireturn, 1) := by decide +kernel
theorem tl_L_65 : Cond.methodLink RL 65 yX7_remove ∈ TMW := tm_in 1074 (by decide +kernel) (by decide +kernel)
theorem ti_X7_remove : Cond.instanceMethod yX7_remove ∈ TMW := tm_in 1075 (by decide +kernel) (by decide +kernel)
theorem ts_X7_remove : Cond.selects RX7 yX7_remove yX7_remove ∈ TMW := tm_in 1076 (by decide +kernel) (by decide +kernel)
theorem tc_X7_remove : Cond.code yX7_remove cX7_remove 2 (some .int) ∈ TMW := tm_in 1077 (by decide +kernel) (by decide +kernel)
def g_remove (x1 : Int32) (v : tmM) (bs : List Int32) (xo : Int64) (xd : UInt64) : Option (Int32 × tlS) := tl_cx (f_X7_remove x1 v) (fun r v' => some (0, ((r.toInt64, xd), (v', bs)))) (fun i v' => tl_kx (some 1) (none) (none) i ((xo, xd), (v', bs)))
set_option maxRecDepth 100000 in
theorem wL_remove {p : Program} {l : Launch} (hl : l.stackTraces = false) {e : Env} {s : State} {m : MethodId} {args : Array Value} {below : List Frame} {meth : Method} {c : Code} {A : Nat → Prop} {D : va_G} {cy : Nat → ClassId} {ad ar : Nat → Nat} {o1 o2 : Nat} {cL cD : ClassId} {κ b0 : Nat} {u v w : tmM} {bs : List Int32} {xo : Int64} {xd : UInt64} {z : Int32 × tlS} {adK adV adE : Nat → Nat} {tC : Nat} (x1 : Int32) (C0 : tmC p s m args meth c cL_remove 4 (some .int) RL TMW tm_NWC D cy tm_s0 tm_a0 0 (tlW cy ad ar o1 o2 cL cD κ b0 u v w xo xd) A) (hE : tmSc adK adV adE tC A s s.heap) (hTh : tmTh A s s.heap) (hF : tlF D cy cL cD s) (hT : tmTx κ u bs) (htab : c.exceptionTable.toList = tableOf [(0, 9, 12, 28)]) : tmG p l e ({ frames := 8, cells := 1, slots := 6, locals := 169 }) s m args below meth c 0 0 (MQ below (va_Qi (fun r y => z = (r, y)) (tlT D cy ad ar o1 o2 cL cD w A) A) args s 1 6 A) 4 D cy tm_s0 tm_a0 0 (tlW cy ad ar o1 o2 cL cD κ b0 u v w xo xd) A z 0 [(0, .ref (ad 247)), (1, .int x1), (2, .ref o1)] [] tm_v0 (g_remove x1 v bs xo xd) := by
  unfold g_remove
  refine tg_aload_n 2 C0 dL_remove_0 rfl rfl ?_
  refine tg_iconst (x := 0) C0 dL_remove_1 (by decide) ?_
  refine tg_aload_n 0 C0 dL_remove_2 rfl rfl ?_
  refine tg_iload_n 1 C0 dL_remove_3 rfl rfl ?_
  refine tl_xi (tl_hh (some 12) (none) (none)) (As := [.int x1]) (fs := [some 0, some 248, none, none, some 249, none, some 250, some 251, some 256]) 1 C0 hTh dL_remove_4 (c_X7_remove l hl x1 v) rfl rfl rfl rfl (tm_gV tl_L_65 ti_X7_remove ts_X7_remove tn_X7 tc_X7_remove) rfl rfl rfl rfl (by decide +kernel) ⟨Nat.le_of_ble_eq_true rfl, Nat.le_of_ble_eq_true rfl⟩ (Nat.le_of_ble_eq_true rfl) ⟨Nat.le_of_ble_eq_true rfl, Nat.le_of_ble_eq_true rfl⟩ (fun i v' h => tl_hno (fun h => by cases h) (fun _ => rfl) (fun _ => rfl) i ((xo, xd), (v', bs)) h) (fun i pcH hi H locs ls q ce hq hv hc kk => ?_) (fun i pcH q v' hi C0 => ?_) (fun r v' C0 => ?_)
  · match i, hi with
    | 0, hi =>
      cases hi
      exact tl_catch (0) C0.2.2.2.2.2.1 C0.2.2.2.2.2.2.1 tl_hcl hF [] [] ⟨0, 9, 12, 28⟩ htab (fun z hz => by cases hz) rfl rfl hq hv hc kk
    | 1, hi => cases hi
    | i + 2, hi => cases hi
  · match i, hi with
    | 0, hi =>
      cases hi
      refine tg_eq (r := some (1, ((xo, xd), (v', bs)))) rfl ?_
      refine tg_astore_n [(3, .ref q), (0, .ref (ad 247)), (1, .int x1), (2, .ref o1)] C0 dL_remove_12 rfl (by decide) rfl ?_
      refine tg_iconst (x := 1) C0 dL_remove_13 (by decide) ?_
      exact tl_iret C0 hT dL_remove_14 ⟨Nat.le_of_ble_eq_true rfl, Nat.le_of_ble_eq_true rfl⟩
    | 1, hi => cases hi
    | i + 2, hi => cases hi
  · refine tl_i2l C0 dL_remove_7 ?_
    refine tl_last C0 hF dL_remove_8 (fun C0 => ?_)
    refine tg_goto 15 C0 dL_remove_9 (by decide) ?_
    refine tg_iconst (x := 0) C0 dL_remove_15 (by decide) ?_
    exact tl_iret C0 hT dL_remove_16 ⟨Nat.le_of_ble_eq_true rfl, Nat.le_of_ble_eq_true rfl⟩
theorem cL_c_remove (l : Launch) (hl : l.stackTraces = false) {adK adV adE : Nat → Nat} {tC : Nat} (x1 : Int32) (v : tmM) (bs : List Int32) : tlI l adK adV adE tC yL_remove (Cond.codeWith yL_remove cL_remove 4 (some .int) [(0, 9, 12, 28)] :: TMW) ({ frames := 8, cells := 1, slots := 6, locals := 169 }) (fun o1 o2 => [.int x1, .ref o1]) v bs 1 6 (g_remove x1 v bs) :=
  tlI.of (hh := [(0, 9, 12, 28)]) (by decide +kernel) rfl (fun _ _ _ => Nat.le_of_ble_eq_true rfl) (fun p e s m args below meth c A D cy ad ar o1 o2 cL cD κ b0 u w xo xd z C0 hE hTh hF hT htab => wL_remove hl x1 C0 hE hTh hF hT htab)
-- ----- copy
theorem dL_copy_0 : decode cL_copy 0 = .ok (.aload_n 2, 1) := by decide +kernel
theorem dL_copy_1 : decode cL_copy 1 = .ok (.iconst 0, 1) := by decide +kernel
theorem dL_copy_2 : decode cL_copy 2 = .ok (.aload_n 0, 1) := by decide +kernel
theorem dL_copy_3 : decode cL_copy 3 = .ok (.iload_n 1, 1) := by decide +kernel
theorem dL_copy_4 : decode cL_copy 4 = .ok (.invokevirtual 68, 3) := by decide +kernel
theorem dL_copy_7 : decode cL_copy 7 = .ok (.i2l, 1) := by decide +kernel
theorem dL_copy_8 : decode cL_copy 8 = .ok (.lastore, 1) := by decide +kernel
theorem dL_copy_9 : decode cL_copy 9 = .ok (.goto 6, 3) := by decide +kernel
theorem dL_copy_12 : decode cL_copy 12 = .ok (.astore_n 3, 1) := by decide +kernel
theorem dL_copy_13 : decode cL_copy 13 = .ok (.iconst 1, 1) := by decide +kernel
theorem dL_copy_14 : decode cL_copy 14 = .ok (.ireturn, 1) := by decide +kernel
theorem dL_copy_15 : decode cL_copy 15 = .ok (.iconst 0, 1) := by decide +kernel
theorem dL_copy_16 : decode cL_copy 16 = .ok (.ireturn, 1) := by decide +kernel
theorem tl_L_68 : Cond.methodLink RL 68 yX7_copy ∈ TMW := tm_in 1081 (by decide +kernel) (by decide +kernel)
theorem ti_X7_copy : Cond.instanceMethod yX7_copy ∈ TMW := tm_in 1082 (by decide +kernel) (by decide +kernel)
theorem ts_X7_copy : Cond.selects RX7 yX7_copy yX7_copy ∈ TMW := tm_in 1083 (by decide +kernel) (by decide +kernel)
theorem tc_X7_copy : Cond.code yX7_copy cX7_copy 2 (some .int) ∈ TMW := tm_in 1084 (by decide +kernel) (by decide +kernel)
def g_copy (x1 : Int32) (v : tmM) (bs : List Int32) (xo : Int64) (xd : UInt64) : Option (Int32 × tlS) := tl_cx (f_X7_copy x1 v) (fun r v' => some (0, ((r.toInt64, xd), (v', bs)))) (fun i v' => tl_kx (none) (some 1) (none) i ((xo, xd), (v', bs)))
set_option maxRecDepth 100000 in
theorem wL_copy {p : Program} {l : Launch} (hl : l.stackTraces = false) {e : Env} {s : State} {m : MethodId} {args : Array Value} {below : List Frame} {meth : Method} {c : Code} {A : Nat → Prop} {D : va_G} {cy : Nat → ClassId} {ad ar : Nat → Nat} {o1 o2 : Nat} {cL cD : ClassId} {κ b0 : Nat} {u v w : tmM} {bs : List Int32} {xo : Int64} {xd : UInt64} {z : Int32 × tlS} {adK adV adE : Nat → Nat} {tC : Nat} (x1 : Int32) (C0 : tmC p s m args meth c cL_copy 4 (some .int) RL TMW tm_NWC D cy tm_s0 tm_a0 0 (tlW cy ad ar o1 o2 cL cD κ b0 u v w xo xd) A) (hE : tmSc adK adV adE tC A s s.heap) (hTh : tmTh A s s.heap) (hF : tlF D cy cL cD s) (hT : tmTx κ u bs) (htab : c.exceptionTable.toList = tableOf [(0, 9, 12, 18)]) : tmG p l e ({ frames := 8, cells := 1, slots := 6, locals := 175 }) s m args below meth c 0 0 (MQ below (va_Qi (fun r y => z = (r, y)) (tlT D cy ad ar o1 o2 cL cD w A) A) args s 1 6 A) 4 D cy tm_s0 tm_a0 0 (tlW cy ad ar o1 o2 cL cD κ b0 u v w xo xd) A z 0 [(0, .ref (ad 247)), (1, .int x1), (2, .ref o1)] [] tm_v0 (g_copy x1 v bs xo xd) := by
  unfold g_copy
  refine tg_aload_n 2 C0 dL_copy_0 rfl rfl ?_
  refine tg_iconst (x := 0) C0 dL_copy_1 (by decide) ?_
  refine tg_aload_n 0 C0 dL_copy_2 rfl rfl ?_
  refine tg_iload_n 1 C0 dL_copy_3 rfl rfl ?_
  refine tl_xi (tl_hh (none) (some 12) (none)) (As := [.int x1]) (fs := [some 0, some 248, none, none, some 249, none, some 250, some 251, some 256]) 1 C0 hTh dL_copy_4 (c_X7_copy l hl x1 v) rfl rfl rfl rfl (tm_gV tl_L_68 ti_X7_copy ts_X7_copy tn_X7 tc_X7_copy) rfl rfl rfl rfl (by decide +kernel) ⟨Nat.le_of_ble_eq_true rfl, Nat.le_of_ble_eq_true rfl⟩ (Nat.le_of_ble_eq_true rfl) ⟨Nat.le_of_ble_eq_true rfl, Nat.le_of_ble_eq_true rfl⟩ (fun i v' h => tl_hno (fun _ => rfl) (fun h => by cases h) (fun _ => rfl) i ((xo, xd), (v', bs)) h) (fun i pcH hi H locs ls q ce hq hv hc kk => ?_) (fun i pcH q v' hi C0 => ?_) (fun r v' C0 => ?_)
  · match i, hi with
    | 0, hi => cases hi
    | 1, hi =>
      cases hi
      exact tl_catch (1) C0.2.2.2.2.2.1 C0.2.2.2.2.2.2.1 tl_hcl hF [] [] ⟨0, 9, 12, 18⟩ htab (fun z hz => by cases hz) rfl rfl hq hv hc kk
    | i + 2, hi => cases hi
  · match i, hi with
    | 0, hi => cases hi
    | 1, hi =>
      cases hi
      refine tg_eq (r := some (1, ((xo, xd), (v', bs)))) rfl ?_
      refine tg_astore_n [(3, .ref q), (0, .ref (ad 247)), (1, .int x1), (2, .ref o1)] C0 dL_copy_12 rfl (by decide) rfl ?_
      refine tg_iconst (x := 1) C0 dL_copy_13 (by decide) ?_
      exact tl_iret C0 hT dL_copy_14 ⟨Nat.le_of_ble_eq_true rfl, Nat.le_of_ble_eq_true rfl⟩
    | i + 2, hi => cases hi
  · refine tl_i2l C0 dL_copy_7 ?_
    refine tl_last C0 hF dL_copy_8 (fun C0 => ?_)
    refine tg_goto 15 C0 dL_copy_9 (by decide) ?_
    refine tg_iconst (x := 0) C0 dL_copy_15 (by decide) ?_
    exact tl_iret C0 hT dL_copy_16 ⟨Nat.le_of_ble_eq_true rfl, Nat.le_of_ble_eq_true rfl⟩
theorem cL_c_copy (l : Launch) (hl : l.stackTraces = false) {adK adV adE : Nat → Nat} {tC : Nat} (x1 : Int32) (v : tmM) (bs : List Int32) : tlI l adK adV adE tC yL_copy (Cond.codeWith yL_copy cL_copy 4 (some .int) [(0, 9, 12, 18)] :: TMW) ({ frames := 8, cells := 1, slots := 6, locals := 175 }) (fun o1 o2 => [.int x1, .ref o1]) v bs 1 6 (g_copy x1 v bs) :=
  tlI.of (hh := [(0, 9, 12, 18)]) (by decide +kernel) rfl (fun _ _ _ => Nat.le_of_ble_eq_true rfl) (fun p e s m args below meth c A D cy ad ar o1 o2 cL cD κ b0 u w xo xd z C0 hE hTh hF hT htab => wL_copy hl x1 C0 hE hTh hF hT htab)
-- ----- repair
theorem dL_repair_0 : decode cL_repair 0 = .ok (.aload_n 2, 1) := by decide +kernel
theorem dL_repair_1 : decode cL_repair 1 = .ok (.iconst 0, 1) := by decide +kernel
theorem dL_repair_2 : decode cL_repair 2 = .ok (.aload_n 0, 1) := by decide +kernel
theorem dL_repair_3 : decode cL_repair 3 = .ok (.iload_n 1, 1) := by decide +kernel
theorem dL_repair_4 : decode cL_repair 4 = .ok (.invokevirtual 71, 3) := by decide +kernel
theorem dL_repair_7 : decode cL_repair 7 = .ok (.i2l, 1) := by decide +kernel
theorem dL_repair_8 : decode cL_repair 8 = .ok (.lastore, 1) := by decide +kernel
theorem dL_repair_9 : decode cL_repair 9 = .ok (.goto 6, 3) := by decide +kernel
theorem dL_repair_12 : decode cL_repair 12 = .ok (.astore_n 3, 1) := by decide +kernel
theorem dL_repair_13 : decode cL_repair 13 = .ok (.iconst 1, 1) := by decide +kernel
theorem dL_repair_14 : decode cL_repair 14 = .ok (.ireturn, 1) := by decide +kernel
theorem dL_repair_15 : decode cL_repair 15 = .ok (.iconst 0, 1) := by decide +kernel
theorem dL_repair_16 : decode cL_repair 16 = .ok (.ireturn, 1) := by decide +kernel
theorem tl_L_71 : Cond.methodLink RL 71 yX7_repair ∈ TMW := tm_in 1088 (by decide +kernel) (by decide +kernel)
theorem ti_X7_repair : Cond.instanceMethod yX7_repair ∈ TMW := tm_in 1089 (by decide +kernel) (by decide +kernel)
theorem ts_X7_repair : Cond.selects RX7 yX7_repair yX7_repair ∈ TMW := tm_in 1090 (by decide +kernel) (by decide +kernel)
theorem tc_X7_repair : Cond.code yX7_repair cX7_repair 2 (some .int) ∈ TMW := tm_in 1091 (by decide +kernel) (by decide +kernel)
def g_repair (x1 : Int32) (v : tmM) (bs : List Int32) (xo : Int64) (xd : UInt64) : Option (Int32 × tlS) := tl_cx (f_X7_repair x1 v) (fun r v' => some (0, ((r.toInt64, xd), (v', bs)))) (fun i v' => tl_kx (none) (some 1) (none) i ((xo, xd), (v', bs)))
set_option maxRecDepth 100000 in
theorem wL_repair {p : Program} {l : Launch} (hl : l.stackTraces = false) {e : Env} {s : State} {m : MethodId} {args : Array Value} {below : List Frame} {meth : Method} {c : Code} {A : Nat → Prop} {D : va_G} {cy : Nat → ClassId} {ad ar : Nat → Nat} {o1 o2 : Nat} {cL cD : ClassId} {κ b0 : Nat} {u v w : tmM} {bs : List Int32} {xo : Int64} {xd : UInt64} {z : Int32 × tlS} {adK adV adE : Nat → Nat} {tC : Nat} (x1 : Int32) (C0 : tmC p s m args meth c cL_repair 4 (some .int) RL TMW tm_NWC D cy tm_s0 tm_a0 0 (tlW cy ad ar o1 o2 cL cD κ b0 u v w xo xd) A) (hE : tmSc adK adV adE tC A s s.heap) (hTh : tmTh A s s.heap) (hF : tlF D cy cL cD s) (hT : tmTx κ u bs) (htab : c.exceptionTable.toList = tableOf [(0, 9, 12, 18)]) : tmG p l e ({ frames := 8, cells := 1, slots := 6, locals := 175 }) s m args below meth c 0 0 (MQ below (va_Qi (fun r y => z = (r, y)) (tlT D cy ad ar o1 o2 cL cD w A) A) args s 1 6 A) 4 D cy tm_s0 tm_a0 0 (tlW cy ad ar o1 o2 cL cD κ b0 u v w xo xd) A z 0 [(0, .ref (ad 247)), (1, .int x1), (2, .ref o1)] [] tm_v0 (g_repair x1 v bs xo xd) := by
  unfold g_repair
  refine tg_aload_n 2 C0 dL_repair_0 rfl rfl ?_
  refine tg_iconst (x := 0) C0 dL_repair_1 (by decide) ?_
  refine tg_aload_n 0 C0 dL_repair_2 rfl rfl ?_
  refine tg_iload_n 1 C0 dL_repair_3 rfl rfl ?_
  refine tl_xi (tl_hh (none) (some 12) (none)) (As := [.int x1]) (fs := [some 0, some 248, none, none, some 249, none, some 250, some 251, some 256]) 1 C0 hTh dL_repair_4 (c_X7_repair l hl x1 v) rfl rfl rfl rfl (tm_gV tl_L_71 ti_X7_repair ts_X7_repair tn_X7 tc_X7_repair) rfl rfl rfl rfl (by decide +kernel) ⟨Nat.le_of_ble_eq_true rfl, Nat.le_of_ble_eq_true rfl⟩ (Nat.le_of_ble_eq_true rfl) ⟨Nat.le_of_ble_eq_true rfl, Nat.le_of_ble_eq_true rfl⟩ (fun i v' h => tl_hno (fun _ => rfl) (fun h => by cases h) (fun _ => rfl) i ((xo, xd), (v', bs)) h) (fun i pcH hi H locs ls q ce hq hv hc kk => ?_) (fun i pcH q v' hi C0 => ?_) (fun r v' C0 => ?_)
  · match i, hi with
    | 0, hi => cases hi
    | 1, hi =>
      cases hi
      exact tl_catch (1) C0.2.2.2.2.2.1 C0.2.2.2.2.2.2.1 tl_hcl hF [] [] ⟨0, 9, 12, 18⟩ htab (fun z hz => by cases hz) rfl rfl hq hv hc kk
    | i + 2, hi => cases hi
  · match i, hi with
    | 0, hi => cases hi
    | 1, hi =>
      cases hi
      refine tg_eq (r := some (1, ((xo, xd), (v', bs)))) rfl ?_
      refine tg_astore_n [(3, .ref q), (0, .ref (ad 247)), (1, .int x1), (2, .ref o1)] C0 dL_repair_12 rfl (by decide) rfl ?_
      refine tg_iconst (x := 1) C0 dL_repair_13 (by decide) ?_
      exact tl_iret C0 hT dL_repair_14 ⟨Nat.le_of_ble_eq_true rfl, Nat.le_of_ble_eq_true rfl⟩
    | i + 2, hi => cases hi
  · refine tl_i2l C0 dL_repair_7 ?_
    refine tl_last C0 hF dL_repair_8 (fun C0 => ?_)
    refine tg_goto 15 C0 dL_repair_9 (by decide) ?_
    refine tg_iconst (x := 0) C0 dL_repair_15 (by decide) ?_
    exact tl_iret C0 hT dL_repair_16 ⟨Nat.le_of_ble_eq_true rfl, Nat.le_of_ble_eq_true rfl⟩
theorem cL_c_repair (l : Launch) (hl : l.stackTraces = false) {adK adV adE : Nat → Nat} {tC : Nat} (x1 : Int32) (v : tmM) (bs : List Int32) : tlI l adK adV adE tC yL_repair (Cond.codeWith yL_repair cL_repair 4 (some .int) [(0, 9, 12, 18)] :: TMW) ({ frames := 8, cells := 1, slots := 6, locals := 175 }) (fun o1 o2 => [.int x1, .ref o1]) v bs 1 6 (g_repair x1 v bs) :=
  tlI.of (hh := [(0, 9, 12, 18)]) (by decide +kernel) rfl (fun _ _ _ => Nat.le_of_ble_eq_true rfl) (fun p e s m args below meth c A D cy ad ar o1 o2 cL cD κ b0 u w xo xd z C0 hE hTh hF hT htab => wL_repair hl x1 C0 hE hTh hF hT htab)
-- ----- check
theorem dL_check_0 : decode cL_check 0 = .ok (.aload_n 2, 1) := by decide +kernel
theorem dL_check_1 : decode cL_check 1 = .ok (.iconst 0, 1) := by decide +kernel
theorem dL_check_2 : decode cL_check 2 = .ok (.aload_n 0, 1) := by decide +kernel
theorem dL_check_3 : decode cL_check 3 = .ok (.iload_n 1, 1) := by decide +kernel
theorem dL_check_4 : decode cL_check 4 = .ok (.invokevirtual 74, 3) := by decide +kernel
theorem dL_check_7 : decode cL_check 7 = .ok (.i2l, 1) := by decide +kernel
theorem dL_check_8 : decode cL_check 8 = .ok (.lastore, 1) := by decide +kernel
theorem dL_check_9 : decode cL_check 9 = .ok (.goto 6, 3) := by decide +kernel
theorem dL_check_12 : decode cL_check 12 = .ok (.astore_n 3, 1) := by decide +kernel
theorem dL_check_13 : decode cL_check 13 = .ok (.iconst 1, 1) := by decide +kernel
theorem dL_check_14 : decode cL_check 14 = .ok (.ireturn, 1) := by decide +kernel
theorem dL_check_15 : decode cL_check 15 = .ok (.iconst 0, 1) := by decide +kernel
theorem dL_check_16 : decode cL_check 16 = .ok (.ireturn, 1) := by decide +kernel
theorem tl_L_74 : Cond.methodLink RL 74 yX7_check ∈ TMW := tm_in 1095 (by decide +kernel) (by decide +kernel)
theorem ti_X7_check : Cond.instanceMethod yX7_check ∈ TMW := tm_in 1096 (by decide +kernel) (by decide +kernel)
theorem ts_X7_check : Cond.selects RX7 yX7_check yX7_check ∈ TMW := tm_in 1097 (by decide +kernel) (by decide +kernel)
theorem tc_X7_check : Cond.code yX7_check cX7_check 2 (some .int) ∈ TMW := tm_in 1098 (by decide +kernel) (by decide +kernel)
def g_check (x1 : Int32) (v : tmM) (bs : List Int32) (xo : Int64) (xd : UInt64) : Option (Int32 × tlS) := tl_cx (f_X7_check x1 v) (fun r v' => some (0, ((r.toInt64, xd), (v', bs)))) (fun i v' => tl_kx (some 1) (none) (none) i ((xo, xd), (v', bs)))
set_option maxRecDepth 100000 in
theorem wL_check {p : Program} {l : Launch} (hl : l.stackTraces = false) {e : Env} {s : State} {m : MethodId} {args : Array Value} {below : List Frame} {meth : Method} {c : Code} {A : Nat → Prop} {D : va_G} {cy : Nat → ClassId} {ad ar : Nat → Nat} {o1 o2 : Nat} {cL cD : ClassId} {κ b0 : Nat} {u v w : tmM} {bs : List Int32} {xo : Int64} {xd : UInt64} {z : Int32 × tlS} {adK adV adE : Nat → Nat} {tC : Nat} (x1 : Int32) (C0 : tmC p s m args meth c cL_check 4 (some .int) RL TMW tm_NWC D cy tm_s0 tm_a0 0 (tlW cy ad ar o1 o2 cL cD κ b0 u v w xo xd) A) (hE : tmSc adK adV adE tC A s s.heap) (hTh : tmTh A s s.heap) (hF : tlF D cy cL cD s) (hT : tmTx κ u bs) (htab : c.exceptionTable.toList = tableOf [(0, 9, 12, 28)]) : tmG p l e ({ frames := 8, cells := 1, slots := 6, locals := 175 }) s m args below meth c 0 0 (MQ below (va_Qi (fun r y => z = (r, y)) (tlT D cy ad ar o1 o2 cL cD w A) A) args s 1 6 A) 4 D cy tm_s0 tm_a0 0 (tlW cy ad ar o1 o2 cL cD κ b0 u v w xo xd) A z 0 [(0, .ref (ad 247)), (1, .int x1), (2, .ref o1)] [] tm_v0 (g_check x1 v bs xo xd) := by
  unfold g_check
  refine tg_aload_n 2 C0 dL_check_0 rfl rfl ?_
  refine tg_iconst (x := 0) C0 dL_check_1 (by decide) ?_
  refine tg_aload_n 0 C0 dL_check_2 rfl rfl ?_
  refine tg_iload_n 1 C0 dL_check_3 rfl rfl ?_
  refine tl_xi (tl_hh (some 12) (none) (none)) (As := [.int x1]) (fs := [some 0, some 248, none, none, some 249, none, some 250, some 251, some 256]) 1 C0 hTh dL_check_4 (c_X7_check l hl x1 v) rfl rfl rfl rfl (tm_gV tl_L_74 ti_X7_check ts_X7_check tn_X7 tc_X7_check) rfl rfl rfl rfl (by decide +kernel) ⟨Nat.le_of_ble_eq_true rfl, Nat.le_of_ble_eq_true rfl⟩ (Nat.le_of_ble_eq_true rfl) ⟨Nat.le_of_ble_eq_true rfl, Nat.le_of_ble_eq_true rfl⟩ (fun i v' h => tl_hno (fun h => by cases h) (fun _ => rfl) (fun _ => rfl) i ((xo, xd), (v', bs)) h) (fun i pcH hi H locs ls q ce hq hv hc kk => ?_) (fun i pcH q v' hi C0 => ?_) (fun r v' C0 => ?_)
  · match i, hi with
    | 0, hi =>
      cases hi
      exact tl_catch (0) C0.2.2.2.2.2.1 C0.2.2.2.2.2.2.1 tl_hcl hF [] [] ⟨0, 9, 12, 28⟩ htab (fun z hz => by cases hz) rfl rfl hq hv hc kk
    | 1, hi => cases hi
    | i + 2, hi => cases hi
  · match i, hi with
    | 0, hi =>
      cases hi
      refine tg_eq (r := some (1, ((xo, xd), (v', bs)))) rfl ?_
      refine tg_astore_n [(3, .ref q), (0, .ref (ad 247)), (1, .int x1), (2, .ref o1)] C0 dL_check_12 rfl (by decide) rfl ?_
      refine tg_iconst (x := 1) C0 dL_check_13 (by decide) ?_
      exact tl_iret C0 hT dL_check_14 ⟨Nat.le_of_ble_eq_true rfl, Nat.le_of_ble_eq_true rfl⟩
    | 1, hi => cases hi
    | i + 2, hi => cases hi
  · refine tl_i2l C0 dL_check_7 ?_
    refine tl_last C0 hF dL_check_8 (fun C0 => ?_)
    refine tg_goto 15 C0 dL_check_9 (by decide) ?_
    refine tg_iconst (x := 0) C0 dL_check_15 (by decide) ?_
    exact tl_iret C0 hT dL_check_16 ⟨Nat.le_of_ble_eq_true rfl, Nat.le_of_ble_eq_true rfl⟩
theorem cL_c_check (l : Launch) (hl : l.stackTraces = false) {adK adV adE : Nat → Nat} {tC : Nat} (x1 : Int32) (v : tmM) (bs : List Int32) : tlI l adK adV adE tC yL_check (Cond.codeWith yL_check cL_check 4 (some .int) [(0, 9, 12, 28)] :: TMW) ({ frames := 8, cells := 1, slots := 6, locals := 175 }) (fun o1 o2 => [.int x1, .ref o1]) v bs 1 6 (g_check x1 v bs) :=
  tlI.of (hh := [(0, 9, 12, 28)]) (by decide +kernel) rfl (fun _ _ _ => Nat.le_of_ble_eq_true rfl) (fun p e s m args below meth c A D cy ad ar o1 o2 cL cD κ b0 u w xo xd z C0 hE hTh hF hT htab => wL_check hl x1 C0 hE hTh hF hT htab)
-- ----- switchOver
theorem dL_switchOver_0 : decode cL_switchOver 0 = .ok (.aload_n 2, 1) := by decide +kernel
theorem dL_switchOver_1 : decode cL_switchOver 1 = .ok (.iconst 0, 1) := by decide +kernel
theorem dL_switchOver_2 : decode cL_switchOver 2 = .ok (.aload_n 0, 1) := by decide +kernel
theorem dL_switchOver_3 : decode cL_switchOver 3 = .ok (.iload_n 1, 1) := by decide +kernel
theorem dL_switchOver_4 : decode cL_switchOver 4 = .ok (.invokevirtual 77, 3) := by decide +kernel
theorem dL_switchOver_7 : decode cL_switchOver 7 = .ok (.i2l, 1) := by decide +kernel
theorem dL_switchOver_8 : decode cL_switchOver 8 = .ok (.lastore, 1) := by decide +kernel
theorem dL_switchOver_9 : decode cL_switchOver 9 = .ok (.goto 6, 3) := by decide +kernel
theorem dL_switchOver_12 : decode cL_switchOver 12 = .ok (.astore_n 3, 1) := by decide +kernel
theorem dL_switchOver_13 : decode cL_switchOver 13 = .ok (.iconst 1, 1) := by decide +kernel
theorem dL_switchOver_14 : decode cL_switchOver 14 = .ok (.ireturn, 1) := by decide +kernel
theorem dL_switchOver_15 : decode cL_switchOver 15 = .ok (.iconst 0, 1) := by decide +kernel
theorem dL_switchOver_16 : decode cL_switchOver 16 = .ok (.ireturn, 1) := by decide +kernel
theorem tl_L_77 : Cond.methodLink RL 77 yX7_switchOver ∈ TMW := tm_in 1102 (by decide +kernel) (by decide +kernel)
theorem ti_X7_switchOver : Cond.instanceMethod yX7_switchOver ∈ TMW := tm_in 1103 (by decide +kernel) (by decide +kernel)
theorem ts_X7_switchOver : Cond.selects RX7 yX7_switchOver yX7_switchOver ∈ TMW := tm_in 1104 (by decide +kernel) (by decide +kernel)
theorem tc_X7_switchOver : Cond.code yX7_switchOver cX7_switchOver 2 (some .int) ∈ TMW := tm_in 1105 (by decide +kernel) (by decide +kernel)
def g_switchOver (x1 : Int32) (v : tmM) (bs : List Int32) (xo : Int64) (xd : UInt64) : Option (Int32 × tlS) := tl_cx (f_X7_switchOver x1 v) (fun r v' => some (0, ((r.toInt64, xd), (v', bs)))) (fun i v' => tl_kx (some 1) (none) (none) i ((xo, xd), (v', bs)))
set_option maxRecDepth 100000 in
theorem wL_switchOver {p : Program} {l : Launch} (hl : l.stackTraces = false) {e : Env} {s : State} {m : MethodId} {args : Array Value} {below : List Frame} {meth : Method} {c : Code} {A : Nat → Prop} {D : va_G} {cy : Nat → ClassId} {ad ar : Nat → Nat} {o1 o2 : Nat} {cL cD : ClassId} {κ b0 : Nat} {u v w : tmM} {bs : List Int32} {xo : Int64} {xd : UInt64} {z : Int32 × tlS} {adK adV adE : Nat → Nat} {tC : Nat} (x1 : Int32) (C0 : tmC p s m args meth c cL_switchOver 4 (some .int) RL TMW tm_NWC D cy tm_s0 tm_a0 0 (tlW cy ad ar o1 o2 cL cD κ b0 u v w xo xd) A) (hE : tmSc adK adV adE tC A s s.heap) (hTh : tmTh A s s.heap) (hF : tlF D cy cL cD s) (hT : tmTx κ u bs) (htab : c.exceptionTable.toList = tableOf [(0, 9, 12, 28)]) : tmG p l e ({ frames := 8, cells := 1, slots := 6, locals := 175 }) s m args below meth c 0 0 (MQ below (va_Qi (fun r y => z = (r, y)) (tlT D cy ad ar o1 o2 cL cD w A) A) args s 1 6 A) 4 D cy tm_s0 tm_a0 0 (tlW cy ad ar o1 o2 cL cD κ b0 u v w xo xd) A z 0 [(0, .ref (ad 247)), (1, .int x1), (2, .ref o1)] [] tm_v0 (g_switchOver x1 v bs xo xd) := by
  unfold g_switchOver
  refine tg_aload_n 2 C0 dL_switchOver_0 rfl rfl ?_
  refine tg_iconst (x := 0) C0 dL_switchOver_1 (by decide) ?_
  refine tg_aload_n 0 C0 dL_switchOver_2 rfl rfl ?_
  refine tg_iload_n 1 C0 dL_switchOver_3 rfl rfl ?_
  refine tl_xi (tl_hh (some 12) (none) (none)) (As := [.int x1]) (fs := [some 0, some 248, none, none, some 249, none, some 250, some 251, some 256]) 1 C0 hTh dL_switchOver_4 (c_X7_switchOver l hl x1 v) rfl rfl rfl rfl (tm_gV tl_L_77 ti_X7_switchOver ts_X7_switchOver tn_X7 tc_X7_switchOver) rfl rfl rfl rfl (by decide +kernel) ⟨Nat.le_of_ble_eq_true rfl, Nat.le_of_ble_eq_true rfl⟩ (Nat.le_of_ble_eq_true rfl) ⟨Nat.le_of_ble_eq_true rfl, Nat.le_of_ble_eq_true rfl⟩ (fun i v' h => tl_hno (fun h => by cases h) (fun _ => rfl) (fun _ => rfl) i ((xo, xd), (v', bs)) h) (fun i pcH hi H locs ls q ce hq hv hc kk => ?_) (fun i pcH q v' hi C0 => ?_) (fun r v' C0 => ?_)
  · match i, hi with
    | 0, hi =>
      cases hi
      exact tl_catch (0) C0.2.2.2.2.2.1 C0.2.2.2.2.2.2.1 tl_hcl hF [] [] ⟨0, 9, 12, 28⟩ htab (fun z hz => by cases hz) rfl rfl hq hv hc kk
    | 1, hi => cases hi
    | i + 2, hi => cases hi
  · match i, hi with
    | 0, hi =>
      cases hi
      refine tg_eq (r := some (1, ((xo, xd), (v', bs)))) rfl ?_
      refine tg_astore_n [(3, .ref q), (0, .ref (ad 247)), (1, .int x1), (2, .ref o1)] C0 dL_switchOver_12 rfl (by decide) rfl ?_
      refine tg_iconst (x := 1) C0 dL_switchOver_13 (by decide) ?_
      exact tl_iret C0 hT dL_switchOver_14 ⟨Nat.le_of_ble_eq_true rfl, Nat.le_of_ble_eq_true rfl⟩
    | 1, hi => cases hi
    | i + 2, hi => cases hi
  · refine tl_i2l C0 dL_switchOver_7 ?_
    refine tl_last C0 hF dL_switchOver_8 (fun C0 => ?_)
    refine tg_goto 15 C0 dL_switchOver_9 (by decide) ?_
    refine tg_iconst (x := 0) C0 dL_switchOver_15 (by decide) ?_
    exact tl_iret C0 hT dL_switchOver_16 ⟨Nat.le_of_ble_eq_true rfl, Nat.le_of_ble_eq_true rfl⟩
theorem cL_c_switchOver (l : Launch) (hl : l.stackTraces = false) {adK adV adE : Nat → Nat} {tC : Nat} (x1 : Int32) (v : tmM) (bs : List Int32) : tlI l adK adV adE tC yL_switchOver (Cond.codeWith yL_switchOver cL_switchOver 4 (some .int) [(0, 9, 12, 28)] :: TMW) ({ frames := 8, cells := 1, slots := 6, locals := 175 }) (fun o1 o2 => [.int x1, .ref o1]) v bs 1 6 (g_switchOver x1 v bs) :=
  tlI.of (hh := [(0, 9, 12, 28)]) (by decide +kernel) rfl (fun _ _ _ => Nat.le_of_ble_eq_true rfl) (fun p e s m args below meth c A D cy ad ar o1 o2 cL cD κ b0 u w xo xd z C0 hE hTh hF hT htab => wL_switchOver hl x1 C0 hE hTh hF hT htab)
-- ----- switchBack
theorem dL_switchBack_0 : decode cL_switchBack 0 = .ok (.aload_n 2, 1) := by decide +kernel
theorem dL_switchBack_1 : decode cL_switchBack 1 = .ok (.iconst 0, 1) := by decide +kernel
theorem dL_switchBack_2 : decode cL_switchBack 2 = .ok (.aload_n 0, 1) := by decide +kernel
theorem dL_switchBack_3 : decode cL_switchBack 3 = .ok (.iload_n 1, 1) := by decide +kernel
theorem dL_switchBack_4 : decode cL_switchBack 4 = .ok (.invokevirtual 80, 3) := by decide +kernel
theorem dL_switchBack_7 : decode cL_switchBack 7 = .ok (.i2l, 1) := by decide +kernel
theorem dL_switchBack_8 : decode cL_switchBack 8 = .ok (.lastore, 1) := by decide +kernel
theorem dL_switchBack_9 : decode cL_switchBack 9 = .ok (.goto 6, 3) := by decide +kernel
theorem dL_switchBack_12 : decode cL_switchBack 12 = .ok (.astore_n 3, 1) := by decide +kernel
theorem dL_switchBack_13 : decode cL_switchBack 13 = .ok (.iconst 1, 1) := by decide +kernel
theorem dL_switchBack_14 : decode cL_switchBack 14 = .ok (.ireturn, 1) := by decide +kernel
theorem dL_switchBack_15 : decode cL_switchBack 15 = .ok (.iconst 0, 1) := by decide +kernel
theorem dL_switchBack_16 : decode cL_switchBack 16 = .ok (.ireturn, 1) := by decide +kernel
theorem tl_L_80 : Cond.methodLink RL 80 yX7_switchBack ∈ TMW := tm_in 1109 (by decide +kernel) (by decide +kernel)
theorem ti_X7_switchBack : Cond.instanceMethod yX7_switchBack ∈ TMW := tm_in 1110 (by decide +kernel) (by decide +kernel)
theorem ts_X7_switchBack : Cond.selects RX7 yX7_switchBack yX7_switchBack ∈ TMW := tm_in 1111 (by decide +kernel) (by decide +kernel)
theorem tc_X7_switchBack : Cond.code yX7_switchBack cX7_switchBack 2 (some .int) ∈ TMW := tm_in 1112 (by decide +kernel) (by decide +kernel)
def g_switchBack (x1 : Int32) (v : tmM) (bs : List Int32) (xo : Int64) (xd : UInt64) : Option (Int32 × tlS) := tl_cx (f_X7_switchBack x1 v) (fun r v' => some (0, ((r.toInt64, xd), (v', bs)))) (fun i v' => tl_kx (some 1) (none) (none) i ((xo, xd), (v', bs)))
set_option maxRecDepth 100000 in
theorem wL_switchBack {p : Program} {l : Launch} (hl : l.stackTraces = false) {e : Env} {s : State} {m : MethodId} {args : Array Value} {below : List Frame} {meth : Method} {c : Code} {A : Nat → Prop} {D : va_G} {cy : Nat → ClassId} {ad ar : Nat → Nat} {o1 o2 : Nat} {cL cD : ClassId} {κ b0 : Nat} {u v w : tmM} {bs : List Int32} {xo : Int64} {xd : UInt64} {z : Int32 × tlS} {adK adV adE : Nat → Nat} {tC : Nat} (x1 : Int32) (C0 : tmC p s m args meth c cL_switchBack 4 (some .int) RL TMW tm_NWC D cy tm_s0 tm_a0 0 (tlW cy ad ar o1 o2 cL cD κ b0 u v w xo xd) A) (hE : tmSc adK adV adE tC A s s.heap) (hTh : tmTh A s s.heap) (hF : tlF D cy cL cD s) (hT : tmTx κ u bs) (htab : c.exceptionTable.toList = tableOf [(0, 9, 12, 28)]) : tmG p l e ({ frames := 8, cells := 1, slots := 6, locals := 175 }) s m args below meth c 0 0 (MQ below (va_Qi (fun r y => z = (r, y)) (tlT D cy ad ar o1 o2 cL cD w A) A) args s 1 6 A) 4 D cy tm_s0 tm_a0 0 (tlW cy ad ar o1 o2 cL cD κ b0 u v w xo xd) A z 0 [(0, .ref (ad 247)), (1, .int x1), (2, .ref o1)] [] tm_v0 (g_switchBack x1 v bs xo xd) := by
  unfold g_switchBack
  refine tg_aload_n 2 C0 dL_switchBack_0 rfl rfl ?_
  refine tg_iconst (x := 0) C0 dL_switchBack_1 (by decide) ?_
  refine tg_aload_n 0 C0 dL_switchBack_2 rfl rfl ?_
  refine tg_iload_n 1 C0 dL_switchBack_3 rfl rfl ?_
  refine tl_xi (tl_hh (some 12) (none) (none)) (As := [.int x1]) (fs := [some 0, some 248, none, none, some 249, none, some 250, some 251, some 256]) 1 C0 hTh dL_switchBack_4 (c_X7_switchBack l hl x1 v) rfl rfl rfl rfl (tm_gV tl_L_80 ti_X7_switchBack ts_X7_switchBack tn_X7 tc_X7_switchBack) rfl rfl rfl rfl (by decide +kernel) ⟨Nat.le_of_ble_eq_true rfl, Nat.le_of_ble_eq_true rfl⟩ (Nat.le_of_ble_eq_true rfl) ⟨Nat.le_of_ble_eq_true rfl, Nat.le_of_ble_eq_true rfl⟩ (fun i v' h => tl_hno (fun h => by cases h) (fun _ => rfl) (fun _ => rfl) i ((xo, xd), (v', bs)) h) (fun i pcH hi H locs ls q ce hq hv hc kk => ?_) (fun i pcH q v' hi C0 => ?_) (fun r v' C0 => ?_)
  · match i, hi with
    | 0, hi =>
      cases hi
      exact tl_catch (0) C0.2.2.2.2.2.1 C0.2.2.2.2.2.2.1 tl_hcl hF [] [] ⟨0, 9, 12, 28⟩ htab (fun z hz => by cases hz) rfl rfl hq hv hc kk
    | 1, hi => cases hi
    | i + 2, hi => cases hi
  · match i, hi with
    | 0, hi =>
      cases hi
      refine tg_eq (r := some (1, ((xo, xd), (v', bs)))) rfl ?_
      refine tg_astore_n [(3, .ref q), (0, .ref (ad 247)), (1, .int x1), (2, .ref o1)] C0 dL_switchBack_12 rfl (by decide) rfl ?_
      refine tg_iconst (x := 1) C0 dL_switchBack_13 (by decide) ?_
      exact tl_iret C0 hT dL_switchBack_14 ⟨Nat.le_of_ble_eq_true rfl, Nat.le_of_ble_eq_true rfl⟩
    | 1, hi => cases hi
    | i + 2, hi => cases hi
  · refine tl_i2l C0 dL_switchBack_7 ?_
    refine tl_last C0 hF dL_switchBack_8 (fun C0 => ?_)
    refine tg_goto 15 C0 dL_switchBack_9 (by decide) ?_
    refine tg_iconst (x := 0) C0 dL_switchBack_15 (by decide) ?_
    exact tl_iret C0 hT dL_switchBack_16 ⟨Nat.le_of_ble_eq_true rfl, Nat.le_of_ble_eq_true rfl⟩
theorem cL_c_switchBack (l : Launch) (hl : l.stackTraces = false) {adK adV adE : Nat → Nat} {tC : Nat} (x1 : Int32) (v : tmM) (bs : List Int32) : tlI l adK adV adE tC yL_switchBack (Cond.codeWith yL_switchBack cL_switchBack 4 (some .int) [(0, 9, 12, 28)] :: TMW) ({ frames := 8, cells := 1, slots := 6, locals := 175 }) (fun o1 o2 => [.int x1, .ref o1]) v bs 1 6 (g_switchBack x1 v bs) :=
  tlI.of (hh := [(0, 9, 12, 28)]) (by decide +kernel) rfl (fun _ _ _ => Nat.le_of_ble_eq_true rfl) (fun p e s m args below meth c A D cy ad ar o1 o2 cL cD κ b0 u w xo xd z C0 hE hTh hF hT htab => wL_switchBack hl x1 C0 hE hTh hF hT htab)
-- ----- fill
theorem dL_fill_0 : decode cL_fill 0 = .ok (.aload 5, 2) := by decide +kernel
theorem dL_fill_2 : decode cL_fill 2 = .ok (.iconst 0, 1) := by decide +kernel
theorem dL_fill_3 : decode cL_fill 3 = .ok (.aload_n 0, 1) := by decide +kernel
theorem dL_fill_4 : decode cL_fill 4 = .ok (.iload_n 1, 1) := by decide +kernel
theorem dL_fill_5 : decode cL_fill 5 = .ok (.iload_n 2, 1) := by decide +kernel
theorem dL_fill_6 : decode cL_fill 6 = .ok (.iload_n 3, 1) := by decide +kernel
theorem dL_fill_7 : decode cL_fill 7 = .ok (.iload 4, 2) := by decide +kernel
theorem dL_fill_9 : decode cL_fill 9 = .ok (.invokevirtual 83, 3) := by decide +kernel
theorem dL_fill_12 : decode cL_fill 12 = .ok (.i2l, 1) := by decide +kernel
theorem dL_fill_13 : decode cL_fill 13 = .ok (.lastore, 1) := by decide +kernel
theorem dL_fill_14 : decode cL_fill 14 = .ok (.goto 11, 3) := by decide +kernel
theorem dL_fill_17 : decode cL_fill 17 = .ok (.astore 6, 2) := by decide +kernel
theorem dL_fill_19 : decode cL_fill 19 = .ok (.iconst 1, 1) := by decide +kernel
theorem dL_fill_20 : decode cL_fill 20 = .ok (.ireturn, 1) := by decide +kernel
theorem dL_fill_21 : decode cL_fill 21 = .ok (.astore 6, 2) := by decide +kernel
theorem dL_fill_23 : decode cL_fill 23 = .ok (.iconst 2, 1) := by decide +kernel
theorem dL_fill_24 : decode cL_fill 24 = .ok (.ireturn, 1) := by decide +kernel
theorem dL_fill_25 : decode cL_fill 25 = .ok (.iconst 0, 1) := by decide +kernel
theorem dL_fill_26 : decode cL_fill 26 = .ok (.ireturn, 1) := by decide +kernel
theorem tl_L_83 : Cond.methodLink RL 83 yX7_fill ∈ TMW := tm_in 1116 (by decide +kernel) (by decide +kernel)
theorem ti_X7_fill : Cond.instanceMethod yX7_fill ∈ TMW := tm_in 1117 (by decide +kernel) (by decide +kernel)
theorem ts_X7_fill : Cond.selects RX7 yX7_fill yX7_fill ∈ TMW := tm_in 1118 (by decide +kernel) (by decide +kernel)
theorem tc_X7_fill : Cond.code yX7_fill cX7_fill 5 (some .int) ∈ TMW := tm_in 1119 (by decide +kernel) (by decide +kernel)
def g_fill (x1 : Int32) (x2 : Int32) (x3 : Int32) (x4 : Int32) (v : tmM) (bs : List Int32) (xo : Int64) (xd : UInt64) : Option (Int32 × tlS) := tl_cx (f_X7_fill x1 x2 x3 x4 v) (fun r v' => some (0, ((r.toInt64, xd), (v', bs)))) (fun i v' => tl_kx (some 1) (some 2) (none) i ((xo, xd), (v', bs)))
set_option maxRecDepth 100000 in
theorem wL_fill {p : Program} {l : Launch} (hl : l.stackTraces = false) {e : Env} {s : State} {m : MethodId} {args : Array Value} {below : List Frame} {meth : Method} {c : Code} {A : Nat → Prop} {D : va_G} {cy : Nat → ClassId} {ad ar : Nat → Nat} {o1 o2 : Nat} {cL cD : ClassId} {κ b0 : Nat} {u v w : tmM} {bs : List Int32} {xo : Int64} {xd : UInt64} {z : Int32 × tlS} {adK adV adE : Nat → Nat} {tC : Nat} (x1 : Int32) (x2 : Int32) (x3 : Int32) (x4 : Int32) (C0 : tmC p s m args meth c cL_fill 7 (some .int) RL TMW tm_NWC D cy tm_s0 tm_a0 0 (tlW cy ad ar o1 o2 cL cD κ b0 u v w xo xd) A) (hE : tmSc adK adV adE tC A s s.heap) (hTh : tmTh A s s.heap) (hF : tlF D cy cL cD s) (hT : tmTx κ u bs) (htab : c.exceptionTable.toList = tableOf [(0, 14, 17, 28), (0, 14, 21, 18)]) : tmG p l e ({ frames := 8, cells := 2, slots := 12, locals := 174 }) s m args below meth c 0 0 (MQ below (va_Qi (fun r y => z = (r, y)) (tlT D cy ad ar o1 o2 cL cD w A) A) args s 2 12 A) 7 D cy tm_s0 tm_a0 0 (tlW cy ad ar o1 o2 cL cD κ b0 u v w xo xd) A z 0 [(0, .ref (ad 247)), (1, .int x1), (2, .int x2), (3, .int x3), (4, .int x4), (5, .ref o1)] [] tm_v0 (g_fill x1 x2 x3 x4 v bs xo xd) := by
  unfold g_fill
  refine tg_aload 5 C0 dL_fill_0 rfl ?_
  refine tg_iconst (x := 0) C0 dL_fill_2 (by decide) ?_
  refine tg_aload_n 0 C0 dL_fill_3 rfl rfl ?_
  refine tg_iload_n 1 C0 dL_fill_4 rfl rfl ?_
  refine tg_iload_n 2 C0 dL_fill_5 rfl rfl ?_
  refine tg_iload_n 3 C0 dL_fill_6 rfl rfl ?_
  refine tg_iload 4 C0 dL_fill_7 rfl ?_
  refine tl_xi (tl_hh (some 17) (some 21) (none)) (As := [.int x1, .int x2, .int x3, .int x4]) (fs := [some 0, some 248, none, none, some 249, none, some 250, some 251, some 256]) 4 C0 hTh dL_fill_9 (c_X7_fill l hl x1 x2 x3 x4 v) rfl rfl rfl rfl (tm_gV tl_L_83 ti_X7_fill ts_X7_fill tn_X7 tc_X7_fill) rfl rfl rfl rfl (by decide +kernel) ⟨Nat.le_of_ble_eq_true rfl, Nat.le_of_ble_eq_true rfl⟩ (Nat.le_of_ble_eq_true rfl) ⟨Nat.le_of_ble_eq_true rfl, Nat.le_of_ble_eq_true rfl⟩ (fun i v' h => tl_hno (fun h => by cases h) (fun h => by cases h) (fun _ => rfl) i ((xo, xd), (v', bs)) h) (fun i pcH hi H locs ls q ce hq hv hc kk => ?_) (fun i pcH q v' hi C0 => ?_) (fun r v' C0 => ?_)
  · match i, hi with
    | 0, hi =>
      cases hi
      exact tl_catch (0) C0.2.2.2.2.2.1 C0.2.2.2.2.2.2.1 tl_hcl hF [] [⟨0, 14, 21, 18⟩] ⟨0, 14, 17, 28⟩ htab (fun z hz => by cases hz) rfl rfl hq hv hc kk
    | 1, hi =>
      cases hi
      exact tl_catch (1) C0.2.2.2.2.2.1 C0.2.2.2.2.2.2.1 tl_hcl hF [⟨0, 14, 17, 28⟩] [] ⟨0, 14, 21, 18⟩ htab (fun z hz => by
        simp only [List.mem_cons, List.not_mem_nil, or_false] at hz
        rcases hz with rfl
        · exact ⟨0, by decide, by omega, rfl⟩) rfl rfl hq hv hc kk
    | i + 2, hi => cases hi
  · match i, hi with
    | 0, hi =>
      cases hi
      refine tg_eq (r := some (1, ((xo, xd), (v', bs)))) rfl ?_
      refine tg_astore [(6, .ref q), (0, .ref (ad 247)), (1, .int x1), (2, .int x2), (3, .int x3), (4, .int x4), (5, .ref o1)] C0 dL_fill_17 (by decide) rfl ?_
      refine tg_iconst (x := 1) C0 dL_fill_19 (by decide) ?_
      exact tl_iret C0 hT dL_fill_20 ⟨Nat.le_of_ble_eq_true rfl, Nat.le_of_ble_eq_true rfl⟩
    | 1, hi =>
      cases hi
      refine tg_eq (r := some (2, ((xo, xd), (v', bs)))) rfl ?_
      refine tg_astore [(6, .ref q), (0, .ref (ad 247)), (1, .int x1), (2, .int x2), (3, .int x3), (4, .int x4), (5, .ref o1)] C0 dL_fill_21 (by decide) rfl ?_
      refine tg_iconst (x := 2) C0 dL_fill_23 (by decide) ?_
      exact tl_iret C0 hT dL_fill_24 ⟨Nat.le_of_ble_eq_true rfl, Nat.le_of_ble_eq_true rfl⟩
    | i + 2, hi => cases hi
  · refine tl_i2l C0 dL_fill_12 ?_
    refine tl_last C0 hF dL_fill_13 (fun C0 => ?_)
    refine tg_goto 25 C0 dL_fill_14 (by decide) ?_
    refine tg_iconst (x := 0) C0 dL_fill_25 (by decide) ?_
    exact tl_iret C0 hT dL_fill_26 ⟨Nat.le_of_ble_eq_true rfl, Nat.le_of_ble_eq_true rfl⟩
theorem cL_c_fill (l : Launch) (hl : l.stackTraces = false) {adK adV adE : Nat → Nat} {tC : Nat} (x1 : Int32) (x2 : Int32) (x3 : Int32) (x4 : Int32) (v : tmM) (bs : List Int32) : tlI l adK adV adE tC yL_fill (Cond.codeWith yL_fill cL_fill 7 (some .int) [(0, 14, 17, 28), (0, 14, 21, 18)] :: TMW) ({ frames := 8, cells := 2, slots := 12, locals := 174 }) (fun o1 o2 => [.int x1, .int x2, .int x3, .int x4, .ref o1]) v bs 2 12 (g_fill x1 x2 x3 x4 v bs) :=
  tlI.of (hh := [(0, 14, 17, 28), (0, 14, 21, 18)]) (by decide +kernel) rfl (fun _ _ _ => Nat.le_of_ble_eq_true rfl) (fun p e s m args below meth c A D cy ad ar o1 o2 cL cD κ b0 u w xo xd z C0 hE hTh hF hT htab => wL_fill hl x1 x2 x3 x4 C0 hE hTh hF hT htab)
-- ----- clearRange
theorem dL_clearRange_0 : decode cL_clearRange 0 = .ok (.aload_n 3, 1) := by decide +kernel
theorem dL_clearRange_1 : decode cL_clearRange 1 = .ok (.iconst 0, 1) := by decide +kernel
theorem dL_clearRange_2 : decode cL_clearRange 2 = .ok (.aload_n 0, 1) := by decide +kernel
theorem dL_clearRange_3 : decode cL_clearRange 3 = .ok (.iload_n 1, 1) := by decide +kernel
theorem dL_clearRange_4 : decode cL_clearRange 4 = .ok (.iload_n 2, 1) := by decide +kernel
theorem dL_clearRange_5 : decode cL_clearRange 5 = .ok (.invokevirtual 87, 3) := by decide +kernel
theorem dL_clearRange_8 : decode cL_clearRange 8 = .ok (.i2l, 1) := by decide +kernel
theorem dL_clearRange_9 : decode cL_clearRange 9 = .ok (.lastore, 1) := by decide +kernel
theorem dL_clearRange_10 : decode cL_clearRange 10 = .ok (.goto 7, 3) := by decide +kernel
theorem dL_clearRange_13 : decode cL_clearRange 13 = .ok (.astore 4, 2) := by decide +kernel
theorem dL_clearRange_15 : decode cL_clearRange 15 = .ok (.iconst 1, 1) := by decide +kernel
theorem dL_clearRange_16 : decode cL_clearRange 16 = .ok (.ireturn, 1) := by decide +kernel
theorem dL_clearRange_17 : decode cL_clearRange 17 = .ok (.iconst 0, 1) := by decide +kernel
theorem dL_clearRange_18 : decode cL_clearRange 18 = .ok (.ireturn, 1) := by decide +kernel
theorem tl_L_87 : Cond.methodLink RL 87 yX7_clearRange ∈ TMW := tm_in 1126 (by decide +kernel) (by decide +kernel)
theorem ti_X7_clearRange : Cond.instanceMethod yX7_clearRange ∈ TMW := tm_in 1127 (by decide +kernel) (by decide +kernel)
theorem ts_X7_clearRange : Cond.selects RX7 yX7_clearRange yX7_clearRange ∈ TMW := tm_in 1128 (by decide +kernel) (by decide +kernel)
theorem tc_X7_clearRange : Cond.code yX7_clearRange cX7_clearRange 3 (some .int) ∈ TMW := tm_in 1129 (by decide +kernel) (by decide +kernel)
def g_clearRange (x1 : Int32) (x2 : Int32) (v : tmM) (bs : List Int32) (xo : Int64) (xd : UInt64) : Option (Int32 × tlS) := tl_cx (f_X7_clearRange x1 x2 v) (fun r v' => some (0, ((r.toInt64, xd), (v', bs)))) (fun i v' => tl_kx (some 1) (none) (none) i ((xo, xd), (v', bs)))
set_option maxRecDepth 100000 in
theorem wL_clearRange {p : Program} {l : Launch} (hl : l.stackTraces = false) {e : Env} {s : State} {m : MethodId} {args : Array Value} {below : List Frame} {meth : Method} {c : Code} {A : Nat → Prop} {D : va_G} {cy : Nat → ClassId} {ad ar : Nat → Nat} {o1 o2 : Nat} {cL cD : ClassId} {κ b0 : Nat} {u v w : tmM} {bs : List Int32} {xo : Int64} {xd : UInt64} {z : Int32 × tlS} {adK adV adE : Nat → Nat} {tC : Nat} (x1 : Int32) (x2 : Int32) (C0 : tmC p s m args meth c cL_clearRange 5 (some .int) RL TMW tm_NWC D cy tm_s0 tm_a0 0 (tlW cy ad ar o1 o2 cL cD κ b0 u v w xo xd) A) (hE : tmSc adK adV adE tC A s s.heap) (hTh : tmTh A s s.heap) (hF : tlF D cy cL cD s) (hT : tmTx κ u bs) (htab : c.exceptionTable.toList = tableOf [(0, 10, 13, 28)]) : tmG p l e ({ frames := 8, cells := 1, slots := 6, locals := 170 }) s m args below meth c 0 0 (MQ below (va_Qi (fun r y => z = (r, y)) (tlT D cy ad ar o1 o2 cL cD w A) A) args s 1 6 A) 5 D cy tm_s0 tm_a0 0 (tlW cy ad ar o1 o2 cL cD κ b0 u v w xo xd) A z 0 [(0, .ref (ad 247)), (1, .int x1), (2, .int x2), (3, .ref o1)] [] tm_v0 (g_clearRange x1 x2 v bs xo xd) := by
  unfold g_clearRange
  refine tg_aload_n 3 C0 dL_clearRange_0 rfl rfl ?_
  refine tg_iconst (x := 0) C0 dL_clearRange_1 (by decide) ?_
  refine tg_aload_n 0 C0 dL_clearRange_2 rfl rfl ?_
  refine tg_iload_n 1 C0 dL_clearRange_3 rfl rfl ?_
  refine tg_iload_n 2 C0 dL_clearRange_4 rfl rfl ?_
  refine tl_xi (tl_hh (some 13) (none) (none)) (As := [.int x1, .int x2]) (fs := [some 0, some 248, none, none, some 249, none, some 250, some 251, some 256]) 2 C0 hTh dL_clearRange_5 (c_X7_clearRange l hl x1 x2 v) rfl rfl rfl rfl (tm_gV tl_L_87 ti_X7_clearRange ts_X7_clearRange tn_X7 tc_X7_clearRange) rfl rfl rfl rfl (by decide +kernel) ⟨Nat.le_of_ble_eq_true rfl, Nat.le_of_ble_eq_true rfl⟩ (Nat.le_of_ble_eq_true rfl) ⟨Nat.le_of_ble_eq_true rfl, Nat.le_of_ble_eq_true rfl⟩ (fun i v' h => tl_hno (fun h => by cases h) (fun _ => rfl) (fun _ => rfl) i ((xo, xd), (v', bs)) h) (fun i pcH hi H locs ls q ce hq hv hc kk => ?_) (fun i pcH q v' hi C0 => ?_) (fun r v' C0 => ?_)
  · match i, hi with
    | 0, hi =>
      cases hi
      exact tl_catch (0) C0.2.2.2.2.2.1 C0.2.2.2.2.2.2.1 tl_hcl hF [] [] ⟨0, 10, 13, 28⟩ htab (fun z hz => by cases hz) rfl rfl hq hv hc kk
    | 1, hi => cases hi
    | i + 2, hi => cases hi
  · match i, hi with
    | 0, hi =>
      cases hi
      refine tg_eq (r := some (1, ((xo, xd), (v', bs)))) rfl ?_
      refine tg_astore [(4, .ref q), (0, .ref (ad 247)), (1, .int x1), (2, .int x2), (3, .ref o1)] C0 dL_clearRange_13 (by decide) rfl ?_
      refine tg_iconst (x := 1) C0 dL_clearRange_15 (by decide) ?_
      exact tl_iret C0 hT dL_clearRange_16 ⟨Nat.le_of_ble_eq_true rfl, Nat.le_of_ble_eq_true rfl⟩
    | 1, hi => cases hi
    | i + 2, hi => cases hi
  · refine tl_i2l C0 dL_clearRange_8 ?_
    refine tl_last C0 hF dL_clearRange_9 (fun C0 => ?_)
    refine tg_goto 17 C0 dL_clearRange_10 (by decide) ?_
    refine tg_iconst (x := 0) C0 dL_clearRange_17 (by decide) ?_
    exact tl_iret C0 hT dL_clearRange_18 ⟨Nat.le_of_ble_eq_true rfl, Nat.le_of_ble_eq_true rfl⟩
theorem cL_c_clearRange (l : Launch) (hl : l.stackTraces = false) {adK adV adE : Nat → Nat} {tC : Nat} (x1 : Int32) (x2 : Int32) (v : tmM) (bs : List Int32) : tlI l adK adV adE tC yL_clearRange (Cond.codeWith yL_clearRange cL_clearRange 5 (some .int) [(0, 10, 13, 28)] :: TMW) ({ frames := 8, cells := 1, slots := 6, locals := 170 }) (fun o1 o2 => [.int x1, .int x2, .ref o1]) v bs 1 6 (g_clearRange x1 x2 v bs) :=
  tlI.of (hh := [(0, 10, 13, 28)]) (by decide +kernel) rfl (fun _ _ _ => Nat.le_of_ble_eq_true rfl) (fun p e s m args below meth c A D cy ad ar o1 o2 cL cD κ b0 u w xo xd z C0 hE hTh hF hT htab => wL_clearRange hl x1 x2 C0 hE hTh hF hT htab)
-- ----- why
theorem dL_why_0 : decode cL_why 0 = .ok (.aload_n 3, 1) := by decide +kernel
theorem dL_why_1 : decode cL_why 1 = .ok (.iconst 0, 1) := by decide +kernel
theorem dL_why_2 : decode cL_why 2 = .ok (.aload_n 0, 1) := by decide +kernel
theorem dL_why_3 : decode cL_why 3 = .ok (.iload_n 1, 1) := by decide +kernel
theorem dL_why_4 : decode cL_why 4 = .ok (.iload_n 2, 1) := by decide +kernel
theorem dL_why_5 : decode cL_why 5 = .ok (.invokevirtual 90, 3) := by decide +kernel
theorem dL_why_8 : decode cL_why 8 = .ok (.i2l, 1) := by decide +kernel
theorem dL_why_9 : decode cL_why 9 = .ok (.lastore, 1) := by decide +kernel
theorem dL_why_10 : decode cL_why 10 = .ok (.goto 7, 3) := by decide +kernel
theorem dL_why_13 : decode cL_why 13 = .ok (.astore 4, 2) := by decide +kernel
theorem dL_why_15 : decode cL_why 15 = .ok (.iconst 1, 1) := by decide +kernel
theorem dL_why_16 : decode cL_why 16 = .ok (.ireturn, 1) := by decide +kernel
theorem dL_why_17 : decode cL_why 17 = .ok (.iconst 0, 1) := by decide +kernel
theorem dL_why_18 : decode cL_why 18 = .ok (.ireturn, 1) := by decide +kernel
theorem tl_L_90 : Cond.methodLink RL 90 yX7_why ∈ TMW := tm_in 1133 (by decide +kernel) (by decide +kernel)
theorem ti_X7_why : Cond.instanceMethod yX7_why ∈ TMW := tm_in 1134 (by decide +kernel) (by decide +kernel)
theorem ts_X7_why : Cond.selects RX7 yX7_why yX7_why ∈ TMW := tm_in 1135 (by decide +kernel) (by decide +kernel)
theorem tc_X7_why : Cond.code yX7_why cX7_why 3 (some .int) ∈ TMW := tm_in 1136 (by decide +kernel) (by decide +kernel)
def g_why (x1 : Int32) (x2 : Int32) (v : tmM) (bs : List Int32) (xo : Int64) (xd : UInt64) : Option (Int32 × tlS) := tl_cx (f_X7_why x1 x2 v) (fun r v' => some (0, ((r.toInt64, xd), (v', bs)))) (fun i v' => tl_kx (none) (some 1) (none) i ((xo, xd), (v', bs)))
set_option maxRecDepth 100000 in
theorem wL_why {p : Program} {l : Launch} (hl : l.stackTraces = false) {e : Env} {s : State} {m : MethodId} {args : Array Value} {below : List Frame} {meth : Method} {c : Code} {A : Nat → Prop} {D : va_G} {cy : Nat → ClassId} {ad ar : Nat → Nat} {o1 o2 : Nat} {cL cD : ClassId} {κ b0 : Nat} {u v w : tmM} {bs : List Int32} {xo : Int64} {xd : UInt64} {z : Int32 × tlS} {adK adV adE : Nat → Nat} {tC : Nat} (x1 : Int32) (x2 : Int32) (C0 : tmC p s m args meth c cL_why 5 (some .int) RL TMW tm_NWC D cy tm_s0 tm_a0 0 (tlW cy ad ar o1 o2 cL cD κ b0 u v w xo xd) A) (hE : tmSc adK adV adE tC A s s.heap) (hTh : tmTh A s s.heap) (hF : tlF D cy cL cD s) (hT : tmTx κ u bs) (htab : c.exceptionTable.toList = tableOf [(0, 10, 13, 18)]) : tmG p l e ({ frames := 8, cells := 3, slots := 18, locals := 134 }) s m args below meth c 0 0 (MQ below (va_Qi (fun r y => z = (r, y)) (tlT D cy ad ar o1 o2 cL cD w A) A) args s 3 18 A) 5 D cy tm_s0 tm_a0 0 (tlW cy ad ar o1 o2 cL cD κ b0 u v w xo xd) A z 0 [(0, .ref (ad 247)), (1, .int x1), (2, .int x2), (3, .ref o1)] [] tm_v0 (g_why x1 x2 v bs xo xd) := by
  unfold g_why
  refine tg_aload_n 3 C0 dL_why_0 rfl rfl ?_
  refine tg_iconst (x := 0) C0 dL_why_1 (by decide) ?_
  refine tg_aload_n 0 C0 dL_why_2 rfl rfl ?_
  refine tg_iload_n 1 C0 dL_why_3 rfl rfl ?_
  refine tg_iload_n 2 C0 dL_why_4 rfl rfl ?_
  refine tl_xi (tl_hh (none) (some 13) (none)) (As := [.int x1, .int x2]) (fs := [some 0, some 248, none, none, some 249, none, some 250, some 251, some 256]) 2 C0 hTh dL_why_5 (c_X7_why l hl x1 x2 v) rfl rfl rfl rfl (tm_gV tl_L_90 ti_X7_why ts_X7_why tn_X7 tc_X7_why) rfl rfl rfl rfl (by decide +kernel) ⟨Nat.le_of_ble_eq_true rfl, Nat.le_of_ble_eq_true rfl⟩ (Nat.le_of_ble_eq_true rfl) ⟨Nat.le_of_ble_eq_true rfl, Nat.le_of_ble_eq_true rfl⟩ (fun i v' h => tl_hno (fun _ => rfl) (fun h => by cases h) (fun _ => rfl) i ((xo, xd), (v', bs)) h) (fun i pcH hi H locs ls q ce hq hv hc kk => ?_) (fun i pcH q v' hi C0 => ?_) (fun r v' C0 => ?_)
  · match i, hi with
    | 0, hi => cases hi
    | 1, hi =>
      cases hi
      exact tl_catch (1) C0.2.2.2.2.2.1 C0.2.2.2.2.2.2.1 tl_hcl hF [] [] ⟨0, 10, 13, 18⟩ htab (fun z hz => by cases hz) rfl rfl hq hv hc kk
    | i + 2, hi => cases hi
  · match i, hi with
    | 0, hi => cases hi
    | 1, hi =>
      cases hi
      refine tg_eq (r := some (1, ((xo, xd), (v', bs)))) rfl ?_
      refine tg_astore [(4, .ref q), (0, .ref (ad 247)), (1, .int x1), (2, .int x2), (3, .ref o1)] C0 dL_why_13 (by decide) rfl ?_
      refine tg_iconst (x := 1) C0 dL_why_15 (by decide) ?_
      exact tl_iret C0 hT dL_why_16 ⟨Nat.le_of_ble_eq_true rfl, Nat.le_of_ble_eq_true rfl⟩
    | i + 2, hi => cases hi
  · refine tl_i2l C0 dL_why_8 ?_
    refine tl_last C0 hF dL_why_9 (fun C0 => ?_)
    refine tg_goto 17 C0 dL_why_10 (by decide) ?_
    refine tg_iconst (x := 0) C0 dL_why_17 (by decide) ?_
    exact tl_iret C0 hT dL_why_18 ⟨Nat.le_of_ble_eq_true rfl, Nat.le_of_ble_eq_true rfl⟩
theorem cL_c_why (l : Launch) (hl : l.stackTraces = false) {adK adV adE : Nat → Nat} {tC : Nat} (x1 : Int32) (x2 : Int32) (v : tmM) (bs : List Int32) : tlI l adK adV adE tC yL_why (Cond.codeWith yL_why cL_why 5 (some .int) [(0, 10, 13, 18)] :: TMW) ({ frames := 8, cells := 3, slots := 18, locals := 134 }) (fun o1 o2 => [.int x1, .int x2, .ref o1]) v bs 3 18 (g_why x1 x2 v bs) :=
  tlI.of (hh := [(0, 10, 13, 18)]) (by decide +kernel) rfl (fun _ _ _ => Nat.le_of_ble_eq_true rfl) (fun p e s m args below meth c A D cy ad ar o1 o2 cL cD κ b0 u w xo xd z C0 hE hTh hF hT htab => wL_why hl x1 x2 C0 hE hTh hF hT htab)
-- ----- next
theorem dL_next_0 : decode cL_next 0 = .ok (.aload_n 2, 1) := by decide +kernel
theorem dL_next_1 : decode cL_next 1 = .ok (.iconst 0, 1) := by decide +kernel
theorem dL_next_2 : decode cL_next 2 = .ok (.aload_n 0, 1) := by decide +kernel
theorem dL_next_3 : decode cL_next 3 = .ok (.iload_n 1, 1) := by decide +kernel
theorem dL_next_4 : decode cL_next 4 = .ok (.invokevirtual 93, 3) := by decide +kernel
theorem dL_next_7 : decode cL_next 7 = .ok (.i2l, 1) := by decide +kernel
theorem dL_next_8 : decode cL_next 8 = .ok (.lastore, 1) := by decide +kernel
theorem dL_next_9 : decode cL_next 9 = .ok (.goto 6, 3) := by decide +kernel
theorem dL_next_12 : decode cL_next 12 = .ok (.astore_n 3, 1) := by decide +kernel
theorem dL_next_13 : decode cL_next 13 = .ok (.iconst 1, 1) := by decide +kernel
theorem dL_next_14 : decode cL_next 14 = .ok (.ireturn, 1) := by decide +kernel
theorem dL_next_15 : decode cL_next 15 = .ok (.iconst 0, 1) := by decide +kernel
theorem dL_next_16 : decode cL_next 16 = .ok (.ireturn, 1) := by decide +kernel
theorem tl_L_93 : Cond.methodLink RL 93 yX7_next ∈ TMW := tm_in 1140 (by decide +kernel) (by decide +kernel)
theorem ti_X7_next : Cond.instanceMethod yX7_next ∈ TMW := tm_in 1141 (by decide +kernel) (by decide +kernel)
theorem ts_X7_next : Cond.selects RX7 yX7_next yX7_next ∈ TMW := tm_in 1142 (by decide +kernel) (by decide +kernel)
theorem tc_X7_next : Cond.code yX7_next cX7_next 3 (some .int) ∈ TMW := tm_in 1143 (by decide +kernel) (by decide +kernel)
def g_next (x1 : Int32) (v : tmM) (bs : List Int32) (xo : Int64) (xd : UInt64) : Option (Int32 × tlS) := tl_cx (f_X7_next x1 v) (fun r v' => some (0, ((r.toInt64, xd), (v', bs)))) (fun i v' => tl_kx (none) (some 1) (none) i ((xo, xd), (v', bs)))
set_option maxRecDepth 100000 in
theorem wL_next {p : Program} {l : Launch} (hl : l.stackTraces = false) {e : Env} {s : State} {m : MethodId} {args : Array Value} {below : List Frame} {meth : Method} {c : Code} {A : Nat → Prop} {D : va_G} {cy : Nat → ClassId} {ad ar : Nat → Nat} {o1 o2 : Nat} {cL cD : ClassId} {κ b0 : Nat} {u v w : tmM} {bs : List Int32} {xo : Int64} {xd : UInt64} {z : Int32 × tlS} {adK adV adE : Nat → Nat} {tC : Nat} (x1 : Int32) (C0 : tmC p s m args meth c cL_next 4 (some .int) RL TMW tm_NWC D cy tm_s0 tm_a0 0 (tlW cy ad ar o1 o2 cL cD κ b0 u v w xo xd) A) (hE : tmSc adK adV adE tC A s s.heap) (hTh : tmTh A s s.heap) (hF : tlF D cy cL cD s) (hT : tmTx κ u bs) (htab : c.exceptionTable.toList = tableOf [(0, 9, 12, 18)]) : tmG p l e ({ frames := 8, cells := 1, slots := 6, locals := 132 }) s m args below meth c 0 0 (MQ below (va_Qi (fun r y => z = (r, y)) (tlT D cy ad ar o1 o2 cL cD w A) A) args s 1 6 A) 4 D cy tm_s0 tm_a0 0 (tlW cy ad ar o1 o2 cL cD κ b0 u v w xo xd) A z 0 [(0, .ref (ad 247)), (1, .int x1), (2, .ref o1)] [] tm_v0 (g_next x1 v bs xo xd) := by
  unfold g_next
  refine tg_aload_n 2 C0 dL_next_0 rfl rfl ?_
  refine tg_iconst (x := 0) C0 dL_next_1 (by decide) ?_
  refine tg_aload_n 0 C0 dL_next_2 rfl rfl ?_
  refine tg_iload_n 1 C0 dL_next_3 rfl rfl ?_
  refine tl_xi (tl_hh (none) (some 12) (none)) (As := [.int x1]) (fs := [some 0, some 248, none, none, some 249, none, some 250, some 251, some 256]) 1 C0 hTh dL_next_4 (c_X7_next l hl x1 v) rfl rfl rfl rfl (tm_gV tl_L_93 ti_X7_next ts_X7_next tn_X7 tc_X7_next) rfl rfl rfl rfl (by decide +kernel) ⟨Nat.le_of_ble_eq_true rfl, Nat.le_of_ble_eq_true rfl⟩ (Nat.le_of_ble_eq_true rfl) ⟨Nat.le_of_ble_eq_true rfl, Nat.le_of_ble_eq_true rfl⟩ (fun i v' h => tl_hno (fun _ => rfl) (fun h => by cases h) (fun _ => rfl) i ((xo, xd), (v', bs)) h) (fun i pcH hi H locs ls q ce hq hv hc kk => ?_) (fun i pcH q v' hi C0 => ?_) (fun r v' C0 => ?_)
  · match i, hi with
    | 0, hi => cases hi
    | 1, hi =>
      cases hi
      exact tl_catch (1) C0.2.2.2.2.2.1 C0.2.2.2.2.2.2.1 tl_hcl hF [] [] ⟨0, 9, 12, 18⟩ htab (fun z hz => by cases hz) rfl rfl hq hv hc kk
    | i + 2, hi => cases hi
  · match i, hi with
    | 0, hi => cases hi
    | 1, hi =>
      cases hi
      refine tg_eq (r := some (1, ((xo, xd), (v', bs)))) rfl ?_
      refine tg_astore_n [(3, .ref q), (0, .ref (ad 247)), (1, .int x1), (2, .ref o1)] C0 dL_next_12 rfl (by decide) rfl ?_
      refine tg_iconst (x := 1) C0 dL_next_13 (by decide) ?_
      exact tl_iret C0 hT dL_next_14 ⟨Nat.le_of_ble_eq_true rfl, Nat.le_of_ble_eq_true rfl⟩
    | i + 2, hi => cases hi
  · refine tl_i2l C0 dL_next_7 ?_
    refine tl_last C0 hF dL_next_8 (fun C0 => ?_)
    refine tg_goto 15 C0 dL_next_9 (by decide) ?_
    refine tg_iconst (x := 0) C0 dL_next_15 (by decide) ?_
    exact tl_iret C0 hT dL_next_16 ⟨Nat.le_of_ble_eq_true rfl, Nat.le_of_ble_eq_true rfl⟩
theorem cL_c_next (l : Launch) (hl : l.stackTraces = false) {adK adV adE : Nat → Nat} {tC : Nat} (x1 : Int32) (v : tmM) (bs : List Int32) : tlI l adK adV adE tC yL_next (Cond.codeWith yL_next cL_next 4 (some .int) [(0, 9, 12, 18)] :: TMW) ({ frames := 8, cells := 1, slots := 6, locals := 132 }) (fun o1 o2 => [.int x1, .ref o1]) v bs 1 6 (g_next x1 v bs) :=
  tlI.of (hh := [(0, 9, 12, 18)]) (by decide +kernel) rfl (fun _ _ _ => Nat.le_of_ble_eq_true rfl) (fun p e s m args below meth c A D cy ad ar o1 o2 cL cD κ b0 u w xo xd z C0 hE hTh hF hT htab => wL_next hl x1 C0 hE hTh hF hT htab)
-- ----- advance
theorem dL_advance_0 : decode cL_advance 0 = .ok (.aload_n 2, 1) := by decide +kernel
theorem dL_advance_1 : decode cL_advance 1 = .ok (.iconst 0, 1) := by decide +kernel
theorem dL_advance_2 : decode cL_advance 2 = .ok (.aload_n 0, 1) := by decide +kernel
theorem dL_advance_3 : decode cL_advance 3 = .ok (.iload_n 1, 1) := by decide +kernel
theorem dL_advance_4 : decode cL_advance 4 = .ok (.invokevirtual 96, 3) := by decide +kernel
theorem dL_advance_7 : decode cL_advance 7 = .ok (.i2l, 1) := by decide +kernel
theorem dL_advance_8 : decode cL_advance 8 = .ok (.lastore, 1) := by decide +kernel
theorem dL_advance_9 : decode cL_advance 9 = .ok (.goto 6, 3) := by decide +kernel
theorem dL_advance_12 : decode cL_advance 12 = .ok (.astore_n 3, 1) := by decide +kernel
theorem dL_advance_13 : decode cL_advance 13 = .ok (.iconst 1, 1) := by decide +kernel
theorem dL_advance_14 : decode cL_advance 14 = .ok (.ireturn, 1) := by decide +kernel
theorem dL_advance_15 : decode cL_advance 15 = .ok (.iconst 0, 1) := by decide +kernel
theorem dL_advance_16 : decode cL_advance 16 = .ok (.ireturn, 1) := by decide +kernel
theorem tl_L_96 : Cond.methodLink RL 96 yX7_advance ∈ TMW := tm_in 1162 (by decide +kernel) (by decide +kernel)
theorem ti_X7_advance : Cond.instanceMethod yX7_advance ∈ TMW := tm_in 1163 (by decide +kernel) (by decide +kernel)
theorem ts_X7_advance : Cond.selects RX7 yX7_advance yX7_advance ∈ TMW := tm_in 1164 (by decide +kernel) (by decide +kernel)
theorem tc_X7_advance : Cond.code yX7_advance cX7_advance 5 (some .int) ∈ TMW := tm_in 1165 (by decide +kernel) (by decide +kernel)
def g_advance (x1 : Int32) (v : tmM) (bs : List Int32) (xo : Int64) (xd : UInt64) : Option (Int32 × tlS) := tl_cx (f_X7_advance x1 v) (fun r v' => some (0, ((r.toInt64, xd), (v', bs)))) (fun i v' => tl_kx (none) (some 1) (none) i ((xo, xd), (v', bs)))
set_option maxRecDepth 100000 in
theorem wL_advance {p : Program} {l : Launch} (hl : l.stackTraces = false) {e : Env} {s : State} {m : MethodId} {args : Array Value} {below : List Frame} {meth : Method} {c : Code} {A : Nat → Prop} {D : va_G} {cy : Nat → ClassId} {ad ar : Nat → Nat} {o1 o2 : Nat} {cL cD : ClassId} {κ b0 : Nat} {u v w : tmM} {bs : List Int32} {xo : Int64} {xd : UInt64} {z : Int32 × tlS} {adK adV adE : Nat → Nat} {tC : Nat} (x1 : Int32) (C0 : tmC p s m args meth c cL_advance 4 (some .int) RL TMW tm_NWC D cy tm_s0 tm_a0 0 (tlW cy ad ar o1 o2 cL cD κ b0 u v w xo xd) A) (hE : tmSc adK adV adE tC A s s.heap) (hTh : tmTh A s s.heap) (hF : tlF D cy cL cD s) (hT : tmTx κ u bs) (htab : c.exceptionTable.toList = tableOf [(0, 9, 12, 18)]) : tmG p l e ({ frames := 8, cells := 1, slots := 6, locals := 178 }) s m args below meth c 0 0 (MQ below (va_Qi (fun r y => z = (r, y)) (tlT D cy ad ar o1 o2 cL cD w A) A) args s 1 6 A) 4 D cy tm_s0 tm_a0 0 (tlW cy ad ar o1 o2 cL cD κ b0 u v w xo xd) A z 0 [(0, .ref (ad 247)), (1, .int x1), (2, .ref o1)] [] tm_v0 (g_advance x1 v bs xo xd) := by
  unfold g_advance
  refine tg_aload_n 2 C0 dL_advance_0 rfl rfl ?_
  refine tg_iconst (x := 0) C0 dL_advance_1 (by decide) ?_
  refine tg_aload_n 0 C0 dL_advance_2 rfl rfl ?_
  refine tg_iload_n 1 C0 dL_advance_3 rfl rfl ?_
  refine tl_xi (tl_hh (none) (some 12) (none)) (As := [.int x1]) (fs := [some 0, some 248, none, none, some 249, none, some 250, some 251, some 256]) 1 C0 hTh dL_advance_4 (c_X7_advance l hl x1 v) rfl rfl rfl rfl (tm_gV tl_L_96 ti_X7_advance ts_X7_advance tn_X7 tc_X7_advance) rfl rfl rfl rfl (by decide +kernel) ⟨Nat.le_of_ble_eq_true rfl, Nat.le_of_ble_eq_true rfl⟩ (Nat.le_of_ble_eq_true rfl) ⟨Nat.le_of_ble_eq_true rfl, Nat.le_of_ble_eq_true rfl⟩ (fun i v' h => tl_hno (fun _ => rfl) (fun h => by cases h) (fun _ => rfl) i ((xo, xd), (v', bs)) h) (fun i pcH hi H locs ls q ce hq hv hc kk => ?_) (fun i pcH q v' hi C0 => ?_) (fun r v' C0 => ?_)
  · match i, hi with
    | 0, hi => cases hi
    | 1, hi =>
      cases hi
      exact tl_catch (1) C0.2.2.2.2.2.1 C0.2.2.2.2.2.2.1 tl_hcl hF [] [] ⟨0, 9, 12, 18⟩ htab (fun z hz => by cases hz) rfl rfl hq hv hc kk
    | i + 2, hi => cases hi
  · match i, hi with
    | 0, hi => cases hi
    | 1, hi =>
      cases hi
      refine tg_eq (r := some (1, ((xo, xd), (v', bs)))) rfl ?_
      refine tg_astore_n [(3, .ref q), (0, .ref (ad 247)), (1, .int x1), (2, .ref o1)] C0 dL_advance_12 rfl (by decide) rfl ?_
      refine tg_iconst (x := 1) C0 dL_advance_13 (by decide) ?_
      exact tl_iret C0 hT dL_advance_14 ⟨Nat.le_of_ble_eq_true rfl, Nat.le_of_ble_eq_true rfl⟩
    | i + 2, hi => cases hi
  · refine tl_i2l C0 dL_advance_7 ?_
    refine tl_last C0 hF dL_advance_8 (fun C0 => ?_)
    refine tg_goto 15 C0 dL_advance_9 (by decide) ?_
    refine tg_iconst (x := 0) C0 dL_advance_15 (by decide) ?_
    exact tl_iret C0 hT dL_advance_16 ⟨Nat.le_of_ble_eq_true rfl, Nat.le_of_ble_eq_true rfl⟩
theorem cL_c_advance (l : Launch) (hl : l.stackTraces = false) {adK adV adE : Nat → Nat} {tC : Nat} (x1 : Int32) (v : tmM) (bs : List Int32) : tlI l adK adV adE tC yL_advance (Cond.codeWith yL_advance cL_advance 4 (some .int) [(0, 9, 12, 18)] :: TMW) ({ frames := 8, cells := 1, slots := 6, locals := 178 }) (fun o1 o2 => [.int x1, .ref o1]) v bs 1 6 (g_advance x1 v bs) :=
  tlI.of (hh := [(0, 9, 12, 18)]) (by decide +kernel) rfl (fun _ _ _ => Nat.le_of_ble_eq_true rfl) (fun p e s m args below meth c A D cy ad ar o1 o2 cL cD κ b0 u w xo xd z C0 hE hTh hF hT htab => wL_advance hl x1 C0 hE hTh hF hT htab)
-- ----- differing
theorem dL_differing_0 : decode cL_differing 0 = .ok (.aload_n 2, 1) := by decide +kernel
theorem dL_differing_1 : decode cL_differing 1 = .ok (.iconst 0, 1) := by decide +kernel
theorem dL_differing_2 : decode cL_differing 2 = .ok (.aload_n 0, 1) := by decide +kernel
theorem dL_differing_3 : decode cL_differing 3 = .ok (.iload_n 1, 1) := by decide +kernel
theorem dL_differing_4 : decode cL_differing 4 = .ok (.invokevirtual 99, 3) := by decide +kernel
theorem dL_differing_7 : decode cL_differing 7 = .ok (.i2l, 1) := by decide +kernel
theorem dL_differing_8 : decode cL_differing 8 = .ok (.lastore, 1) := by decide +kernel
theorem dL_differing_9 : decode cL_differing 9 = .ok (.goto 6, 3) := by decide +kernel
theorem dL_differing_12 : decode cL_differing 12 = .ok (.astore_n 3, 1) := by decide +kernel
theorem dL_differing_13 : decode cL_differing 13 = .ok (.iconst 1, 1) := by decide +kernel
theorem dL_differing_14 : decode cL_differing 14 = .ok (.ireturn, 1) := by decide +kernel
theorem dL_differing_15 : decode cL_differing 15 = .ok (.iconst 0, 1) := by decide +kernel
theorem dL_differing_16 : decode cL_differing 16 = .ok (.ireturn, 1) := by decide +kernel
theorem tl_L_99 : Cond.methodLink RL 99 yX7_differing ∈ TMW := tm_in 1169 (by decide +kernel) (by decide +kernel)
theorem ti_X7_differing : Cond.instanceMethod yX7_differing ∈ TMW := tm_in 1170 (by decide +kernel) (by decide +kernel)
theorem ts_X7_differing : Cond.selects RX7 yX7_differing yX7_differing ∈ TMW := tm_in 1171 (by decide +kernel) (by decide +kernel)
theorem tc_X7_differing : Cond.code yX7_differing cX7_differing 4 (some .int) ∈ TMW := tm_in 1172 (by decide +kernel) (by decide +kernel)
def g_differing (x1 : Int32) (v : tmM) (bs : List Int32) (xo : Int64) (xd : UInt64) : Option (Int32 × tlS) := tl_cx (f_X7_differing x1 v) (fun r v' => some (0, ((r.toInt64, xd), (v', bs)))) (fun i v' => tl_kx (some 1) (none) (none) i ((xo, xd), (v', bs)))
set_option maxRecDepth 100000 in
theorem wL_differing {p : Program} {l : Launch} (hl : l.stackTraces = false) {e : Env} {s : State} {m : MethodId} {args : Array Value} {below : List Frame} {meth : Method} {c : Code} {A : Nat → Prop} {D : va_G} {cy : Nat → ClassId} {ad ar : Nat → Nat} {o1 o2 : Nat} {cL cD : ClassId} {κ b0 : Nat} {u v w : tmM} {bs : List Int32} {xo : Int64} {xd : UInt64} {z : Int32 × tlS} {adK adV adE : Nat → Nat} {tC : Nat} (x1 : Int32) (C0 : tmC p s m args meth c cL_differing 4 (some .int) RL TMW tm_NWC D cy tm_s0 tm_a0 0 (tlW cy ad ar o1 o2 cL cD κ b0 u v w xo xd) A) (hE : tmSc adK adV adE tC A s s.heap) (hTh : tmTh A s s.heap) (hF : tlF D cy cL cD s) (hT : tmTx κ u bs) (htab : c.exceptionTable.toList = tableOf [(0, 9, 12, 28)]) : tmG p l e ({ frames := 8, cells := 1, slots := 6, locals := 133 }) s m args below meth c 0 0 (MQ below (va_Qi (fun r y => z = (r, y)) (tlT D cy ad ar o1 o2 cL cD w A) A) args s 1 6 A) 4 D cy tm_s0 tm_a0 0 (tlW cy ad ar o1 o2 cL cD κ b0 u v w xo xd) A z 0 [(0, .ref (ad 247)), (1, .int x1), (2, .ref o1)] [] tm_v0 (g_differing x1 v bs xo xd) := by
  unfold g_differing
  refine tg_aload_n 2 C0 dL_differing_0 rfl rfl ?_
  refine tg_iconst (x := 0) C0 dL_differing_1 (by decide) ?_
  refine tg_aload_n 0 C0 dL_differing_2 rfl rfl ?_
  refine tg_iload_n 1 C0 dL_differing_3 rfl rfl ?_
  refine tl_xi (tl_hh (some 12) (none) (none)) (As := [.int x1]) (fs := [some 0, some 248, none, none, some 249, none, some 250, some 251, some 256]) 1 C0 hTh dL_differing_4 (c_X7_differing l hl x1 v) rfl rfl rfl rfl (tm_gV tl_L_99 ti_X7_differing ts_X7_differing tn_X7 tc_X7_differing) rfl rfl rfl rfl (by decide +kernel) ⟨Nat.le_of_ble_eq_true rfl, Nat.le_of_ble_eq_true rfl⟩ (Nat.le_of_ble_eq_true rfl) ⟨Nat.le_of_ble_eq_true rfl, Nat.le_of_ble_eq_true rfl⟩ (fun i v' h => tl_hno (fun h => by cases h) (fun _ => rfl) (fun _ => rfl) i ((xo, xd), (v', bs)) h) (fun i pcH hi H locs ls q ce hq hv hc kk => ?_) (fun i pcH q v' hi C0 => ?_) (fun r v' C0 => ?_)
  · match i, hi with
    | 0, hi =>
      cases hi
      exact tl_catch (0) C0.2.2.2.2.2.1 C0.2.2.2.2.2.2.1 tl_hcl hF [] [] ⟨0, 9, 12, 28⟩ htab (fun z hz => by cases hz) rfl rfl hq hv hc kk
    | 1, hi => cases hi
    | i + 2, hi => cases hi
  · match i, hi with
    | 0, hi =>
      cases hi
      refine tg_eq (r := some (1, ((xo, xd), (v', bs)))) rfl ?_
      refine tg_astore_n [(3, .ref q), (0, .ref (ad 247)), (1, .int x1), (2, .ref o1)] C0 dL_differing_12 rfl (by decide) rfl ?_
      refine tg_iconst (x := 1) C0 dL_differing_13 (by decide) ?_
      exact tl_iret C0 hT dL_differing_14 ⟨Nat.le_of_ble_eq_true rfl, Nat.le_of_ble_eq_true rfl⟩
    | 1, hi => cases hi
    | i + 2, hi => cases hi
  · refine tl_i2l C0 dL_differing_7 ?_
    refine tl_last C0 hF dL_differing_8 (fun C0 => ?_)
    refine tg_goto 15 C0 dL_differing_9 (by decide) ?_
    refine tg_iconst (x := 0) C0 dL_differing_15 (by decide) ?_
    exact tl_iret C0 hT dL_differing_16 ⟨Nat.le_of_ble_eq_true rfl, Nat.le_of_ble_eq_true rfl⟩
theorem cL_c_differing (l : Launch) (hl : l.stackTraces = false) {adK adV adE : Nat → Nat} {tC : Nat} (x1 : Int32) (v : tmM) (bs : List Int32) : tlI l adK adV adE tC yL_differing (Cond.codeWith yL_differing cL_differing 4 (some .int) [(0, 9, 12, 28)] :: TMW) ({ frames := 8, cells := 1, slots := 6, locals := 133 }) (fun o1 o2 => [.int x1, .ref o1]) v bs 1 6 (g_differing x1 v bs) :=
  tlI.of (hh := [(0, 9, 12, 28)]) (by decide +kernel) rfl (fun _ _ _ => Nat.le_of_ble_eq_true rfl) (fun p e s m args below meth c A D cy ad ar o1 o2 cL cD κ b0 u w xo xd z C0 hE hTh hF hT htab => wL_differing hl x1 C0 hE hTh hF hT htab)
-- ----- lookup
theorem dL_lookup_0 : decode cL_lookup 0 = .ok (.aload_n 3, 1) := by decide +kernel
theorem dL_lookup_1 : decode cL_lookup 1 = .ok (.iconst 0, 1) := by decide +kernel
theorem dL_lookup_2 : decode cL_lookup 2 = .ok (.aload_n 0, 1) := by decide +kernel
theorem dL_lookup_3 : decode cL_lookup 3 = .ok (.iload_n 1, 1) := by decide +kernel
theorem dL_lookup_4 : decode cL_lookup 4 = .ok (.iload_n 2, 1) := by decide +kernel
theorem dL_lookup_5 : decode cL_lookup 5 = .ok (.invokevirtual 102, 3) := by decide +kernel
theorem dL_lookup_8 : decode cL_lookup 8 = .ok (.i2l, 1) := by decide +kernel
theorem dL_lookup_9 : decode cL_lookup 9 = .ok (.lastore, 1) := by decide +kernel
theorem dL_lookup_10 : decode cL_lookup 10 = .ok (.goto 11, 3) := by decide +kernel
theorem dL_lookup_13 : decode cL_lookup 13 = .ok (.astore 4, 2) := by decide +kernel
theorem dL_lookup_15 : decode cL_lookup 15 = .ok (.iconst 1, 1) := by decide +kernel
theorem dL_lookup_16 : decode cL_lookup 16 = .ok (.ireturn, 1) := by decide +kernel
theorem dL_lookup_17 : decode cL_lookup 17 = .ok (.astore 4, 2) := by decide +kernel
theorem dL_lookup_19 : decode cL_lookup 19 = .ok (.iconst 2, 1) := by decide +kernel
theorem dL_lookup_20 : decode cL_lookup 20 = .ok (.ireturn, 1) := by decide +kernel
theorem dL_lookup_21 : decode cL_lookup 21 = .ok (.iconst 0, 1) := by decide +kernel
theorem dL_lookup_22 : decode cL_lookup 22 = .ok (.ireturn, 1) := by decide +kernel
theorem tl_L_102 : Cond.methodLink RL 102 yX7_lookup ∈ TMW := tm_in 1176 (by decide +kernel) (by decide +kernel)
theorem ti_X7_lookup : Cond.instanceMethod yX7_lookup ∈ TMW := tm_in 1177 (by decide +kernel) (by decide +kernel)
theorem ts_X7_lookup : Cond.selects RX7 yX7_lookup yX7_lookup ∈ TMW := tm_in 1178 (by decide +kernel) (by decide +kernel)
theorem tc_X7_lookup : Cond.code yX7_lookup cX7_lookup 4 (some .int) ∈ TMW := tm_in 1179 (by decide +kernel) (by decide +kernel)
def g_lookup (x1 : Int32) (x2 : Int32) (v : tmM) (bs : List Int32) (xo : Int64) (xd : UInt64) : Option (Int32 × tlS) := tl_cx (f_X7_lookup x1 x2 v) (fun r v' => some (0, ((r.toInt64, xd), (v', bs)))) (fun i v' => tl_kx (some 1) (some 2) (none) i ((xo, xd), (v', bs)))
set_option maxRecDepth 100000 in
theorem wL_lookup {p : Program} {l : Launch} (hl : l.stackTraces = false) {e : Env} {s : State} {m : MethodId} {args : Array Value} {below : List Frame} {meth : Method} {c : Code} {A : Nat → Prop} {D : va_G} {cy : Nat → ClassId} {ad ar : Nat → Nat} {o1 o2 : Nat} {cL cD : ClassId} {κ b0 : Nat} {u v w : tmM} {bs : List Int32} {xo : Int64} {xd : UInt64} {z : Int32 × tlS} {adK adV adE : Nat → Nat} {tC : Nat} (x1 : Int32) (x2 : Int32) (C0 : tmC p s m args meth c cL_lookup 5 (some .int) RL TMW tm_NWC D cy tm_s0 tm_a0 0 (tlW cy ad ar o1 o2 cL cD κ b0 u v w xo xd) A) (hE : tmSc adK adV adE tC A s s.heap) (hTh : tmTh A s s.heap) (hF : tlF D cy cL cD s) (hT : tmTx κ u bs) (htab : c.exceptionTable.toList = tableOf [(0, 10, 13, 28), (0, 10, 17, 18)]) : tmG p l e ({ frames := 8, cells := 2, slots := 12, locals := 133 }) s m args below meth c 0 0 (MQ below (va_Qi (fun r y => z = (r, y)) (tlT D cy ad ar o1 o2 cL cD w A) A) args s 2 12 A) 5 D cy tm_s0 tm_a0 0 (tlW cy ad ar o1 o2 cL cD κ b0 u v w xo xd) A z 0 [(0, .ref (ad 247)), (1, .int x1), (2, .int x2), (3, .ref o1)] [] tm_v0 (g_lookup x1 x2 v bs xo xd) := by
  unfold g_lookup
  refine tg_aload_n 3 C0 dL_lookup_0 rfl rfl ?_
  refine tg_iconst (x := 0) C0 dL_lookup_1 (by decide) ?_
  refine tg_aload_n 0 C0 dL_lookup_2 rfl rfl ?_
  refine tg_iload_n 1 C0 dL_lookup_3 rfl rfl ?_
  refine tg_iload_n 2 C0 dL_lookup_4 rfl rfl ?_
  refine tl_xi (tl_hh (some 13) (some 17) (none)) (As := [.int x1, .int x2]) (fs := [some 0, some 248, none, none, some 249, none, some 250, some 251, some 256]) 2 C0 hTh dL_lookup_5 (c_X7_lookup l hl x1 x2 v) rfl rfl rfl rfl (tm_gV tl_L_102 ti_X7_lookup ts_X7_lookup tn_X7 tc_X7_lookup) rfl rfl rfl rfl (by decide +kernel) ⟨Nat.le_of_ble_eq_true rfl, Nat.le_of_ble_eq_true rfl⟩ (Nat.le_of_ble_eq_true rfl) ⟨Nat.le_of_ble_eq_true rfl, Nat.le_of_ble_eq_true rfl⟩ (fun i v' h => tl_hno (fun h => by cases h) (fun h => by cases h) (fun _ => rfl) i ((xo, xd), (v', bs)) h) (fun i pcH hi H locs ls q ce hq hv hc kk => ?_) (fun i pcH q v' hi C0 => ?_) (fun r v' C0 => ?_)
  · match i, hi with
    | 0, hi =>
      cases hi
      exact tl_catch (0) C0.2.2.2.2.2.1 C0.2.2.2.2.2.2.1 tl_hcl hF [] [⟨0, 10, 17, 18⟩] ⟨0, 10, 13, 28⟩ htab (fun z hz => by cases hz) rfl rfl hq hv hc kk
    | 1, hi =>
      cases hi
      exact tl_catch (1) C0.2.2.2.2.2.1 C0.2.2.2.2.2.2.1 tl_hcl hF [⟨0, 10, 13, 28⟩] [] ⟨0, 10, 17, 18⟩ htab (fun z hz => by
        simp only [List.mem_cons, List.not_mem_nil, or_false] at hz
        rcases hz with rfl
        · exact ⟨0, by decide, by omega, rfl⟩) rfl rfl hq hv hc kk
    | i + 2, hi => cases hi
  · match i, hi with
    | 0, hi =>
      cases hi
      refine tg_eq (r := some (1, ((xo, xd), (v', bs)))) rfl ?_
      refine tg_astore [(4, .ref q), (0, .ref (ad 247)), (1, .int x1), (2, .int x2), (3, .ref o1)] C0 dL_lookup_13 (by decide) rfl ?_
      refine tg_iconst (x := 1) C0 dL_lookup_15 (by decide) ?_
      exact tl_iret C0 hT dL_lookup_16 ⟨Nat.le_of_ble_eq_true rfl, Nat.le_of_ble_eq_true rfl⟩
    | 1, hi =>
      cases hi
      refine tg_eq (r := some (2, ((xo, xd), (v', bs)))) rfl ?_
      refine tg_astore [(4, .ref q), (0, .ref (ad 247)), (1, .int x1), (2, .int x2), (3, .ref o1)] C0 dL_lookup_17 (by decide) rfl ?_
      refine tg_iconst (x := 2) C0 dL_lookup_19 (by decide) ?_
      exact tl_iret C0 hT dL_lookup_20 ⟨Nat.le_of_ble_eq_true rfl, Nat.le_of_ble_eq_true rfl⟩
    | i + 2, hi => cases hi
  · refine tl_i2l C0 dL_lookup_8 ?_
    refine tl_last C0 hF dL_lookup_9 (fun C0 => ?_)
    refine tg_goto 21 C0 dL_lookup_10 (by decide) ?_
    refine tg_iconst (x := 0) C0 dL_lookup_21 (by decide) ?_
    exact tl_iret C0 hT dL_lookup_22 ⟨Nat.le_of_ble_eq_true rfl, Nat.le_of_ble_eq_true rfl⟩
theorem cL_c_lookup (l : Launch) (hl : l.stackTraces = false) {adK adV adE : Nat → Nat} {tC : Nat} (x1 : Int32) (x2 : Int32) (v : tmM) (bs : List Int32) : tlI l adK adV adE tC yL_lookup (Cond.codeWith yL_lookup cL_lookup 5 (some .int) [(0, 10, 13, 28), (0, 10, 17, 18)] :: TMW) ({ frames := 8, cells := 2, slots := 12, locals := 133 }) (fun o1 o2 => [.int x1, .int x2, .ref o1]) v bs 2 12 (g_lookup x1 x2 v bs) :=
  tlI.of (hh := [(0, 10, 13, 28), (0, 10, 17, 18)]) (by decide +kernel) rfl (fun _ _ _ => Nat.le_of_ble_eq_true rfl) (fun p e s m args below meth c A D cy ad ar o1 o2 cL cD κ b0 u w xo xd z C0 hE hTh hF hT htab => wL_lookup hl x1 x2 C0 hE hTh hF hT htab)
-- ----- total
theorem dL_total_0 : decode cL_total 0 = .ok (.aload_n 3, 1) := by decide +kernel
theorem dL_total_1 : decode cL_total 1 = .ok (.iconst 0, 1) := by decide +kernel
theorem dL_total_2 : decode cL_total 2 = .ok (.aload_n 0, 1) := by decide +kernel
theorem dL_total_3 : decode cL_total 3 = .ok (.iload_n 1, 1) := by decide +kernel
theorem dL_total_4 : decode cL_total 4 = .ok (.iload_n 2, 1) := by decide +kernel
theorem dL_total_5 : decode cL_total 5 = .ok (.invokevirtual 105, 3) := by decide +kernel
theorem dL_total_8 : decode cL_total 8 = .ok (.i2l, 1) := by decide +kernel
theorem dL_total_9 : decode cL_total 9 = .ok (.lastore, 1) := by decide +kernel
theorem dL_total_10 : decode cL_total 10 = .ok (.goto 11, 3) := by decide +kernel
theorem dL_total_13 : decode cL_total 13 = .ok (.astore 4, 2) := by decide +kernel
theorem dL_total_15 : decode cL_total 15 = .ok (.iconst 1, 1) := by decide +kernel
theorem dL_total_16 : decode cL_total 16 = .ok (.ireturn, 1) := by decide +kernel
theorem dL_total_17 : decode cL_total 17 = .ok (.astore 4, 2) := by decide +kernel
theorem dL_total_19 : decode cL_total 19 = .ok (.iconst 2, 1) := by decide +kernel
theorem dL_total_20 : decode cL_total 20 = .ok (.ireturn, 1) := by decide +kernel
theorem dL_total_21 : decode cL_total 21 = .ok (.iconst 0, 1) := by decide +kernel
theorem dL_total_22 : decode cL_total 22 = .ok (.ireturn, 1) := by decide +kernel
theorem tl_L_105 : Cond.methodLink RL 105 yX7_total ∈ TMW := tm_in 1183 (by decide +kernel) (by decide +kernel)
theorem ti_X7_total : Cond.instanceMethod yX7_total ∈ TMW := tm_in 1184 (by decide +kernel) (by decide +kernel)
theorem ts_X7_total : Cond.selects RX7 yX7_total yX7_total ∈ TMW := tm_in 1185 (by decide +kernel) (by decide +kernel)
theorem tc_X7_total : Cond.code yX7_total cX7_total 3 (some .int) ∈ TMW := tm_in 1186 (by decide +kernel) (by decide +kernel)
def g_total (x1 : Int32) (x2 : Int32) (v : tmM) (bs : List Int32) (xo : Int64) (xd : UInt64) : Option (Int32 × tlS) := tl_cx (f_X7_total x1 x2 v) (fun r v' => some (0, ((r.toInt64, xd), (v', bs)))) (fun i v' => tl_kx (some 1) (some 2) (none) i ((xo, xd), (v', bs)))
set_option maxRecDepth 100000 in
theorem wL_total {p : Program} {l : Launch} (hl : l.stackTraces = false) {e : Env} {s : State} {m : MethodId} {args : Array Value} {below : List Frame} {meth : Method} {c : Code} {A : Nat → Prop} {D : va_G} {cy : Nat → ClassId} {ad ar : Nat → Nat} {o1 o2 : Nat} {cL cD : ClassId} {κ b0 : Nat} {u v w : tmM} {bs : List Int32} {xo : Int64} {xd : UInt64} {z : Int32 × tlS} {adK adV adE : Nat → Nat} {tC : Nat} (x1 : Int32) (x2 : Int32) (C0 : tmC p s m args meth c cL_total 5 (some .int) RL TMW tm_NWC D cy tm_s0 tm_a0 0 (tlW cy ad ar o1 o2 cL cD κ b0 u v w xo xd) A) (hE : tmSc adK adV adE tC A s s.heap) (hTh : tmTh A s s.heap) (hF : tlF D cy cL cD s) (hT : tmTx κ u bs) (htab : c.exceptionTable.toList = tableOf [(0, 10, 13, 28), (0, 10, 17, 18)]) : tmG p l e ({ frames := 8, cells := 2, slots := 12, locals := 132 }) s m args below meth c 0 0 (MQ below (va_Qi (fun r y => z = (r, y)) (tlT D cy ad ar o1 o2 cL cD w A) A) args s 2 12 A) 5 D cy tm_s0 tm_a0 0 (tlW cy ad ar o1 o2 cL cD κ b0 u v w xo xd) A z 0 [(0, .ref (ad 247)), (1, .int x1), (2, .int x2), (3, .ref o1)] [] tm_v0 (g_total x1 x2 v bs xo xd) := by
  unfold g_total
  refine tg_aload_n 3 C0 dL_total_0 rfl rfl ?_
  refine tg_iconst (x := 0) C0 dL_total_1 (by decide) ?_
  refine tg_aload_n 0 C0 dL_total_2 rfl rfl ?_
  refine tg_iload_n 1 C0 dL_total_3 rfl rfl ?_
  refine tg_iload_n 2 C0 dL_total_4 rfl rfl ?_
  refine tl_xi (tl_hh (some 13) (some 17) (none)) (As := [.int x1, .int x2]) (fs := [some 0, some 248, none, none, some 249, none, some 250, some 251, some 256]) 2 C0 hTh dL_total_5 (c_X7_total l hl x1 x2 v) rfl rfl rfl rfl (tm_gV tl_L_105 ti_X7_total ts_X7_total tn_X7 tc_X7_total) rfl rfl rfl rfl (by decide +kernel) ⟨Nat.le_of_ble_eq_true rfl, Nat.le_of_ble_eq_true rfl⟩ (Nat.le_of_ble_eq_true rfl) ⟨Nat.le_of_ble_eq_true rfl, Nat.le_of_ble_eq_true rfl⟩ (fun i v' h => tl_hno (fun h => by cases h) (fun h => by cases h) (fun _ => rfl) i ((xo, xd), (v', bs)) h) (fun i pcH hi H locs ls q ce hq hv hc kk => ?_) (fun i pcH q v' hi C0 => ?_) (fun r v' C0 => ?_)
  · match i, hi with
    | 0, hi =>
      cases hi
      exact tl_catch (0) C0.2.2.2.2.2.1 C0.2.2.2.2.2.2.1 tl_hcl hF [] [⟨0, 10, 17, 18⟩] ⟨0, 10, 13, 28⟩ htab (fun z hz => by cases hz) rfl rfl hq hv hc kk
    | 1, hi =>
      cases hi
      exact tl_catch (1) C0.2.2.2.2.2.1 C0.2.2.2.2.2.2.1 tl_hcl hF [⟨0, 10, 13, 28⟩] [] ⟨0, 10, 17, 18⟩ htab (fun z hz => by
        simp only [List.mem_cons, List.not_mem_nil, or_false] at hz
        rcases hz with rfl
        · exact ⟨0, by decide, by omega, rfl⟩) rfl rfl hq hv hc kk
    | i + 2, hi => cases hi
  · match i, hi with
    | 0, hi =>
      cases hi
      refine tg_eq (r := some (1, ((xo, xd), (v', bs)))) rfl ?_
      refine tg_astore [(4, .ref q), (0, .ref (ad 247)), (1, .int x1), (2, .int x2), (3, .ref o1)] C0 dL_total_13 (by decide) rfl ?_
      refine tg_iconst (x := 1) C0 dL_total_15 (by decide) ?_
      exact tl_iret C0 hT dL_total_16 ⟨Nat.le_of_ble_eq_true rfl, Nat.le_of_ble_eq_true rfl⟩
    | 1, hi =>
      cases hi
      refine tg_eq (r := some (2, ((xo, xd), (v', bs)))) rfl ?_
      refine tg_astore [(4, .ref q), (0, .ref (ad 247)), (1, .int x1), (2, .int x2), (3, .ref o1)] C0 dL_total_17 (by decide) rfl ?_
      refine tg_iconst (x := 2) C0 dL_total_19 (by decide) ?_
      exact tl_iret C0 hT dL_total_20 ⟨Nat.le_of_ble_eq_true rfl, Nat.le_of_ble_eq_true rfl⟩
    | i + 2, hi => cases hi
  · refine tl_i2l C0 dL_total_8 ?_
    refine tl_last C0 hF dL_total_9 (fun C0 => ?_)
    refine tg_goto 21 C0 dL_total_10 (by decide) ?_
    refine tg_iconst (x := 0) C0 dL_total_21 (by decide) ?_
    exact tl_iret C0 hT dL_total_22 ⟨Nat.le_of_ble_eq_true rfl, Nat.le_of_ble_eq_true rfl⟩
theorem cL_c_total (l : Launch) (hl : l.stackTraces = false) {adK adV adE : Nat → Nat} {tC : Nat} (x1 : Int32) (x2 : Int32) (v : tmM) (bs : List Int32) : tlI l adK adV adE tC yL_total (Cond.codeWith yL_total cL_total 5 (some .int) [(0, 10, 13, 28), (0, 10, 17, 18)] :: TMW) ({ frames := 8, cells := 2, slots := 12, locals := 132 }) (fun o1 o2 => [.int x1, .int x2, .ref o1]) v bs 2 12 (g_total x1 x2 v bs) :=
  tlI.of (hh := [(0, 10, 13, 28), (0, 10, 17, 18)]) (by decide +kernel) rfl (fun _ _ _ => Nat.le_of_ble_eq_true rfl) (fun p e s m args below meth c A D cy ad ar o1 o2 cL cD κ b0 u w xo xd z C0 hE hTh hF hT htab => wL_total hl x1 x2 C0 hE hTh hF hT htab)
-- ----- mean
theorem dL_mean_0 : decode cL_mean 0 = .ok (.aload_n 2, 1) := by decide +kernel
theorem dL_mean_1 : decode cL_mean 1 = .ok (.iconst 0, 1) := by decide +kernel
theorem dL_mean_2 : decode cL_mean 2 = .ok (.aload_n 0, 1) := by decide +kernel
theorem dL_mean_3 : decode cL_mean 3 = .ok (.iload_n 1, 1) := by decide +kernel
theorem dL_mean_4 : decode cL_mean 4 = .ok (.invokevirtual 108, 3) := by decide +kernel
theorem dL_mean_7 : decode cL_mean 7 = .ok (.dastore, 1) := by decide +kernel
theorem dL_mean_8 : decode cL_mean 8 = .ok (.goto 6, 3) := by decide +kernel
theorem dL_mean_11 : decode cL_mean 11 = .ok (.astore_n 3, 1) := by decide +kernel
theorem dL_mean_12 : decode cL_mean 12 = .ok (.iconst 1, 1) := by decide +kernel
theorem dL_mean_13 : decode cL_mean 13 = .ok (.ireturn, 1) := by decide +kernel
theorem dL_mean_14 : decode cL_mean 14 = .ok (.iconst 0, 1) := by decide +kernel
theorem dL_mean_15 : decode cL_mean 15 = .ok (.ireturn, 1) := by decide +kernel
theorem tl_L_108 : Cond.methodLink RL 108 yX7_mean ∈ TMW := tm_in 1205 (by decide +kernel) (by decide +kernel)
theorem ti_X7_mean : Cond.instanceMethod yX7_mean ∈ TMW := tm_in 1206 (by decide +kernel) (by decide +kernel)
theorem ts_X7_mean : Cond.selects RX7 yX7_mean yX7_mean ∈ TMW := tm_in 1207 (by decide +kernel) (by decide +kernel)
theorem tc_X7_mean : Cond.code yX7_mean cX7_mean 3 (some .double) ∈ TMW := tm_in 1208 (by decide +kernel) (by decide +kernel)
def g_mean (x1 : Int32) (v : tmM) (bs : List Int32) (xo : Int64) (xd : UInt64) : Option (Int32 × tlS) := tl_cx (f_X7_mean x1 v) (fun r v' => some (0, ((xo, r), (v', bs)))) (fun i v' => tl_kx (some 1) (none) (none) i ((xo, xd), (v', bs)))
set_option maxRecDepth 100000 in
theorem wL_mean {p : Program} {l : Launch} (hl : l.stackTraces = false) {e : Env} {s : State} {m : MethodId} {args : Array Value} {below : List Frame} {meth : Method} {c : Code} {A : Nat → Prop} {D : va_G} {cy : Nat → ClassId} {ad ar : Nat → Nat} {o1 o2 : Nat} {cL cD : ClassId} {κ b0 : Nat} {u v w : tmM} {bs : List Int32} {xo : Int64} {xd : UInt64} {z : Int32 × tlS} {adK adV adE : Nat → Nat} {tC : Nat} (x1 : Int32) (C0 : tmC p s m args meth c cL_mean 4 (some .int) RL TMW tm_NWC D cy tm_s0 tm_a0 0 (tlW cy ad ar o1 o2 cL cD κ b0 u v w xo xd) A) (hE : tmSc adK adV adE tC A s s.heap) (hTh : tmTh A s s.heap) (hF : tlF D cy cL cD s) (hT : tmTx κ u bs) (htab : c.exceptionTable.toList = tableOf [(0, 8, 11, 28)]) : tmG p l e ({ frames := 8, cells := 1, slots := 6, locals := 132 }) s m args below meth c 0 0 (MQ below (va_Qi (fun r y => z = (r, y)) (tlT D cy ad ar o1 o2 cL cD w A) A) args s 1 6 A) 4 D cy tm_s0 tm_a0 0 (tlW cy ad ar o1 o2 cL cD κ b0 u v w xo xd) A z 0 [(0, .ref (ad 247)), (1, .int x1), (2, .ref o2)] [] tm_v0 (g_mean x1 v bs xo xd) := by
  unfold g_mean
  refine tg_aload_n 2 C0 dL_mean_0 rfl rfl ?_
  refine tg_iconst (x := 0) C0 dL_mean_1 (by decide) ?_
  refine tg_aload_n 0 C0 dL_mean_2 rfl rfl ?_
  refine tg_iload_n 1 C0 dL_mean_3 rfl rfl ?_
  refine tl_xd (tl_hh (some 11) (none) (none)) (As := [.int x1]) (fs := [some 0, some 248, none, none, some 249, none, some 250, some 251, some 256]) 1 C0 hTh dL_mean_4 (c_X7_mean l hl x1 v) rfl rfl rfl rfl (tm_gV tl_L_108 ti_X7_mean ts_X7_mean tn_X7 tc_X7_mean) rfl rfl rfl rfl (by decide +kernel) ⟨Nat.le_of_ble_eq_true rfl, Nat.le_of_ble_eq_true rfl⟩ (Nat.le_of_ble_eq_true rfl) ⟨Nat.le_of_ble_eq_true rfl, Nat.le_of_ble_eq_true rfl⟩ (fun i v' h => tl_hno (fun h => by cases h) (fun _ => rfl) (fun _ => rfl) i ((xo, xd), (v', bs)) h) (fun i pcH hi H locs ls q ce hq hv hc kk => ?_) (fun i pcH q v' hi C0 => ?_) (fun r v' C0 => ?_)
  · match i, hi with
    | 0, hi =>
      cases hi
      exact tl_catch (0) C0.2.2.2.2.2.1 C0.2.2.2.2.2.2.1 tl_hcl hF [] [] ⟨0, 8, 11, 28⟩ htab (fun z hz => by cases hz) rfl rfl hq hv hc kk
    | 1, hi => cases hi
    | i + 2, hi => cases hi
  · match i, hi with
    | 0, hi =>
      cases hi
      refine tg_eq (r := some (1, ((xo, xd), (v', bs)))) rfl ?_
      refine tg_astore_n [(3, .ref q), (0, .ref (ad 247)), (1, .int x1), (2, .ref o2)] C0 dL_mean_11 rfl (by decide) rfl ?_
      refine tg_iconst (x := 1) C0 dL_mean_12 (by decide) ?_
      exact tl_iret C0 hT dL_mean_13 ⟨Nat.le_of_ble_eq_true rfl, Nat.le_of_ble_eq_true rfl⟩
    | 1, hi => cases hi
    | i + 2, hi => cases hi
  · refine tl_dast C0 hF dL_mean_7 (fun C0 => ?_)
    refine tg_goto 14 C0 dL_mean_8 (by decide) ?_
    refine tg_iconst (x := 0) C0 dL_mean_14 (by decide) ?_
    exact tl_iret C0 hT dL_mean_15 ⟨Nat.le_of_ble_eq_true rfl, Nat.le_of_ble_eq_true rfl⟩
theorem cL_c_mean (l : Launch) (hl : l.stackTraces = false) {adK adV adE : Nat → Nat} {tC : Nat} (x1 : Int32) (v : tmM) (bs : List Int32) : tlI l adK adV adE tC yL_mean (Cond.codeWith yL_mean cL_mean 4 (some .int) [(0, 8, 11, 28)] :: TMW) ({ frames := 8, cells := 1, slots := 6, locals := 132 }) (fun o1 o2 => [.int x1, .ref o2]) v bs 1 6 (g_mean x1 v bs) :=
  tlI.of (hh := [(0, 8, 11, 28)]) (by decide +kernel) rfl (fun _ _ _ => Nat.le_of_ble_eq_true rfl) (fun p e s m args below meth c A D cy ad ar o1 o2 cL cD κ b0 u w xo xd z C0 hE hTh hF hT htab => wL_mean hl x1 C0 hE hTh hF hT htab)
-- ----- readSum
theorem dL_readSum_0 : decode cL_readSum 0 = .ok (.aload 4, 2) := by decide +kernel
theorem dL_readSum_2 : decode cL_readSum 2 = .ok (.iconst 0, 1) := by decide +kernel
theorem dL_readSum_3 : decode cL_readSum 3 = .ok (.aload_n 0, 1) := by decide +kernel
theorem dL_readSum_4 : decode cL_readSum 4 = .ok (.iload_n 1, 1) := by decide +kernel
theorem dL_readSum_5 : decode cL_readSum 5 = .ok (.iload_n 2, 1) := by decide +kernel
theorem dL_readSum_6 : decode cL_readSum 6 = .ok (.iload_n 3, 1) := by decide +kernel
theorem dL_readSum_7 : decode cL_readSum 7 = .ok (.invokevirtual 112, 3) := by decide +kernel
theorem dL_readSum_10 : decode cL_readSum 10 = .ok (.i2l, 1) := by decide +kernel
theorem dL_readSum_11 : decode cL_readSum 11 = .ok (.lastore, 1) := by decide +kernel
theorem dL_readSum_12 : decode cL_readSum 12 = .ok (.goto 7, 3) := by decide +kernel
theorem dL_readSum_15 : decode cL_readSum 15 = .ok (.astore 5, 2) := by decide +kernel
theorem dL_readSum_17 : decode cL_readSum 17 = .ok (.iconst 1, 1) := by decide +kernel
theorem dL_readSum_18 : decode cL_readSum 18 = .ok (.ireturn, 1) := by decide +kernel
theorem dL_readSum_19 : decode cL_readSum 19 = .ok (.iconst 0, 1) := by decide +kernel
theorem dL_readSum_20 : decode cL_readSum 20 = .ok (.ireturn, 1) := by decide +kernel
theorem tl_L_112 : Cond.methodLink RL 112 yX7_readSum ∈ TMW := tm_in 1213 (by decide +kernel) (by decide +kernel)
theorem ti_X7_readSum : Cond.instanceMethod yX7_readSum ∈ TMW := tm_in 1214 (by decide +kernel) (by decide +kernel)
theorem ts_X7_readSum : Cond.selects RX7 yX7_readSum yX7_readSum ∈ TMW := tm_in 1215 (by decide +kernel) (by decide +kernel)
theorem tc_X7_readSum : Cond.code yX7_readSum cX7_readSum 6 (some .int) ∈ TMW := tm_in 1216 (by decide +kernel) (by decide +kernel)
def g_readSum (x1 : Int32) (x2 : Int32) (x3 : Int32) (v : tmM) (bs : List Int32) (xo : Int64) (xd : UInt64) : Option (Int32 × tlS) := tl_cx (f_X7_readSum x1 x2 x3 v) (fun r v' => some (0, ((r.toInt64, xd), (v', bs)))) (fun i v' => tl_kx (some 1) (none) (none) i ((xo, xd), (v', bs)))
set_option maxRecDepth 100000 in
theorem wL_readSum {p : Program} {l : Launch} (hl : l.stackTraces = false) {e : Env} {s : State} {m : MethodId} {args : Array Value} {below : List Frame} {meth : Method} {c : Code} {A : Nat → Prop} {D : va_G} {cy : Nat → ClassId} {ad ar : Nat → Nat} {o1 o2 : Nat} {cL cD : ClassId} {κ b0 : Nat} {u v w : tmM} {bs : List Int32} {xo : Int64} {xd : UInt64} {z : Int32 × tlS} {adK adV adE : Nat → Nat} {tC : Nat} (x1 : Int32) (x2 : Int32) (x3 : Int32) (C0 : tmC p s m args meth c cL_readSum 6 (some .int) RL TMW tm_NWC D cy tm_s0 tm_a0 0 (tlW cy ad ar o1 o2 cL cD κ b0 u v w xo xd) A) (hE : tmSc adK adV adE tC A s s.heap) (hTh : tmTh A s s.heap) (hF : tlF D cy cL cD s) (hT : tmTx κ u bs) (htab : c.exceptionTable.toList = tableOf [(0, 12, 15, 28)]) : tmG p l e ({ frames := 8, cells := 1, slots := 6, locals := 135 }) s m args below meth c 0 0 (MQ below (va_Qi (fun r y => z = (r, y)) (tlT D cy ad ar o1 o2 cL cD w A) A) args s 1 6 A) 6 D cy tm_s0 tm_a0 0 (tlW cy ad ar o1 o2 cL cD κ b0 u v w xo xd) A z 0 [(0, .ref (ad 247)), (1, .int x1), (2, .int x2), (3, .int x3), (4, .ref o1)] [] tm_v0 (g_readSum x1 x2 x3 v bs xo xd) := by
  unfold g_readSum
  refine tg_aload 4 C0 dL_readSum_0 rfl ?_
  refine tg_iconst (x := 0) C0 dL_readSum_2 (by decide) ?_
  refine tg_aload_n 0 C0 dL_readSum_3 rfl rfl ?_
  refine tg_iload_n 1 C0 dL_readSum_4 rfl rfl ?_
  refine tg_iload_n 2 C0 dL_readSum_5 rfl rfl ?_
  refine tg_iload_n 3 C0 dL_readSum_6 rfl rfl ?_
  refine tl_xi (tl_hh (some 15) (none) (none)) (As := [.int x1, .int x2, .int x3]) (fs := [some 0, some 248, none, none, some 249, none, some 250, some 251, some 256]) 3 C0 hTh dL_readSum_7 (c_X7_readSum l hl x1 x2 x3 v) rfl rfl rfl rfl (tm_gV tl_L_112 ti_X7_readSum ts_X7_readSum tn_X7 tc_X7_readSum) rfl rfl rfl rfl (by decide +kernel) ⟨Nat.le_of_ble_eq_true rfl, Nat.le_of_ble_eq_true rfl⟩ (Nat.le_of_ble_eq_true rfl) ⟨Nat.le_of_ble_eq_true rfl, Nat.le_of_ble_eq_true rfl⟩ (fun i v' h => tl_hno (fun h => by cases h) (fun _ => rfl) (fun _ => rfl) i ((xo, xd), (v', bs)) h) (fun i pcH hi H locs ls q ce hq hv hc kk => ?_) (fun i pcH q v' hi C0 => ?_) (fun r v' C0 => ?_)
  · match i, hi with
    | 0, hi =>
      cases hi
      exact tl_catch (0) C0.2.2.2.2.2.1 C0.2.2.2.2.2.2.1 tl_hcl hF [] [] ⟨0, 12, 15, 28⟩ htab (fun z hz => by cases hz) rfl rfl hq hv hc kk
    | 1, hi => cases hi
    | i + 2, hi => cases hi
  · match i, hi with
    | 0, hi =>
      cases hi
      refine tg_eq (r := some (1, ((xo, xd), (v', bs)))) rfl ?_
      refine tg_astore [(5, .ref q), (0, .ref (ad 247)), (1, .int x1), (2, .int x2), (3, .int x3), (4, .ref o1)] C0 dL_readSum_15 (by decide) rfl ?_
      refine tg_iconst (x := 1) C0 dL_readSum_17 (by decide) ?_
      exact tl_iret C0 hT dL_readSum_18 ⟨Nat.le_of_ble_eq_true rfl, Nat.le_of_ble_eq_true rfl⟩
    | 1, hi => cases hi
    | i + 2, hi => cases hi
  · refine tl_i2l C0 dL_readSum_10 ?_
    refine tl_last C0 hF dL_readSum_11 (fun C0 => ?_)
    refine tg_goto 19 C0 dL_readSum_12 (by decide) ?_
    refine tg_iconst (x := 0) C0 dL_readSum_19 (by decide) ?_
    exact tl_iret C0 hT dL_readSum_20 ⟨Nat.le_of_ble_eq_true rfl, Nat.le_of_ble_eq_true rfl⟩
theorem cL_c_readSum (l : Launch) (hl : l.stackTraces = false) {adK adV adE : Nat → Nat} {tC : Nat} (x1 : Int32) (x2 : Int32) (x3 : Int32) (v : tmM) (bs : List Int32) : tlI l adK adV adE tC yL_readSum (Cond.codeWith yL_readSum cL_readSum 6 (some .int) [(0, 12, 15, 28)] :: TMW) ({ frames := 8, cells := 1, slots := 6, locals := 135 }) (fun o1 o2 => [.int x1, .int x2, .int x3, .ref o1]) v bs 1 6 (g_readSum x1 x2 x3 v bs) :=
  tlI.of (hh := [(0, 12, 15, 28)]) (by decide +kernel) rfl (fun _ _ _ => Nat.le_of_ble_eq_true rfl) (fun p e s m args below meth c A D cy ad ar o1 o2 cL cD κ b0 u w xo xd z C0 hE hTh hF hT htab => wL_readSum hl x1 x2 x3 C0 hE hTh hF hT htab)
-- ----- written
theorem dL_written_0 : decode cL_written 0 = .ok (.aload_n 2, 1) := by decide +kernel
theorem dL_written_1 : decode cL_written 1 = .ok (.iconst 0, 1) := by decide +kernel
theorem dL_written_2 : decode cL_written 2 = .ok (.aload_n 0, 1) := by decide +kernel
theorem dL_written_3 : decode cL_written 3 = .ok (.iload_n 1, 1) := by decide +kernel
theorem dL_written_4 : decode cL_written 4 = .ok (.invokevirtual 116, 3) := by decide +kernel
theorem dL_written_7 : decode cL_written 7 = .ok (.i2l, 1) := by decide +kernel
theorem dL_written_8 : decode cL_written 8 = .ok (.lastore, 1) := by decide +kernel
theorem dL_written_9 : decode cL_written 9 = .ok (.goto 6, 3) := by decide +kernel
theorem dL_written_12 : decode cL_written 12 = .ok (.astore_n 3, 1) := by decide +kernel
theorem dL_written_13 : decode cL_written 13 = .ok (.iconst 1, 1) := by decide +kernel
theorem dL_written_14 : decode cL_written 14 = .ok (.ireturn, 1) := by decide +kernel
theorem dL_written_15 : decode cL_written 15 = .ok (.iconst 0, 1) := by decide +kernel
theorem dL_written_16 : decode cL_written 16 = .ok (.ireturn, 1) := by decide +kernel
theorem tl_L_116 : Cond.methodLink RL 116 yX7_written ∈ TMW := tm_in 1220 (by decide +kernel) (by decide +kernel)
theorem ti_X7_written : Cond.instanceMethod yX7_written ∈ TMW := tm_in 1221 (by decide +kernel) (by decide +kernel)
theorem ts_X7_written : Cond.selects RX7 yX7_written yX7_written ∈ TMW := tm_in 1222 (by decide +kernel) (by decide +kernel)
theorem tc_X7_written : Cond.code yX7_written cX7_written 2 (some .int) ∈ TMW := tm_in 1223 (by decide +kernel) (by decide +kernel)
def g_written (x1 : Int32) (v : tmM) (bs : List Int32) (xo : Int64) (xd : UInt64) : Option (Int32 × tlS) := tl_cx (f_X7_written x1 v) (fun r v' => some (0, ((r.toInt64, xd), (v', bs)))) (fun i v' => tl_kx (some 1) (none) (none) i ((xo, xd), (v', bs)))
set_option maxRecDepth 100000 in
theorem wL_written {p : Program} {l : Launch} (hl : l.stackTraces = false) {e : Env} {s : State} {m : MethodId} {args : Array Value} {below : List Frame} {meth : Method} {c : Code} {A : Nat → Prop} {D : va_G} {cy : Nat → ClassId} {ad ar : Nat → Nat} {o1 o2 : Nat} {cL cD : ClassId} {κ b0 : Nat} {u v w : tmM} {bs : List Int32} {xo : Int64} {xd : UInt64} {z : Int32 × tlS} {adK adV adE : Nat → Nat} {tC : Nat} (x1 : Int32) (C0 : tmC p s m args meth c cL_written 4 (some .int) RL TMW tm_NWC D cy tm_s0 tm_a0 0 (tlW cy ad ar o1 o2 cL cD κ b0 u v w xo xd) A) (hE : tmSc adK adV adE tC A s s.heap) (hTh : tmTh A s s.heap) (hF : tlF D cy cL cD s) (hT : tmTx κ u bs) (htab : c.exceptionTable.toList = tableOf [(0, 9, 12, 28)]) : tmG p l e ({ frames := 8, cells := 1, slots := 6, locals := 131 }) s m args below meth c 0 0 (MQ below (va_Qi (fun r y => z = (r, y)) (tlT D cy ad ar o1 o2 cL cD w A) A) args s 1 6 A) 4 D cy tm_s0 tm_a0 0 (tlW cy ad ar o1 o2 cL cD κ b0 u v w xo xd) A z 0 [(0, .ref (ad 247)), (1, .int x1), (2, .ref o1)] [] tm_v0 (g_written x1 v bs xo xd) := by
  unfold g_written
  refine tg_aload_n 2 C0 dL_written_0 rfl rfl ?_
  refine tg_iconst (x := 0) C0 dL_written_1 (by decide) ?_
  refine tg_aload_n 0 C0 dL_written_2 rfl rfl ?_
  refine tg_iload_n 1 C0 dL_written_3 rfl rfl ?_
  refine tl_xi (tl_hh (some 12) (none) (none)) (As := [.int x1]) (fs := [some 0, some 248, none, none, some 249, none, some 250, some 251, some 256]) 1 C0 hTh dL_written_4 (c_X7_written l hl x1 v) rfl rfl rfl rfl (tm_gV tl_L_116 ti_X7_written ts_X7_written tn_X7 tc_X7_written) rfl rfl rfl rfl (by decide +kernel) ⟨Nat.le_of_ble_eq_true rfl, Nat.le_of_ble_eq_true rfl⟩ (Nat.le_of_ble_eq_true rfl) ⟨Nat.le_of_ble_eq_true rfl, Nat.le_of_ble_eq_true rfl⟩ (fun i v' h => tl_hno (fun h => by cases h) (fun _ => rfl) (fun _ => rfl) i ((xo, xd), (v', bs)) h) (fun i pcH hi H locs ls q ce hq hv hc kk => ?_) (fun i pcH q v' hi C0 => ?_) (fun r v' C0 => ?_)
  · match i, hi with
    | 0, hi =>
      cases hi
      exact tl_catch (0) C0.2.2.2.2.2.1 C0.2.2.2.2.2.2.1 tl_hcl hF [] [] ⟨0, 9, 12, 28⟩ htab (fun z hz => by cases hz) rfl rfl hq hv hc kk
    | 1, hi => cases hi
    | i + 2, hi => cases hi
  · match i, hi with
    | 0, hi =>
      cases hi
      refine tg_eq (r := some (1, ((xo, xd), (v', bs)))) rfl ?_
      refine tg_astore_n [(3, .ref q), (0, .ref (ad 247)), (1, .int x1), (2, .ref o1)] C0 dL_written_12 rfl (by decide) rfl ?_
      refine tg_iconst (x := 1) C0 dL_written_13 (by decide) ?_
      exact tl_iret C0 hT dL_written_14 ⟨Nat.le_of_ble_eq_true rfl, Nat.le_of_ble_eq_true rfl⟩
    | 1, hi => cases hi
    | i + 2, hi => cases hi
  · refine tl_i2l C0 dL_written_7 ?_
    refine tl_last C0 hF dL_written_8 (fun C0 => ?_)
    refine tg_goto 15 C0 dL_written_9 (by decide) ?_
    refine tg_iconst (x := 0) C0 dL_written_15 (by decide) ?_
    exact tl_iret C0 hT dL_written_16 ⟨Nat.le_of_ble_eq_true rfl, Nat.le_of_ble_eq_true rfl⟩
theorem cL_c_written (l : Launch) (hl : l.stackTraces = false) {adK adV adE : Nat → Nat} {tC : Nat} (x1 : Int32) (v : tmM) (bs : List Int32) : tlI l adK adV adE tC yL_written (Cond.codeWith yL_written cL_written 4 (some .int) [(0, 9, 12, 28)] :: TMW) ({ frames := 8, cells := 1, slots := 6, locals := 131 }) (fun o1 o2 => [.int x1, .ref o1]) v bs 1 6 (g_written x1 v bs) :=
  tlI.of (hh := [(0, 9, 12, 28)]) (by decide +kernel) rfl (fun _ _ _ => Nat.le_of_ble_eq_true rfl) (fun p e s m args below meth c A D cy ad ar o1 o2 cL cD κ b0 u w xo xd z C0 hE hTh hF hT htab => wL_written hl x1 C0 hE hTh hF hT htab)
-- ----- changed
theorem dL_changed_0 : decode cL_changed 0 = .ok (.aload_n 2, 1) := by decide +kernel
theorem dL_changed_1 : decode cL_changed 1 = .ok (.iconst 0, 1) := by decide +kernel
theorem dL_changed_2 : decode cL_changed 2 = .ok (.aload_n 0, 1) := by decide +kernel
theorem dL_changed_3 : decode cL_changed 3 = .ok (.iload_n 1, 1) := by decide +kernel
theorem dL_changed_4 : decode cL_changed 4 = .ok (.invokevirtual 119, 3) := by decide +kernel
theorem dL_changed_7 : decode cL_changed 7 = .ok (.i2l, 1) := by decide +kernel
theorem dL_changed_8 : decode cL_changed 8 = .ok (.lastore, 1) := by decide +kernel
theorem dL_changed_9 : decode cL_changed 9 = .ok (.goto 6, 3) := by decide +kernel
theorem dL_changed_12 : decode cL_changed 12 = .ok (.astore_n 3, 1) := by decide +kernel
theorem dL_changed_13 : decode cL_changed 13 = .ok (.iconst 1, 1) := by decide +kernel
theorem dL_changed_14 : decode cL_changed 14 = .ok (.ireturn, 1) := by decide +kernel
theorem dL_changed_15 : decode cL_changed 15 = .ok (.iconst 0, 1) := by decide +kernel
theorem dL_changed_16 : decode cL_changed 16 = .ok (.ireturn, 1) := by decide +kernel
theorem tl_L_119 : Cond.methodLink RL 119 yX7_changed ∈ TMW := tm_in 1227 (by decide +kernel) (by decide +kernel)
theorem ti_X7_changed : Cond.instanceMethod yX7_changed ∈ TMW := tm_in 1228 (by decide +kernel) (by decide +kernel)
theorem ts_X7_changed : Cond.selects RX7 yX7_changed yX7_changed ∈ TMW := tm_in 1229 (by decide +kernel) (by decide +kernel)
theorem tc_X7_changed : Cond.code yX7_changed cX7_changed 2 (some .int) ∈ TMW := tm_in 1230 (by decide +kernel) (by decide +kernel)
def g_changed (x1 : Int32) (v : tmM) (bs : List Int32) (xo : Int64) (xd : UInt64) : Option (Int32 × tlS) := tl_cx (f_X7_changed x1 v) (fun r v' => some (0, ((r.toInt64, xd), (v', bs)))) (fun i v' => tl_kx (some 1) (none) (none) i ((xo, xd), (v', bs)))
set_option maxRecDepth 100000 in
theorem wL_changed {p : Program} {l : Launch} (hl : l.stackTraces = false) {e : Env} {s : State} {m : MethodId} {args : Array Value} {below : List Frame} {meth : Method} {c : Code} {A : Nat → Prop} {D : va_G} {cy : Nat → ClassId} {ad ar : Nat → Nat} {o1 o2 : Nat} {cL cD : ClassId} {κ b0 : Nat} {u v w : tmM} {bs : List Int32} {xo : Int64} {xd : UInt64} {z : Int32 × tlS} {adK adV adE : Nat → Nat} {tC : Nat} (x1 : Int32) (C0 : tmC p s m args meth c cL_changed 4 (some .int) RL TMW tm_NWC D cy tm_s0 tm_a0 0 (tlW cy ad ar o1 o2 cL cD κ b0 u v w xo xd) A) (hE : tmSc adK adV adE tC A s s.heap) (hTh : tmTh A s s.heap) (hF : tlF D cy cL cD s) (hT : tmTx κ u bs) (htab : c.exceptionTable.toList = tableOf [(0, 9, 12, 28)]) : tmG p l e ({ frames := 8, cells := 1, slots := 6, locals := 131 }) s m args below meth c 0 0 (MQ below (va_Qi (fun r y => z = (r, y)) (tlT D cy ad ar o1 o2 cL cD w A) A) args s 1 6 A) 4 D cy tm_s0 tm_a0 0 (tlW cy ad ar o1 o2 cL cD κ b0 u v w xo xd) A z 0 [(0, .ref (ad 247)), (1, .int x1), (2, .ref o1)] [] tm_v0 (g_changed x1 v bs xo xd) := by
  unfold g_changed
  refine tg_aload_n 2 C0 dL_changed_0 rfl rfl ?_
  refine tg_iconst (x := 0) C0 dL_changed_1 (by decide) ?_
  refine tg_aload_n 0 C0 dL_changed_2 rfl rfl ?_
  refine tg_iload_n 1 C0 dL_changed_3 rfl rfl ?_
  refine tl_xi (tl_hh (some 12) (none) (none)) (As := [.int x1]) (fs := [some 0, some 248, none, none, some 249, none, some 250, some 251, some 256]) 1 C0 hTh dL_changed_4 (c_X7_changed l hl x1 v) rfl rfl rfl rfl (tm_gV tl_L_119 ti_X7_changed ts_X7_changed tn_X7 tc_X7_changed) rfl rfl rfl rfl (by decide +kernel) ⟨Nat.le_of_ble_eq_true rfl, Nat.le_of_ble_eq_true rfl⟩ (Nat.le_of_ble_eq_true rfl) ⟨Nat.le_of_ble_eq_true rfl, Nat.le_of_ble_eq_true rfl⟩ (fun i v' h => tl_hno (fun h => by cases h) (fun _ => rfl) (fun _ => rfl) i ((xo, xd), (v', bs)) h) (fun i pcH hi H locs ls q ce hq hv hc kk => ?_) (fun i pcH q v' hi C0 => ?_) (fun r v' C0 => ?_)
  · match i, hi with
    | 0, hi =>
      cases hi
      exact tl_catch (0) C0.2.2.2.2.2.1 C0.2.2.2.2.2.2.1 tl_hcl hF [] [] ⟨0, 9, 12, 28⟩ htab (fun z hz => by cases hz) rfl rfl hq hv hc kk
    | 1, hi => cases hi
    | i + 2, hi => cases hi
  · match i, hi with
    | 0, hi =>
      cases hi
      refine tg_eq (r := some (1, ((xo, xd), (v', bs)))) rfl ?_
      refine tg_astore_n [(3, .ref q), (0, .ref (ad 247)), (1, .int x1), (2, .ref o1)] C0 dL_changed_12 rfl (by decide) rfl ?_
      refine tg_iconst (x := 1) C0 dL_changed_13 (by decide) ?_
      exact tl_iret C0 hT dL_changed_14 ⟨Nat.le_of_ble_eq_true rfl, Nat.le_of_ble_eq_true rfl⟩
    | 1, hi => cases hi
    | i + 2, hi => cases hi
  · refine tl_i2l C0 dL_changed_7 ?_
    refine tl_last C0 hF dL_changed_8 (fun C0 => ?_)
    refine tg_goto 15 C0 dL_changed_9 (by decide) ?_
    refine tg_iconst (x := 0) C0 dL_changed_15 (by decide) ?_
    exact tl_iret C0 hT dL_changed_16 ⟨Nat.le_of_ble_eq_true rfl, Nat.le_of_ble_eq_true rfl⟩
theorem cL_c_changed (l : Launch) (hl : l.stackTraces = false) {adK adV adE : Nat → Nat} {tC : Nat} (x1 : Int32) (v : tmM) (bs : List Int32) : tlI l adK adV adE tC yL_changed (Cond.codeWith yL_changed cL_changed 4 (some .int) [(0, 9, 12, 28)] :: TMW) ({ frames := 8, cells := 1, slots := 6, locals := 131 }) (fun o1 o2 => [.int x1, .ref o1]) v bs 1 6 (g_changed x1 v bs) :=
  tlI.of (hh := [(0, 9, 12, 28)]) (by decide +kernel) rfl (fun _ _ _ => Nat.le_of_ble_eq_true rfl) (fun p e s m args below meth c A D cy ad ar o1 o2 cL cD κ b0 u w xo xd z C0 hE hTh hF hT htab => wL_changed hl x1 C0 hE hTh hF hT htab)
-- ----- eventsOf
theorem dL_eventsOf_0 : decode cL_eventsOf 0 = .ok (.aload_n 3, 1) := by decide +kernel
theorem dL_eventsOf_1 : decode cL_eventsOf 1 = .ok (.iconst 0, 1) := by decide +kernel
theorem dL_eventsOf_2 : decode cL_eventsOf 2 = .ok (.aload_n 0, 1) := by decide +kernel
theorem dL_eventsOf_3 : decode cL_eventsOf 3 = .ok (.iload_n 1, 1) := by decide +kernel
theorem dL_eventsOf_4 : decode cL_eventsOf 4 = .ok (.iload_n 2, 1) := by decide +kernel
theorem dL_eventsOf_5 : decode cL_eventsOf 5 = .ok (.invokevirtual 122, 3) := by decide +kernel
theorem dL_eventsOf_8 : decode cL_eventsOf 8 = .ok (.i2l, 1) := by decide +kernel
theorem dL_eventsOf_9 : decode cL_eventsOf 9 = .ok (.lastore, 1) := by decide +kernel
theorem dL_eventsOf_10 : decode cL_eventsOf 10 = .ok (.goto 7, 3) := by decide +kernel
theorem dL_eventsOf_13 : decode cL_eventsOf 13 = .ok (.astore 4, 2) := by decide +kernel
theorem dL_eventsOf_15 : decode cL_eventsOf 15 = .ok (.iconst 1, 1) := by decide +kernel
theorem dL_eventsOf_16 : decode cL_eventsOf 16 = .ok (.ireturn, 1) := by decide +kernel
theorem dL_eventsOf_17 : decode cL_eventsOf 17 = .ok (.iconst 0, 1) := by decide +kernel
theorem dL_eventsOf_18 : decode cL_eventsOf 18 = .ok (.ireturn, 1) := by decide +kernel
theorem tl_L_122 : Cond.methodLink RL 122 yX7_eventsOf ∈ TMW := tm_in 1241 (by decide +kernel) (by decide +kernel)
theorem ti_X7_eventsOf : Cond.instanceMethod yX7_eventsOf ∈ TMW := tm_in 1242 (by decide +kernel) (by decide +kernel)
theorem ts_X7_eventsOf : Cond.selects RX7 yX7_eventsOf yX7_eventsOf ∈ TMW := tm_in 1243 (by decide +kernel) (by decide +kernel)
theorem tc_X7_eventsOf : Cond.code yX7_eventsOf cX7_eventsOf 3 (some .int) ∈ TMW := tm_in 1244 (by decide +kernel) (by decide +kernel)
def g_eventsOf (x1 : Int32) (x2 : Int32) (v : tmM) (bs : List Int32) (xo : Int64) (xd : UInt64) : Option (Int32 × tlS) := tl_cx (f_X7_eventsOf x1 x2 v) (fun r v' => some (0, ((r.toInt64, xd), (v', bs)))) (fun i v' => tl_kx (none) (some 1) (none) i ((xo, xd), (v', bs)))
set_option maxRecDepth 100000 in
theorem wL_eventsOf {p : Program} {l : Launch} (hl : l.stackTraces = false) {e : Env} {s : State} {m : MethodId} {args : Array Value} {below : List Frame} {meth : Method} {c : Code} {A : Nat → Prop} {D : va_G} {cy : Nat → ClassId} {ad ar : Nat → Nat} {o1 o2 : Nat} {cL cD : ClassId} {κ b0 : Nat} {u v w : tmM} {bs : List Int32} {xo : Int64} {xd : UInt64} {z : Int32 × tlS} {adK adV adE : Nat → Nat} {tC : Nat} (x1 : Int32) (x2 : Int32) (C0 : tmC p s m args meth c cL_eventsOf 5 (some .int) RL TMW tm_NWC D cy tm_s0 tm_a0 0 (tlW cy ad ar o1 o2 cL cD κ b0 u v w xo xd) A) (hE : tmSc adK adV adE tC A s s.heap) (hTh : tmTh A s s.heap) (hF : tlF D cy cL cD s) (hT : tmTx κ u bs) (htab : c.exceptionTable.toList = tableOf [(0, 10, 13, 18)]) : tmG p l e ({ frames := 8, cells := 1, slots := 6, locals := 132 }) s m args below meth c 0 0 (MQ below (va_Qi (fun r y => z = (r, y)) (tlT D cy ad ar o1 o2 cL cD w A) A) args s 1 6 A) 5 D cy tm_s0 tm_a0 0 (tlW cy ad ar o1 o2 cL cD κ b0 u v w xo xd) A z 0 [(0, .ref (ad 247)), (1, .int x1), (2, .int x2), (3, .ref o1)] [] tm_v0 (g_eventsOf x1 x2 v bs xo xd) := by
  unfold g_eventsOf
  refine tg_aload_n 3 C0 dL_eventsOf_0 rfl rfl ?_
  refine tg_iconst (x := 0) C0 dL_eventsOf_1 (by decide) ?_
  refine tg_aload_n 0 C0 dL_eventsOf_2 rfl rfl ?_
  refine tg_iload_n 1 C0 dL_eventsOf_3 rfl rfl ?_
  refine tg_iload_n 2 C0 dL_eventsOf_4 rfl rfl ?_
  refine tl_xi (tl_hh (none) (some 13) (none)) (As := [.int x1, .int x2]) (fs := [some 0, some 248, none, none, some 249, none, some 250, some 251, some 256]) 2 C0 hTh dL_eventsOf_5 (c_X7_eventsOf l hl x1 x2 v) rfl rfl rfl rfl (tm_gV tl_L_122 ti_X7_eventsOf ts_X7_eventsOf tn_X7 tc_X7_eventsOf) rfl rfl rfl rfl (by decide +kernel) ⟨Nat.le_of_ble_eq_true rfl, Nat.le_of_ble_eq_true rfl⟩ (Nat.le_of_ble_eq_true rfl) ⟨Nat.le_of_ble_eq_true rfl, Nat.le_of_ble_eq_true rfl⟩ (fun i v' h => tl_hno (fun _ => rfl) (fun h => by cases h) (fun _ => rfl) i ((xo, xd), (v', bs)) h) (fun i pcH hi H locs ls q ce hq hv hc kk => ?_) (fun i pcH q v' hi C0 => ?_) (fun r v' C0 => ?_)
  · match i, hi with
    | 0, hi => cases hi
    | 1, hi =>
      cases hi
      exact tl_catch (1) C0.2.2.2.2.2.1 C0.2.2.2.2.2.2.1 tl_hcl hF [] [] ⟨0, 10, 13, 18⟩ htab (fun z hz => by cases hz) rfl rfl hq hv hc kk
    | i + 2, hi => cases hi
  · match i, hi with
    | 0, hi => cases hi
    | 1, hi =>
      cases hi
      refine tg_eq (r := some (1, ((xo, xd), (v', bs)))) rfl ?_
      refine tg_astore [(4, .ref q), (0, .ref (ad 247)), (1, .int x1), (2, .int x2), (3, .ref o1)] C0 dL_eventsOf_13 (by decide) rfl ?_
      refine tg_iconst (x := 1) C0 dL_eventsOf_15 (by decide) ?_
      exact tl_iret C0 hT dL_eventsOf_16 ⟨Nat.le_of_ble_eq_true rfl, Nat.le_of_ble_eq_true rfl⟩
    | i + 2, hi => cases hi
  · refine tl_i2l C0 dL_eventsOf_8 ?_
    refine tl_last C0 hF dL_eventsOf_9 (fun C0 => ?_)
    refine tg_goto 17 C0 dL_eventsOf_10 (by decide) ?_
    refine tg_iconst (x := 0) C0 dL_eventsOf_17 (by decide) ?_
    exact tl_iret C0 hT dL_eventsOf_18 ⟨Nat.le_of_ble_eq_true rfl, Nat.le_of_ble_eq_true rfl⟩
theorem cL_c_eventsOf (l : Launch) (hl : l.stackTraces = false) {adK adV adE : Nat → Nat} {tC : Nat} (x1 : Int32) (x2 : Int32) (v : tmM) (bs : List Int32) : tlI l adK adV adE tC yL_eventsOf (Cond.codeWith yL_eventsOf cL_eventsOf 5 (some .int) [(0, 10, 13, 18)] :: TMW) ({ frames := 8, cells := 1, slots := 6, locals := 132 }) (fun o1 o2 => [.int x1, .int x2, .ref o1]) v bs 1 6 (g_eventsOf x1 x2 v bs) :=
  tlI.of (hh := [(0, 10, 13, 18)]) (by decide +kernel) rfl (fun _ _ _ => Nat.le_of_ble_eq_true rfl) (fun p e s m args below meth c A D cy ad ar o1 o2 cL cD κ b0 u w xo xd z C0 hE hTh hF hT htab => wL_eventsOf hl x1 x2 C0 hE hTh hF hT htab)
-- ----- write
theorem dL_write_0 : decode cL_write 0 = .ok (.aload_n 2, 1) := by decide +kernel
theorem dL_write_1 : decode cL_write 1 = .ok (.iconst 0, 1) := by decide +kernel
theorem dL_write_2 : decode cL_write 2 = .ok (.aload_n 0, 1) := by decide +kernel
theorem dL_write_3 : decode cL_write 3 = .ok (.iload_n 1, 1) := by decide +kernel
theorem dL_write_4 : decode cL_write 4 = .ok (.invokevirtual 125, 3) := by decide +kernel
theorem dL_write_7 : decode cL_write 7 = .ok (.i2l, 1) := by decide +kernel
theorem dL_write_8 : decode cL_write 8 = .ok (.lastore, 1) := by decide +kernel
theorem dL_write_9 : decode cL_write 9 = .ok (.goto 6, 3) := by decide +kernel
theorem dL_write_12 : decode cL_write 12 = .ok (.astore_n 3, 1) := by decide +kernel
theorem dL_write_13 : decode cL_write 13 = .ok (.iconst 1, 1) := by decide +kernel
theorem dL_write_14 : decode cL_write 14 = .ok (.ireturn, 1) := by decide +kernel
theorem dL_write_15 : decode cL_write 15 = .ok (.iconst 0, 1) := by decide +kernel
theorem dL_write_16 : decode cL_write 16 = .ok (.ireturn, 1) := by decide +kernel
theorem tl_L_125 : Cond.methodLink RL 125 yX7_write ∈ TMW := tm_in 1256 (by decide +kernel) (by decide +kernel)
theorem ti_X7_write : Cond.instanceMethod yX7_write ∈ TMW := tm_in 1257 (by decide +kernel) (by decide +kernel)
theorem ts_X7_write : Cond.selects RX7 yX7_write yX7_write ∈ TMW := tm_in 1258 (by decide +kernel) (by decide +kernel)
theorem tc_X7_write : Cond.code yX7_write cX7_write 3 (some .int) ∈ TMW := tm_in 1259 (by decide +kernel) (by decide +kernel)
def g_write (x1 : Int32) (v : tmM) (bs : List Int32) (xo : Int64) (xd : UInt64) : Option (Int32 × tlS) := tl_cxw (f_X7_write x1 v bs) (fun r v' bs' => some (0, ((r.toInt64, xd), (v', bs')))) (fun i v' bs' => tl_kx (some 1) (none) (none) i ((xo, xd), (v', bs')))
set_option maxRecDepth 100000 in
theorem wL_write {p : Program} {l : Launch} (hl : l.stackTraces = false) {e : Env} {s : State} {m : MethodId} {args : Array Value} {below : List Frame} {meth : Method} {c : Code} {A : Nat → Prop} {D : va_G} {cy : Nat → ClassId} {ad ar : Nat → Nat} {o1 o2 : Nat} {cL cD : ClassId} {κ b0 : Nat} {u v w : tmM} {bs : List Int32} {xo : Int64} {xd : UInt64} {z : Int32 × tlS} {adK adV adE : Nat → Nat} {tC : Nat} (x1 : Int32) (C0 : tmC p s m args meth c cL_write 4 (some .int) RL TMW tm_NWC D cy tm_s0 tm_a0 0 (tlW cy ad ar o1 o2 cL cD κ b0 u v w xo xd) A) (hE : tmSc adK adV adE tC A s s.heap) (hTh : tmTh A s s.heap) (hF : tlF D cy cL cD s) (hT : tmTx κ u bs) (htab : c.exceptionTable.toList = tableOf [(0, 9, 12, 28)]) : tmG p l e ({ frames := 9, cells := 40, slots := 3000, locals := 322 }) s m args below meth c 0 0 (MQ below (va_Qi (fun r y => z = (r, y)) (tlT D cy ad ar o1 o2 cL cD w A) A) args s 40 3000 A) 4 D cy tm_s0 tm_a0 0 (tlW cy ad ar o1 o2 cL cD κ b0 u v w xo xd) A z 0 [(0, .ref (ad 247)), (1, .int x1), (2, .ref o1)] [] tm_v0 (g_write x1 v bs xo xd) := by
  unfold g_write
  refine tg_aload_n 2 C0 dL_write_0 rfl rfl ?_
  refine tg_iconst (x := 0) C0 dL_write_1 (by decide) ?_
  refine tg_aload_n 0 C0 dL_write_2 rfl rfl ?_
  refine tg_iload_n 1 C0 dL_write_3 rfl rfl ?_
  refine tl_xw (tl_hh (some 12) (none) (none)) (As := [.int x1]) (fs := [some 0, some 248, none, none, some 249, none, some 250, some 251, some 256]) 1 C0 hE hTh hT dL_write_4 (c_X7_write l hl x1 v bs) rfl rfl rfl rfl (tm_gV tl_L_125 ti_X7_write ts_X7_write tn_X7 tc_X7_write) rfl rfl rfl rfl (by decide +kernel) ⟨Nat.le_of_ble_eq_true rfl, Nat.le_of_ble_eq_true rfl⟩ (Nat.le_of_ble_eq_true rfl) ⟨Nat.le_of_ble_eq_true rfl, Nat.le_of_ble_eq_true rfl⟩ (fun i v' bs' h => tl_hno (fun h => by cases h) (fun _ => rfl) (fun _ => rfl) i ((xo, xd), (v', bs')) h) (fun i pcH hi H locs ls q ce hq hv hc kk => ?_) (fun i pcH q κ' b0' u' v' bs' hi hT' C0 => ?_) (fun r κ' b0' u' v' bs' hT' C0 => ?_)
  · match i, hi with
    | 0, hi =>
      cases hi
      exact tl_catch (0) C0.2.2.2.2.2.1 C0.2.2.2.2.2.2.1 tl_hcl hF [] [] ⟨0, 9, 12, 28⟩ htab (fun z hz => by cases hz) rfl rfl hq hv hc kk
    | 1, hi => cases hi
    | i + 2, hi => cases hi
  · match i, hi with
    | 0, hi =>
      cases hi
      refine tg_eq (r := some (1, ((xo, xd), (v', bs')))) rfl ?_
      refine tg_astore_n [(3, .ref q), (0, .ref (ad 247)), (1, .int x1), (2, .ref o1)] C0 dL_write_12 rfl (by decide) rfl ?_
      refine tg_iconst (x := 1) C0 dL_write_13 (by decide) ?_
      exact tl_iret C0 hT' dL_write_14 ⟨Nat.le_of_ble_eq_true rfl, Nat.le_of_ble_eq_true rfl⟩
    | 1, hi => cases hi
    | i + 2, hi => cases hi
  · refine tl_i2l C0 dL_write_7 ?_
    refine tl_last C0 hF dL_write_8 (fun C0 => ?_)
    refine tg_goto 15 C0 dL_write_9 (by decide) ?_
    refine tg_iconst (x := 0) C0 dL_write_15 (by decide) ?_
    exact tl_iret C0 hT' dL_write_16 ⟨Nat.le_of_ble_eq_true rfl, Nat.le_of_ble_eq_true rfl⟩
theorem cL_c_write (l : Launch) (hl : l.stackTraces = false) {adK adV adE : Nat → Nat} {tC : Nat} (x1 : Int32) (v : tmM) (bs : List Int32) : tlI l adK adV adE tC yL_write (Cond.codeWith yL_write cL_write 4 (some .int) [(0, 9, 12, 28)] :: TMW) ({ frames := 9, cells := 40, slots := 3000, locals := 322 }) (fun o1 o2 => [.int x1, .ref o1]) v bs 40 3000 (g_write x1 v bs) :=
  tlI.of (hh := [(0, 9, 12, 28)]) (by decide +kernel) rfl (fun _ _ _ => Nat.le_of_ble_eq_true rfl) (fun p e s m args below meth c A D cy ad ar o1 o2 cL cD κ b0 u w xo xd z C0 hE hTh hF hT htab => wL_write hl x1 C0 hE hTh hF hT htab)
-- ----- save
theorem dL_save_0 : decode cL_save 0 = .ok (.aload_n 0, 1) := by decide +kernel
theorem dL_save_1 : decode cL_save 1 = .ok (.iload_n 1, 1) := by decide +kernel
theorem dL_save_2 : decode cL_save 2 = .ok (.invokevirtual 128, 3) := by decide +kernel
theorem dL_save_5 : decode cL_save 5 = .ok (.goto 6, 3) := by decide +kernel
theorem dL_save_8 : decode cL_save 8 = .ok (.astore_n 2, 1) := by decide +kernel
theorem dL_save_9 : decode cL_save 9 = .ok (.iconst 1, 1) := by decide +kernel
theorem dL_save_10 : decode cL_save 10 = .ok (.ireturn, 1) := by decide +kernel
theorem dL_save_11 : decode cL_save 11 = .ok (.iconst 0, 1) := by decide +kernel
theorem dL_save_12 : decode cL_save 12 = .ok (.ireturn, 1) := by decide +kernel
theorem tl_L_128 : Cond.methodLink RL 128 yX7_save ∈ TMW := tm_in 1530 (by decide +kernel) (by decide +kernel)
theorem ti_X7_save : Cond.instanceMethod yX7_save ∈ TMW := tm_in 1531 (by decide +kernel) (by decide +kernel)
theorem ts_X7_save : Cond.selects RX7 yX7_save yX7_save ∈ TMW := tm_in 1532 (by decide +kernel) (by decide +kernel)
theorem tc_X7_save : Cond.code yX7_save cX7_save 2 none ∈ TMW := tm_in 1533 (by decide +kernel) (by decide +kernel)
def g_save (x1 : Int32) (v : tmM) (bs : List Int32) (xo : Int64) (xd : UInt64) : Option (Int32 × tlS) := tl_cx (f_X7_save x1 v) (fun _ v' => some (0, ((xo, xd), (v', bs)))) (fun i v' => tl_kx (none) (some 1) (none) i ((xo, xd), (v', bs)))
set_option maxRecDepth 100000 in
theorem wL_save {p : Program} {l : Launch} (hl : l.stackTraces = false) {e : Env} {s : State} {m : MethodId} {args : Array Value} {below : List Frame} {meth : Method} {c : Code} {A : Nat → Prop} {D : va_G} {cy : Nat → ClassId} {ad ar : Nat → Nat} {o1 o2 : Nat} {cL cD : ClassId} {κ b0 : Nat} {u v w : tmM} {bs : List Int32} {xo : Int64} {xd : UInt64} {z : Int32 × tlS} {adK adV adE : Nat → Nat} {tC : Nat} (x1 : Int32) (C0 : tmC p s m args meth c cL_save 3 (some .int) RL TMW tm_NWC D cy tm_s0 tm_a0 0 (tlW cy ad ar o1 o2 cL cD κ b0 u v w xo xd) A) (hE : tmSc adK adV adE tC A s s.heap) (hTh : tmTh A s s.heap) (hF : tlF D cy cL cD s) (hT : tmTx κ u bs) (htab : c.exceptionTable.toList = tableOf [(0, 5, 8, 18)]) : tmG p l e ({ frames := 8, cells := 1, slots := 6, locals := 131 }) s m args below meth c 0 0 (MQ below (va_Qi (fun r y => z = (r, y)) (tlT D cy ad ar o1 o2 cL cD w A) A) args s 1 6 A) 3 D cy tm_s0 tm_a0 0 (tlW cy ad ar o1 o2 cL cD κ b0 u v w xo xd) A z 0 [(0, .ref (ad 247)), (1, .int x1)] [] tm_v0 (g_save x1 v bs xo xd) := by
  unfold g_save
  refine tg_aload_n 0 C0 dL_save_0 rfl rfl ?_
  refine tg_iload_n 1 C0 dL_save_1 rfl rfl ?_
  refine tl_xv (tl_hh (none) (some 8) (none)) (As := [.int x1]) (fs := [some 0, some 248, none, none, some 249, none, some 250, some 251, some 256]) 1 C0 hTh dL_save_2 (c_X7_save l hl x1 v) rfl rfl rfl rfl (tm_gV tl_L_128 ti_X7_save ts_X7_save tn_X7 tc_X7_save) rfl rfl rfl rfl (by decide +kernel) ⟨Nat.le_of_ble_eq_true rfl, Nat.le_of_ble_eq_true rfl⟩ (Nat.le_of_ble_eq_true rfl) ⟨Nat.le_of_ble_eq_true rfl, Nat.le_of_ble_eq_true rfl⟩ (fun i v' h => tl_hno (fun _ => rfl) (fun h => by cases h) (fun _ => rfl) i ((xo, xd), (v', bs)) h) (fun i pcH hi H locs ls q ce hq hv hc kk => ?_) (fun i pcH q v' hi C0 => ?_) (fun v' C0 => ?_)
  · match i, hi with
    | 0, hi => cases hi
    | 1, hi =>
      cases hi
      exact tl_catch (1) C0.2.2.2.2.2.1 C0.2.2.2.2.2.2.1 tl_hcl hF [] [] ⟨0, 5, 8, 18⟩ htab (fun z hz => by cases hz) rfl rfl hq hv hc kk
    | i + 2, hi => cases hi
  · match i, hi with
    | 0, hi => cases hi
    | 1, hi =>
      cases hi
      refine tg_eq (r := some (1, ((xo, xd), (v', bs)))) rfl ?_
      refine tg_astore_n [(2, .ref q), (0, .ref (ad 247)), (1, .int x1)] C0 dL_save_8 rfl (by decide) rfl ?_
      refine tg_iconst (x := 1) C0 dL_save_9 (by decide) ?_
      exact tl_iret C0 hT dL_save_10 ⟨Nat.le_of_ble_eq_true rfl, Nat.le_of_ble_eq_true rfl⟩
    | i + 2, hi => cases hi
  · refine tg_goto 11 C0 dL_save_5 (by decide) ?_
    refine tg_iconst (x := 0) C0 dL_save_11 (by decide) ?_
    exact tl_iret C0 hT dL_save_12 ⟨Nat.le_of_ble_eq_true rfl, Nat.le_of_ble_eq_true rfl⟩
theorem cL_c_save (l : Launch) (hl : l.stackTraces = false) {adK adV adE : Nat → Nat} {tC : Nat} (x1 : Int32) (v : tmM) (bs : List Int32) : tlI l adK adV adE tC yL_save (Cond.codeWith yL_save cL_save 3 (some .int) [(0, 5, 8, 18)] :: TMW) ({ frames := 8, cells := 1, slots := 6, locals := 131 }) (fun o1 o2 => [.int x1]) v bs 1 6 (g_save x1 v bs) :=
  tlI.of (hh := [(0, 5, 8, 18)]) (by decide +kernel) rfl (fun _ _ _ => Nat.le_of_ble_eq_true rfl) (fun p e s m args below meth c A D cy ad ar o1 o2 cL cD κ b0 u w xo xd z C0 hE hTh hF hT htab => wL_save hl x1 C0 hE hTh hF hT htab)
-- ----- restore
theorem dL_restore_0 : decode cL_restore 0 = .ok (.aload_n 0, 1) := by decide +kernel
theorem dL_restore_1 : decode cL_restore 1 = .ok (.iload_n 1, 1) := by decide +kernel
theorem dL_restore_2 : decode cL_restore 2 = .ok (.invokevirtual 132, 3) := by decide +kernel
theorem dL_restore_5 : decode cL_restore 5 = .ok (.goto 9, 3) := by decide +kernel
theorem dL_restore_8 : decode cL_restore 8 = .ok (.astore_n 2, 1) := by decide +kernel
theorem dL_restore_9 : decode cL_restore 9 = .ok (.iconst 1, 1) := by decide +kernel
theorem dL_restore_10 : decode cL_restore 10 = .ok (.ireturn, 1) := by decide +kernel
theorem dL_restore_11 : decode cL_restore 11 = .ok (.astore_n 2, 1) := by decide +kernel
theorem dL_restore_12 : decode cL_restore 12 = .ok (.iconst 2, 1) := by decide +kernel
theorem dL_restore_13 : decode cL_restore 13 = .ok (.ireturn, 1) := by decide +kernel
theorem dL_restore_14 : decode cL_restore 14 = .ok (.iconst 0, 1) := by decide +kernel
theorem dL_restore_15 : decode cL_restore 15 = .ok (.ireturn, 1) := by decide +kernel
theorem tl_L_132 : Cond.methodLink RL 132 yX7_restore ∈ TMW := tm_in 1537 (by decide +kernel) (by decide +kernel)
theorem ti_X7_restore : Cond.instanceMethod yX7_restore ∈ TMW := tm_in 1538 (by decide +kernel) (by decide +kernel)
theorem ts_X7_restore : Cond.selects RX7 yX7_restore yX7_restore ∈ TMW := tm_in 1539 (by decide +kernel) (by decide +kernel)
theorem tc_X7_restore : Cond.code yX7_restore cX7_restore 2 none ∈ TMW := tm_in 1540 (by decide +kernel) (by decide +kernel)
def g_restore (x1 : Int32) (v : tmM) (bs : List Int32) (xo : Int64) (xd : UInt64) : Option (Int32 × tlS) := tl_cx (f_X7_restore x1 v) (fun _ v' => some (0, ((xo, xd), (v', bs)))) (fun i v' => tl_kx (none) (some 1) (some 2) i ((xo, xd), (v', bs)))
set_option maxRecDepth 100000 in
theorem wL_restore {p : Program} {l : Launch} (hl : l.stackTraces = false) {e : Env} {s : State} {m : MethodId} {args : Array Value} {below : List Frame} {meth : Method} {c : Code} {A : Nat → Prop} {D : va_G} {cy : Nat → ClassId} {ad ar : Nat → Nat} {o1 o2 : Nat} {cL cD : ClassId} {κ b0 : Nat} {u v w : tmM} {bs : List Int32} {xo : Int64} {xd : UInt64} {z : Int32 × tlS} {adK adV adE : Nat → Nat} {tC : Nat} (x1 : Int32) (C0 : tmC p s m args meth c cL_restore 3 (some .int) RL TMW tm_NWC D cy tm_s0 tm_a0 0 (tlW cy ad ar o1 o2 cL cD κ b0 u v w xo xd) A) (hE : tmSc adK adV adE tC A s s.heap) (hTh : tmTh A s s.heap) (hF : tlF D cy cL cD s) (hT : tmTx κ u bs) (htab : c.exceptionTable.toList = tableOf [(0, 5, 8, 18), (0, 5, 11, 13)]) : tmG p l e ({ frames := 8, cells := 2, slots := 12, locals := 131 }) s m args below meth c 0 0 (MQ below (va_Qi (fun r y => z = (r, y)) (tlT D cy ad ar o1 o2 cL cD w A) A) args s 2 12 A) 3 D cy tm_s0 tm_a0 0 (tlW cy ad ar o1 o2 cL cD κ b0 u v w xo xd) A z 0 [(0, .ref (ad 247)), (1, .int x1)] [] tm_v0 (g_restore x1 v bs xo xd) := by
  unfold g_restore
  refine tg_aload_n 0 C0 dL_restore_0 rfl rfl ?_
  refine tg_iload_n 1 C0 dL_restore_1 rfl rfl ?_
  refine tl_xv (tl_hh (none) (some 8) (some 11)) (As := [.int x1]) (fs := [some 0, some 248, none, none, some 249, none, some 250, some 251, some 256]) 1 C0 hTh dL_restore_2 (c_X7_restore l hl x1 v) rfl rfl rfl rfl (tm_gV tl_L_132 ti_X7_restore ts_X7_restore tn_X7 tc_X7_restore) rfl rfl rfl rfl (by decide +kernel) ⟨Nat.le_of_ble_eq_true rfl, Nat.le_of_ble_eq_true rfl⟩ (Nat.le_of_ble_eq_true rfl) ⟨Nat.le_of_ble_eq_true rfl, Nat.le_of_ble_eq_true rfl⟩ (fun i v' h => tl_hno (fun _ => rfl) (fun h => by cases h) (fun h => by cases h) i ((xo, xd), (v', bs)) h) (fun i pcH hi H locs ls q ce hq hv hc kk => ?_) (fun i pcH q v' hi C0 => ?_) (fun v' C0 => ?_)
  · match i, hi with
    | 0, hi => cases hi
    | 1, hi =>
      cases hi
      exact tl_catch (1) C0.2.2.2.2.2.1 C0.2.2.2.2.2.2.1 tl_hcl hF [] [⟨0, 5, 11, 13⟩] ⟨0, 5, 8, 18⟩ htab (fun z hz => by cases hz) rfl rfl hq hv hc kk
    | i + 2, hi =>
      cases hi
      exact tl_catch (i + 2) C0.2.2.2.2.2.1 C0.2.2.2.2.2.2.1 tl_hcl hF [⟨0, 5, 8, 18⟩] [] ⟨0, 5, 11, 13⟩ htab (fun z hz => by
        simp only [List.mem_cons, List.not_mem_nil, or_false] at hz
        rcases hz with rfl
        · exact ⟨1, by decide, by omega, rfl⟩) rfl (by rw [show min (i + 2) 2 = 2 by omega]; rfl) hq hv hc kk
  · match i, hi with
    | 0, hi => cases hi
    | 1, hi =>
      cases hi
      refine tg_eq (r := some (1, ((xo, xd), (v', bs)))) rfl ?_
      refine tg_astore_n [(2, .ref q), (0, .ref (ad 247)), (1, .int x1)] C0 dL_restore_8 rfl (by decide) rfl ?_
      refine tg_iconst (x := 1) C0 dL_restore_9 (by decide) ?_
      exact tl_iret C0 hT dL_restore_10 ⟨Nat.le_of_ble_eq_true rfl, Nat.le_of_ble_eq_true rfl⟩
    | i + 2, hi =>
      cases hi
      refine tg_eq (r := some (2, ((xo, xd), (v', bs)))) rfl ?_
      refine tg_astore_n [(2, .ref q), (0, .ref (ad 247)), (1, .int x1)] C0 dL_restore_11 rfl (by decide) rfl ?_
      refine tg_iconst (x := 2) C0 dL_restore_12 (by decide) ?_
      exact tl_iret C0 hT dL_restore_13 ⟨Nat.le_of_ble_eq_true rfl, Nat.le_of_ble_eq_true rfl⟩
  · refine tg_goto 14 C0 dL_restore_5 (by decide) ?_
    refine tg_iconst (x := 0) C0 dL_restore_14 (by decide) ?_
    exact tl_iret C0 hT dL_restore_15 ⟨Nat.le_of_ble_eq_true rfl, Nat.le_of_ble_eq_true rfl⟩
theorem cL_c_restore (l : Launch) (hl : l.stackTraces = false) {adK adV adE : Nat → Nat} {tC : Nat} (x1 : Int32) (v : tmM) (bs : List Int32) : tlI l adK adV adE tC yL_restore (Cond.codeWith yL_restore cL_restore 3 (some .int) [(0, 5, 8, 18), (0, 5, 11, 13)] :: TMW) ({ frames := 8, cells := 2, slots := 12, locals := 131 }) (fun o1 o2 => [.int x1]) v bs 2 12 (g_restore x1 v bs) :=
  tlI.of (hh := [(0, 5, 8, 18), (0, 5, 11, 13)]) (by decide +kernel) rfl (fun _ _ _ => Nat.le_of_ble_eq_true rfl) (fun p e s m args below meth c A D cy ad ar o1 o2 cL cD κ b0 u w xo xd z C0 hE hTh hF hT htab => wL_restore hl x1 C0 hE hTh hF hT htab)
