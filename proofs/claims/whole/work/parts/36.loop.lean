set_option maxRecDepth 512
/-- what is to be shown of the two sides' numbers: every call keeps the relation and gives the same answer -/
def tP_all (Rel Rel2 : tmM → List Int32 → tmM → Prop) : Prop := tP_appendText Rel Rel2 ∧ tP_truncateText Rel Rel2 ∧ tP_runScript Rel Rel2 ∧ tP_errorCode Rel Rel2 ∧ tP_errorPosition Rel Rel2 ∧ tP_setForm Rel Rel2 ∧ tP_setUp Rel Rel2 ∧ tP_damage Rel Rel2 ∧ tP_count Rel Rel2 ∧ tP_stored Rel Rel2 ∧ tP_read Rel Rel2 ∧ tP_isSwitched Rel Rel2 ∧ tP_chunk Rel Rel2 ∧ tP_stale Rel Rel2 ∧ tP_brokenPromise Rel Rel2 ∧ tP_troubledReaders Rel Rel2 ∧ tP_event Rel Rel2 ∧ tP_since Rel Rel2 ∧ tP_account Rel Rel2 ∧ tP_put Rel Rel2 ∧ tP_remove Rel Rel2 ∧ tP_begin Rel Rel2 ∧ tP_copy Rel Rel2 ∧ tP_repair Rel Rel2 ∧ tP_check Rel Rel2 ∧ tP_switchOver Rel Rel2 ∧ tP_switchBack Rel Rel2 ∧ tP_lead Rel Rel2 ∧ tP_goBack Rel Rel2 ∧ tP_stop Rel Rel2 ∧ tP_finish Rel Rel2 ∧ tP_fill Rel Rel2 ∧ tP_clearRange Rel Rel2 ∧ tP_why Rel Rel2 ∧ tP_next Rel Rel2 ∧ tP_advance Rel Rel2 ∧ tP_differing Rel Rel2 ∧ tP_lookup Rel Rel2 ∧ tP_total Rel Rel2 ∧ tP_mean Rel Rel2 ∧ tP_agreement Rel Rel2 ∧ tP_readSum Rel Rel2 ∧ tP_written Rel Rel2 ∧ tP_changed Rel Rel2 ∧ tP_eventsOf Rel Rel2 ∧ tP_write Rel Rel2 ∧ tP_output Rel Rel2 ∧ tP_undo Rel Rel2 ∧ tP_save Rel Rel2 ∧ tP_restore Rel Rel2 ∧ ∀ v bs w, Rel v bs w → Rel2 v bs w
theorem dL_law_28 : decode cL_law 28 = .ok (.iload 5, 2) := by decide +kernel
theorem dL_law_30 : decode cL_law 30 = .ok (.aload_n 0, 1) := by decide +kernel
theorem dL_law_31 : decode cL_law 31 = .ok (.arraylength, 1) := by decide +kernel
theorem dL_law_32 : decode cL_law 32 = .ok (.iconst 5, 1) := by decide +kernel
theorem dL_law_33 : decode cL_law 33 = .ok (.isub, 1) := by decide +kernel
theorem dL_law_34 : decode cL_law 34 = .ok (.if_icmp .gt 2762, 3) := by decide +kernel
theorem dL_law_37 : decode cL_law 37 = .ok (.aload_n 0, 1) := by decide +kernel
theorem dL_law_38 : decode cL_law 38 = .ok (.iload 5, 2) := by decide +kernel
theorem dL_law_40 : decode cL_law 40 = .ok (.iaload, 1) := by decide +kernel
theorem dL_law_41 : decode cL_law 41 = .ok (.bipush 63, 2) := by decide +kernel
theorem dL_law_43 : decode cL_law 43 = .ok (.iand, 1) := by decide +kernel
theorem dL_law_44 : decode cL_law 44 = .ok (.tableswitch 2746 0 49 #[216, 272, 328, 341, 354, 367, 415, 506, 574, 630, 698, 766, 829, 897, 953, 966, 979, 1047, 1115, 1171, 1239, 1295, 1308, 1364, 1420, 1476, 1532, 1588, 1601, 1642, 1655, 1668, 1760, 1828, 1896, 1952, 2008, 2064, 2132, 2200, 2277, 2320, 2400, 2456, 2512, 2580, 2636, 2661, 2674, 2710], 216) := by decide +kernel
theorem dL_law_2793 : decode cL_law 2793 = .ok (.goto (-2765), 3) := by decide +kernel
theorem dL_law_2796 : decode cL_law 2796 = .ok (.iconst 1, 1) := by decide +kernel
theorem dL_law_2797 : decode cL_law 2797 = .ok (.ireturn, 1) := by decide +kernel
theorem dL_law_2790 : decode cL_law 2790 = .ok (.iinc 5 5, 3) := by decide +kernel
set_option maxRecDepth 100000 in
theorem law_sw0 {p : Program} {l : Launch} {e : Env} {s : State} {m : MethodId} {below : List Frame} {meth : Method} {c : Code} {D : va_G} {cy : Nat → ClassId} {ad ar : Nat → Nat} {o1 o2 : Nat} {cL cD : ClassId} {adK adV adE : Nat → Nat} {tC : Nat} {cells slots b i L : Nat} {xs : Nat → Int32} {Rel Rel2 : tmM → List Int32 → tmM → Prop} (hl : l.stackTraces = false) (hp : tP_all Rel Rel2) (hX : va_X b L xs s s.heap) (hbl : b < s.heap.size) (hL : L ≤ 2560) (hE : tmSc adK adV adE tC (fun q : Nat => s.heap.size ≤ q) s s.heap) (hTh : tmTh (fun q : Nat => s.heap.size ≤ q) s s.heap) (hF : tlF D cy cL cD s) (hi : i + 5 ≤ L) (hcs : cells + 64 ≤ 601024 ∧ slots + 8000 ≤ 7293034) {κ b0 : Nat} {u v w : tmM} {bs : List Int32} {xo : Int64} {xd : UInt64} (C0 : tmC p s m #[Value.ref b] meth c cL_law 10 ret RL TMW tm_NWC D cy tm_s0 tm_a0 0 (tlW cy ad ar o1 o2 cL cD κ b0 u v w xo xd) (fun q : Nat => s.heap.size ≤ q)) (hT : tmTx κ u bs) (hR : Rel v bs w) (cont : ∀ (κ b0 : Nat) (u v w : tmM) (bs : List Int32) (xo : Int64) (xd : UInt64), tmC p s m #[Value.ref b] meth c cL_law 10 ret RL TMW tm_NWC D cy tm_s0 tm_a0 0 (tlW cy ad ar o1 o2 cL cD κ b0 u v w xo xd) (fun q : Nat => s.heap.size ≤ q) → tmTx κ u bs → Rel2 v bs w → tmG p l e room_1 s m #[Value.ref b] below meth c (cells + 64) (slots + 8000) (lw_Z below #[Value.ref b] s) 10 D cy tm_s0 tm_a0 0 (tlW cy ad ar o1 o2 cL cD κ b0 u v w xo xd) (fun q : Nat => s.heap.size ≤ q) () 2790 [(0, .ref b), (1, .ref (ad 247)), (2, .ref (ar 0)), (3, .ref o1), (4, .ref o2), (5, .int (nI i))] [] tm_v0 (some ())) (j : Nat) (hj : 0 ≤ j ∧ j < 10) : tmG p l e room_1 s m #[Value.ref b] below meth c (cells) (slots) (lw_Z below #[Value.ref b] s) 10 D cy tm_s0 tm_a0 0 (tlW cy ad ar o1 o2 cL cD κ b0 u v w xo xd) (fun q : Nat => s.heap.size ≤ q) () 44 [(0, .ref b), (1, .ref (ad 247)), (2, .ref (ar 0)), (3, .ref o1), (4, .ref o2), (5, .int (nI i))] [.int (nI j)] tm_v0 (some ()) := by
  have hbA : ¬ (fun q : Nat => s.heap.size ≤ q) b := Nat.not_le.mpr hbl
  match j, hj with
  | 0, _ =>
    refine tl_tab 0 260 C0 dL_law_44 (by decide) (by decide) rfl (by decide) ?_
    exact law_case_0 hl hp.1 hX hbl hbA ⟨hi, hL⟩ hE hTh hF hcs C0 hT hR cont
  | 1, _ =>
    refine tl_tab 1 316 C0 dL_law_44 (by decide) (by decide) rfl (by decide) ?_
    exact law_case_1 hl hp.2.1 hX hbl hbA ⟨hi, hL⟩ hE hTh hF hcs C0 hT hR cont
  | 2, _ =>
    refine tl_tab 2 372 C0 dL_law_44 (by decide) (by decide) rfl (by decide) ?_
    exact law_case_2 hl hp.2.2.1 hX hbl hbA ⟨hi, hL⟩ hE hTh hF hcs C0 hT hR cont
  | 3, _ =>
    refine tl_tab 3 385 C0 dL_law_44 (by decide) (by decide) rfl (by decide) ?_
    exact law_case_3 hl hp.2.2.2.1 hX hbl hbA ⟨hi, hL⟩ hE hTh hF hcs C0 hT hR cont
  | 4, _ =>
    refine tl_tab 4 398 C0 dL_law_44 (by decide) (by decide) rfl (by decide) ?_
    exact law_case_4 hl hp.2.2.2.2.1 hX hbl hbA ⟨hi, hL⟩ hE hTh hF hcs C0 hT hR cont
  | 5, _ =>
    refine tl_tab 5 411 C0 dL_law_44 (by decide) (by decide) rfl (by decide) ?_
    exact law_case_5 hl hp.2.2.2.2.2.1 hX hbl hbA ⟨hi, hL⟩ hE hTh hF hcs C0 hT hR cont
  | 6, _ =>
    refine tl_tab 6 459 C0 dL_law_44 (by decide) (by decide) rfl (by decide) ?_
    exact law_case_6 hl hp.2.2.2.2.2.2.1 hX hbl hbA ⟨hi, hL⟩ hE hTh hF hcs C0 hT hR cont
  | 7, _ =>
    refine tl_tab 7 550 C0 dL_law_44 (by decide) (by decide) rfl (by decide) ?_
    exact law_case_7 hl hp.2.2.2.2.2.2.2.1 hX hbl hbA ⟨hi, hL⟩ hE hTh hF hcs C0 hT hR cont
  | 8, _ =>
    refine tl_tab 8 618 C0 dL_law_44 (by decide) (by decide) rfl (by decide) ?_
    exact law_case_8 hl hp.2.2.2.2.2.2.2.2.1 hX hbl hbA ⟨hi, hL⟩ hE hTh hF hcs C0 hT hR cont
  | 9, _ =>
    refine tl_tab 9 674 C0 dL_law_44 (by decide) (by decide) rfl (by decide) ?_
    exact law_case_9 hl hp.2.2.2.2.2.2.2.2.2.1 hX hbl hbA ⟨hi, hL⟩ hE hTh hF hcs C0 hT hR cont
  | _ + 10, hj => exact absurd hj.2 (by omega)
set_option maxRecDepth 100000 in
theorem law_sw1 {p : Program} {l : Launch} {e : Env} {s : State} {m : MethodId} {below : List Frame} {meth : Method} {c : Code} {D : va_G} {cy : Nat → ClassId} {ad ar : Nat → Nat} {o1 o2 : Nat} {cL cD : ClassId} {adK adV adE : Nat → Nat} {tC : Nat} {cells slots b i L : Nat} {xs : Nat → Int32} {Rel Rel2 : tmM → List Int32 → tmM → Prop} (hl : l.stackTraces = false) (hp : tP_all Rel Rel2) (hX : va_X b L xs s s.heap) (hbl : b < s.heap.size) (hL : L ≤ 2560) (hE : tmSc adK adV adE tC (fun q : Nat => s.heap.size ≤ q) s s.heap) (hTh : tmTh (fun q : Nat => s.heap.size ≤ q) s s.heap) (hF : tlF D cy cL cD s) (hi : i + 5 ≤ L) (hcs : cells + 64 ≤ 601024 ∧ slots + 8000 ≤ 7293034) {κ b0 : Nat} {u v w : tmM} {bs : List Int32} {xo : Int64} {xd : UInt64} (C0 : tmC p s m #[Value.ref b] meth c cL_law 10 ret RL TMW tm_NWC D cy tm_s0 tm_a0 0 (tlW cy ad ar o1 o2 cL cD κ b0 u v w xo xd) (fun q : Nat => s.heap.size ≤ q)) (hT : tmTx κ u bs) (hR : Rel v bs w) (cont : ∀ (κ b0 : Nat) (u v w : tmM) (bs : List Int32) (xo : Int64) (xd : UInt64), tmC p s m #[Value.ref b] meth c cL_law 10 ret RL TMW tm_NWC D cy tm_s0 tm_a0 0 (tlW cy ad ar o1 o2 cL cD κ b0 u v w xo xd) (fun q : Nat => s.heap.size ≤ q) → tmTx κ u bs → Rel2 v bs w → tmG p l e room_1 s m #[Value.ref b] below meth c (cells + 64) (slots + 8000) (lw_Z below #[Value.ref b] s) 10 D cy tm_s0 tm_a0 0 (tlW cy ad ar o1 o2 cL cD κ b0 u v w xo xd) (fun q : Nat => s.heap.size ≤ q) () 2790 [(0, .ref b), (1, .ref (ad 247)), (2, .ref (ar 0)), (3, .ref o1), (4, .ref o2), (5, .int (nI i))] [] tm_v0 (some ())) (j : Nat) (hj : 10 ≤ j ∧ j < 20) : tmG p l e room_1 s m #[Value.ref b] below meth c (cells) (slots) (lw_Z below #[Value.ref b] s) 10 D cy tm_s0 tm_a0 0 (tlW cy ad ar o1 o2 cL cD κ b0 u v w xo xd) (fun q : Nat => s.heap.size ≤ q) () 44 [(0, .ref b), (1, .ref (ad 247)), (2, .ref (ar 0)), (3, .ref o1), (4, .ref o2), (5, .int (nI i))] [.int (nI j)] tm_v0 (some ()) := by
  have hbA : ¬ (fun q : Nat => s.heap.size ≤ q) b := Nat.not_le.mpr hbl
  match j, hj with
  | 10, _ =>
    refine tl_tab 10 742 C0 dL_law_44 (by decide) (by decide) rfl (by decide) ?_
    exact law_case_10 hl hp.2.2.2.2.2.2.2.2.2.2.1 hX hbl hbA ⟨hi, hL⟩ hE hTh hF hcs C0 hT hR cont
  | 11, _ =>
    refine tl_tab 11 810 C0 dL_law_44 (by decide) (by decide) rfl (by decide) ?_
    exact law_case_11 hl hp.2.2.2.2.2.2.2.2.2.2.2.1 hX hbl hbA ⟨hi, hL⟩ hE hTh hF hcs C0 hT hR cont
  | 12, _ =>
    refine tl_tab 12 873 C0 dL_law_44 (by decide) (by decide) rfl (by decide) ?_
    exact law_case_12 hl hp.2.2.2.2.2.2.2.2.2.2.2.2.1 hX hbl hbA ⟨hi, hL⟩ hE hTh hF hcs C0 hT hR cont
  | 13, _ =>
    refine tl_tab 13 941 C0 dL_law_44 (by decide) (by decide) rfl (by decide) ?_
    exact law_case_13 hl hp.2.2.2.2.2.2.2.2.2.2.2.2.2.1 hX hbl hbA ⟨hi, hL⟩ hE hTh hF hcs C0 hT hR cont
  | 14, _ =>
    refine tl_tab 14 997 C0 dL_law_44 (by decide) (by decide) rfl (by decide) ?_
    exact law_case_14 hl hp.2.2.2.2.2.2.2.2.2.2.2.2.2.2.1 hX hbl hbA ⟨hi, hL⟩ hE hTh hF hcs C0 hT hR cont
  | 15, _ =>
    refine tl_tab 15 1010 C0 dL_law_44 (by decide) (by decide) rfl (by decide) ?_
    exact law_case_15 hl hp.2.2.2.2.2.2.2.2.2.2.2.2.2.2.2.1 hX hbl hbA ⟨hi, hL⟩ hE hTh hF hcs C0 hT hR cont
  | 16, _ =>
    refine tl_tab 16 1023 C0 dL_law_44 (by decide) (by decide) rfl (by decide) ?_
    exact law_case_16 hl hp.2.2.2.2.2.2.2.2.2.2.2.2.2.2.2.2.1 hX hbl hbA ⟨hi, hL⟩ hE hTh hF hcs C0 hT hR cont
  | 17, _ =>
    refine tl_tab 17 1091 C0 dL_law_44 (by decide) (by decide) rfl (by decide) ?_
    exact law_case_17 hl hp.2.2.2.2.2.2.2.2.2.2.2.2.2.2.2.2.2.1 hX hbl hbA ⟨hi, hL⟩ hE hTh hF hcs C0 hT hR cont
  | 18, _ =>
    refine tl_tab 18 1159 C0 dL_law_44 (by decide) (by decide) rfl (by decide) ?_
    exact law_case_18 hl hp.2.2.2.2.2.2.2.2.2.2.2.2.2.2.2.2.2.2.1 hX hbl hbA ⟨hi, hL⟩ hE hTh hF hcs C0 hT hR cont
  | 19, _ =>
    refine tl_tab 19 1215 C0 dL_law_44 (by decide) (by decide) rfl (by decide) ?_
    exact law_case_19 hl hp.2.2.2.2.2.2.2.2.2.2.2.2.2.2.2.2.2.2.2.1 hX hbl hbA ⟨hi, hL⟩ hE hTh hF hcs C0 hT hR cont
  | 0, hj => exact absurd hj.1 (by decide)
  | 1, hj => exact absurd hj.1 (by decide)
  | 2, hj => exact absurd hj.1 (by decide)
  | 3, hj => exact absurd hj.1 (by decide)
  | 4, hj => exact absurd hj.1 (by decide)
  | 5, hj => exact absurd hj.1 (by decide)
  | 6, hj => exact absurd hj.1 (by decide)
  | 7, hj => exact absurd hj.1 (by decide)
  | 8, hj => exact absurd hj.1 (by decide)
  | 9, hj => exact absurd hj.1 (by decide)
  | _ + 20, hj => exact absurd hj.2 (by omega)
set_option maxRecDepth 100000 in
theorem law_sw2 {p : Program} {l : Launch} {e : Env} {s : State} {m : MethodId} {below : List Frame} {meth : Method} {c : Code} {D : va_G} {cy : Nat → ClassId} {ad ar : Nat → Nat} {o1 o2 : Nat} {cL cD : ClassId} {adK adV adE : Nat → Nat} {tC : Nat} {cells slots b i L : Nat} {xs : Nat → Int32} {Rel Rel2 : tmM → List Int32 → tmM → Prop} (hl : l.stackTraces = false) (hp : tP_all Rel Rel2) (hX : va_X b L xs s s.heap) (hbl : b < s.heap.size) (hL : L ≤ 2560) (hE : tmSc adK adV adE tC (fun q : Nat => s.heap.size ≤ q) s s.heap) (hTh : tmTh (fun q : Nat => s.heap.size ≤ q) s s.heap) (hF : tlF D cy cL cD s) (hi : i + 5 ≤ L) (hcs : cells + 64 ≤ 601024 ∧ slots + 8000 ≤ 7293034) {κ b0 : Nat} {u v w : tmM} {bs : List Int32} {xo : Int64} {xd : UInt64} (C0 : tmC p s m #[Value.ref b] meth c cL_law 10 ret RL TMW tm_NWC D cy tm_s0 tm_a0 0 (tlW cy ad ar o1 o2 cL cD κ b0 u v w xo xd) (fun q : Nat => s.heap.size ≤ q)) (hT : tmTx κ u bs) (hR : Rel v bs w) (cont : ∀ (κ b0 : Nat) (u v w : tmM) (bs : List Int32) (xo : Int64) (xd : UInt64), tmC p s m #[Value.ref b] meth c cL_law 10 ret RL TMW tm_NWC D cy tm_s0 tm_a0 0 (tlW cy ad ar o1 o2 cL cD κ b0 u v w xo xd) (fun q : Nat => s.heap.size ≤ q) → tmTx κ u bs → Rel2 v bs w → tmG p l e room_1 s m #[Value.ref b] below meth c (cells + 64) (slots + 8000) (lw_Z below #[Value.ref b] s) 10 D cy tm_s0 tm_a0 0 (tlW cy ad ar o1 o2 cL cD κ b0 u v w xo xd) (fun q : Nat => s.heap.size ≤ q) () 2790 [(0, .ref b), (1, .ref (ad 247)), (2, .ref (ar 0)), (3, .ref o1), (4, .ref o2), (5, .int (nI i))] [] tm_v0 (some ())) (j : Nat) (hj : 20 ≤ j ∧ j < 30) : tmG p l e room_1 s m #[Value.ref b] below meth c (cells) (slots) (lw_Z below #[Value.ref b] s) 10 D cy tm_s0 tm_a0 0 (tlW cy ad ar o1 o2 cL cD κ b0 u v w xo xd) (fun q : Nat => s.heap.size ≤ q) () 44 [(0, .ref b), (1, .ref (ad 247)), (2, .ref (ar 0)), (3, .ref o1), (4, .ref o2), (5, .int (nI i))] [.int (nI j)] tm_v0 (some ()) := by
  have hbA : ¬ (fun q : Nat => s.heap.size ≤ q) b := Nat.not_le.mpr hbl
  match j, hj with
  | 20, _ =>
    refine tl_tab 20 1283 C0 dL_law_44 (by decide) (by decide) rfl (by decide) ?_
    exact law_case_20 hl hp.2.2.2.2.2.2.2.2.2.2.2.2.2.2.2.2.2.2.2.2.1 hX hbl hbA ⟨hi, hL⟩ hE hTh hF hcs C0 hT hR cont
  | 21, _ =>
    refine tl_tab 21 1339 C0 dL_law_44 (by decide) (by decide) rfl (by decide) ?_
    exact law_case_21 hl hp.2.2.2.2.2.2.2.2.2.2.2.2.2.2.2.2.2.2.2.2.2.1 hX hbl hbA ⟨hi, hL⟩ hE hTh hF hcs C0 hT hR cont
  | 22, _ =>
    refine tl_tab 22 1352 C0 dL_law_44 (by decide) (by decide) rfl (by decide) ?_
    exact law_case_22 hl hp.2.2.2.2.2.2.2.2.2.2.2.2.2.2.2.2.2.2.2.2.2.2.1 hX hbl hbA ⟨hi, hL⟩ hE hTh hF hcs C0 hT hR cont
  | 23, _ =>
    refine tl_tab 23 1408 C0 dL_law_44 (by decide) (by decide) rfl (by decide) ?_
    exact law_case_23 hl hp.2.2.2.2.2.2.2.2.2.2.2.2.2.2.2.2.2.2.2.2.2.2.2.1 hX hbl hbA ⟨hi, hL⟩ hE hTh hF hcs C0 hT hR cont
  | 24, _ =>
    refine tl_tab 24 1464 C0 dL_law_44 (by decide) (by decide) rfl (by decide) ?_
    exact law_case_24 hl hp.2.2.2.2.2.2.2.2.2.2.2.2.2.2.2.2.2.2.2.2.2.2.2.2.1 hX hbl hbA ⟨hi, hL⟩ hE hTh hF hcs C0 hT hR cont
  | 25, _ =>
    refine tl_tab 25 1520 C0 dL_law_44 (by decide) (by decide) rfl (by decide) ?_
    exact law_case_25 hl hp.2.2.2.2.2.2.2.2.2.2.2.2.2.2.2.2.2.2.2.2.2.2.2.2.2.1 hX hbl hbA ⟨hi, hL⟩ hE hTh hF hcs C0 hT hR cont
  | 26, _ =>
    refine tl_tab 26 1576 C0 dL_law_44 (by decide) (by decide) rfl (by decide) ?_
    exact law_case_26 hl hp.2.2.2.2.2.2.2.2.2.2.2.2.2.2.2.2.2.2.2.2.2.2.2.2.2.2.1 hX hbl hbA ⟨hi, hL⟩ hE hTh hF hcs C0 hT hR cont
  | 27, _ =>
    refine tl_tab 27 1632 C0 dL_law_44 (by decide) (by decide) rfl (by decide) ?_
    exact law_case_27 hl hp.2.2.2.2.2.2.2.2.2.2.2.2.2.2.2.2.2.2.2.2.2.2.2.2.2.2.2.1 hX hbl hbA ⟨hi, hL⟩ hE hTh hF hcs C0 hT hR cont
  | 28, _ =>
    refine tl_tab 28 1645 C0 dL_law_44 (by decide) (by decide) rfl (by decide) ?_
    exact law_case_28 hl hp.2.2.2.2.2.2.2.2.2.2.2.2.2.2.2.2.2.2.2.2.2.2.2.2.2.2.2.2.1 hX hbl hbA ⟨hi, hL⟩ hE hTh hF hcs C0 hT hR cont
  | 29, _ =>
    refine tl_tab 29 1686 C0 dL_law_44 (by decide) (by decide) rfl (by decide) ?_
    exact law_case_29 hl hp.2.2.2.2.2.2.2.2.2.2.2.2.2.2.2.2.2.2.2.2.2.2.2.2.2.2.2.2.2.1 hX hbl hbA ⟨hi, hL⟩ hE hTh hF hcs C0 hT hR cont
  | 0, hj => exact absurd hj.1 (by decide)
  | 1, hj => exact absurd hj.1 (by decide)
  | 2, hj => exact absurd hj.1 (by decide)
  | 3, hj => exact absurd hj.1 (by decide)
  | 4, hj => exact absurd hj.1 (by decide)
  | 5, hj => exact absurd hj.1 (by decide)
  | 6, hj => exact absurd hj.1 (by decide)
  | 7, hj => exact absurd hj.1 (by decide)
  | 8, hj => exact absurd hj.1 (by decide)
  | 9, hj => exact absurd hj.1 (by decide)
  | 10, hj => exact absurd hj.1 (by decide)
  | 11, hj => exact absurd hj.1 (by decide)
  | 12, hj => exact absurd hj.1 (by decide)
  | 13, hj => exact absurd hj.1 (by decide)
  | 14, hj => exact absurd hj.1 (by decide)
  | 15, hj => exact absurd hj.1 (by decide)
  | 16, hj => exact absurd hj.1 (by decide)
  | 17, hj => exact absurd hj.1 (by decide)
  | 18, hj => exact absurd hj.1 (by decide)
  | 19, hj => exact absurd hj.1 (by decide)
  | _ + 30, hj => exact absurd hj.2 (by omega)
set_option maxRecDepth 100000 in
theorem law_sw3 {p : Program} {l : Launch} {e : Env} {s : State} {m : MethodId} {below : List Frame} {meth : Method} {c : Code} {D : va_G} {cy : Nat → ClassId} {ad ar : Nat → Nat} {o1 o2 : Nat} {cL cD : ClassId} {adK adV adE : Nat → Nat} {tC : Nat} {cells slots b i L : Nat} {xs : Nat → Int32} {Rel Rel2 : tmM → List Int32 → tmM → Prop} (hl : l.stackTraces = false) (hp : tP_all Rel Rel2) (hX : va_X b L xs s s.heap) (hbl : b < s.heap.size) (hL : L ≤ 2560) (hE : tmSc adK adV adE tC (fun q : Nat => s.heap.size ≤ q) s s.heap) (hTh : tmTh (fun q : Nat => s.heap.size ≤ q) s s.heap) (hF : tlF D cy cL cD s) (hi : i + 5 ≤ L) (hcs : cells + 64 ≤ 601024 ∧ slots + 8000 ≤ 7293034) {κ b0 : Nat} {u v w : tmM} {bs : List Int32} {xo : Int64} {xd : UInt64} (C0 : tmC p s m #[Value.ref b] meth c cL_law 10 ret RL TMW tm_NWC D cy tm_s0 tm_a0 0 (tlW cy ad ar o1 o2 cL cD κ b0 u v w xo xd) (fun q : Nat => s.heap.size ≤ q)) (hT : tmTx κ u bs) (hR : Rel v bs w) (cont : ∀ (κ b0 : Nat) (u v w : tmM) (bs : List Int32) (xo : Int64) (xd : UInt64), tmC p s m #[Value.ref b] meth c cL_law 10 ret RL TMW tm_NWC D cy tm_s0 tm_a0 0 (tlW cy ad ar o1 o2 cL cD κ b0 u v w xo xd) (fun q : Nat => s.heap.size ≤ q) → tmTx κ u bs → Rel2 v bs w → tmG p l e room_1 s m #[Value.ref b] below meth c (cells + 64) (slots + 8000) (lw_Z below #[Value.ref b] s) 10 D cy tm_s0 tm_a0 0 (tlW cy ad ar o1 o2 cL cD κ b0 u v w xo xd) (fun q : Nat => s.heap.size ≤ q) () 2790 [(0, .ref b), (1, .ref (ad 247)), (2, .ref (ar 0)), (3, .ref o1), (4, .ref o2), (5, .int (nI i))] [] tm_v0 (some ())) (j : Nat) (hj : 30 ≤ j ∧ j < 40) : tmG p l e room_1 s m #[Value.ref b] below meth c (cells) (slots) (lw_Z below #[Value.ref b] s) 10 D cy tm_s0 tm_a0 0 (tlW cy ad ar o1 o2 cL cD κ b0 u v w xo xd) (fun q : Nat => s.heap.size ≤ q) () 44 [(0, .ref b), (1, .ref (ad 247)), (2, .ref (ar 0)), (3, .ref o1), (4, .ref o2), (5, .int (nI i))] [.int (nI j)] tm_v0 (some ()) := by
  have hbA : ¬ (fun q : Nat => s.heap.size ≤ q) b := Nat.not_le.mpr hbl
  match j, hj with
  | 30, _ =>
    refine tl_tab 30 1699 C0 dL_law_44 (by decide) (by decide) rfl (by decide) ?_
    exact law_case_30 hl hp.2.2.2.2.2.2.2.2.2.2.2.2.2.2.2.2.2.2.2.2.2.2.2.2.2.2.2.2.2.2.1 hX hbl hbA ⟨hi, hL⟩ hE hTh hF hcs C0 hT hR cont
  | 31, _ =>
    refine tl_tab 31 1712 C0 dL_law_44 (by decide) (by decide) rfl (by decide) ?_
    exact law_case_31 hl hp.2.2.2.2.2.2.2.2.2.2.2.2.2.2.2.2.2.2.2.2.2.2.2.2.2.2.2.2.2.2.2.1 hX hbl hbA ⟨hi, hL⟩ hE hTh hF hcs C0 hT hR cont
  | 32, _ =>
    refine tl_tab 32 1804 C0 dL_law_44 (by decide) (by decide) rfl (by decide) ?_
    exact law_case_32 hl hp.2.2.2.2.2.2.2.2.2.2.2.2.2.2.2.2.2.2.2.2.2.2.2.2.2.2.2.2.2.2.2.2.1 hX hbl hbA ⟨hi, hL⟩ hE hTh hF hcs C0 hT hR cont
  | 33, _ =>
    refine tl_tab 33 1872 C0 dL_law_44 (by decide) (by decide) rfl (by decide) ?_
    exact law_case_33 hl hp.2.2.2.2.2.2.2.2.2.2.2.2.2.2.2.2.2.2.2.2.2.2.2.2.2.2.2.2.2.2.2.2.2.1 hX hbl hbA ⟨hi, hL⟩ hE hTh hF hcs C0 hT hR cont
  | 34, _ =>
    refine tl_tab 34 1940 C0 dL_law_44 (by decide) (by decide) rfl (by decide) ?_
    exact law_case_34 hl hp.2.2.2.2.2.2.2.2.2.2.2.2.2.2.2.2.2.2.2.2.2.2.2.2.2.2.2.2.2.2.2.2.2.2.1 hX hbl hbA ⟨hi, hL⟩ hE hTh hF hcs C0 hT hR cont
  | 35, _ =>
    refine tl_tab 35 1996 C0 dL_law_44 (by decide) (by decide) rfl (by decide) ?_
    exact law_case_35 hl hp.2.2.2.2.2.2.2.2.2.2.2.2.2.2.2.2.2.2.2.2.2.2.2.2.2.2.2.2.2.2.2.2.2.2.2.1 hX hbl hbA ⟨hi, hL⟩ hE hTh hF hcs C0 hT hR cont
  | 36, _ =>
    refine tl_tab 36 2052 C0 dL_law_44 (by decide) (by decide) rfl (by decide) ?_
    exact law_case_36 hl hp.2.2.2.2.2.2.2.2.2.2.2.2.2.2.2.2.2.2.2.2.2.2.2.2.2.2.2.2.2.2.2.2.2.2.2.2.1 hX hbl hbA ⟨hi, hL⟩ hE hTh hF hcs C0 hT hR cont
  | 37, _ =>
    refine tl_tab 37 2108 C0 dL_law_44 (by decide) (by decide) rfl (by decide) ?_
    exact law_case_37 hl hp.2.2.2.2.2.2.2.2.2.2.2.2.2.2.2.2.2.2.2.2.2.2.2.2.2.2.2.2.2.2.2.2.2.2.2.2.2.1 hX hbl hbA ⟨hi, hL⟩ hE hTh hF hcs C0 hT hR cont
  | 38, _ =>
    refine tl_tab 38 2176 C0 dL_law_44 (by decide) (by decide) rfl (by decide) ?_
    exact law_case_38 hl hp.2.2.2.2.2.2.2.2.2.2.2.2.2.2.2.2.2.2.2.2.2.2.2.2.2.2.2.2.2.2.2.2.2.2.2.2.2.2.1 hX hbl hbA ⟨hi, hL⟩ hE hTh hF hcs C0 hT hR cont
  | 39, _ =>
    refine tl_tab 39 2244 C0 dL_law_44 (by decide) (by decide) rfl (by decide) ?_
    exact law_case_39 hl hp.2.2.2.2.2.2.2.2.2.2.2.2.2.2.2.2.2.2.2.2.2.2.2.2.2.2.2.2.2.2.2.2.2.2.2.2.2.2.2.1 hX hbl hbA ⟨hi, hL⟩ hE hTh hF hcs C0 hT hR cont
  | 0, hj => exact absurd hj.1 (by decide)
  | 1, hj => exact absurd hj.1 (by decide)
  | 2, hj => exact absurd hj.1 (by decide)
  | 3, hj => exact absurd hj.1 (by decide)
  | 4, hj => exact absurd hj.1 (by decide)
  | 5, hj => exact absurd hj.1 (by decide)
  | 6, hj => exact absurd hj.1 (by decide)
  | 7, hj => exact absurd hj.1 (by decide)
  | 8, hj => exact absurd hj.1 (by decide)
  | 9, hj => exact absurd hj.1 (by decide)
  | 10, hj => exact absurd hj.1 (by decide)
  | 11, hj => exact absurd hj.1 (by decide)
  | 12, hj => exact absurd hj.1 (by decide)
  | 13, hj => exact absurd hj.1 (by decide)
  | 14, hj => exact absurd hj.1 (by decide)
  | 15, hj => exact absurd hj.1 (by decide)
  | 16, hj => exact absurd hj.1 (by decide)
  | 17, hj => exact absurd hj.1 (by decide)
  | 18, hj => exact absurd hj.1 (by decide)
  | 19, hj => exact absurd hj.1 (by decide)
  | 20, hj => exact absurd hj.1 (by decide)
  | 21, hj => exact absurd hj.1 (by decide)
  | 22, hj => exact absurd hj.1 (by decide)
  | 23, hj => exact absurd hj.1 (by decide)
  | 24, hj => exact absurd hj.1 (by decide)
  | 25, hj => exact absurd hj.1 (by decide)
  | 26, hj => exact absurd hj.1 (by decide)
  | 27, hj => exact absurd hj.1 (by decide)
  | 28, hj => exact absurd hj.1 (by decide)
  | 29, hj => exact absurd hj.1 (by decide)
  | _ + 40, hj => exact absurd hj.2 (by omega)
set_option maxRecDepth 100000 in
theorem law_sw4 {p : Program} {l : Launch} {e : Env} {s : State} {m : MethodId} {below : List Frame} {meth : Method} {c : Code} {D : va_G} {cy : Nat → ClassId} {ad ar : Nat → Nat} {o1 o2 : Nat} {cL cD : ClassId} {adK adV adE : Nat → Nat} {tC : Nat} {cells slots b i L : Nat} {xs : Nat → Int32} {Rel Rel2 : tmM → List Int32 → tmM → Prop} (hl : l.stackTraces = false) (hp : tP_all Rel Rel2) (hX : va_X b L xs s s.heap) (hbl : b < s.heap.size) (hL : L ≤ 2560) (hE : tmSc adK adV adE tC (fun q : Nat => s.heap.size ≤ q) s s.heap) (hTh : tmTh (fun q : Nat => s.heap.size ≤ q) s s.heap) (hF : tlF D cy cL cD s) (hi : i + 5 ≤ L) (hcs : cells + 64 ≤ 601024 ∧ slots + 8000 ≤ 7293034) {κ b0 : Nat} {u v w : tmM} {bs : List Int32} {xo : Int64} {xd : UInt64} (C0 : tmC p s m #[Value.ref b] meth c cL_law 10 ret RL TMW tm_NWC D cy tm_s0 tm_a0 0 (tlW cy ad ar o1 o2 cL cD κ b0 u v w xo xd) (fun q : Nat => s.heap.size ≤ q)) (hT : tmTx κ u bs) (hR : Rel v bs w) (cont : ∀ (κ b0 : Nat) (u v w : tmM) (bs : List Int32) (xo : Int64) (xd : UInt64), tmC p s m #[Value.ref b] meth c cL_law 10 ret RL TMW tm_NWC D cy tm_s0 tm_a0 0 (tlW cy ad ar o1 o2 cL cD κ b0 u v w xo xd) (fun q : Nat => s.heap.size ≤ q) → tmTx κ u bs → Rel2 v bs w → tmG p l e room_1 s m #[Value.ref b] below meth c (cells + 64) (slots + 8000) (lw_Z below #[Value.ref b] s) 10 D cy tm_s0 tm_a0 0 (tlW cy ad ar o1 o2 cL cD κ b0 u v w xo xd) (fun q : Nat => s.heap.size ≤ q) () 2790 [(0, .ref b), (1, .ref (ad 247)), (2, .ref (ar 0)), (3, .ref o1), (4, .ref o2), (5, .int (nI i))] [] tm_v0 (some ())) (j : Nat) (hj : 40 ≤ j ∧ j < 50) : tmG p l e room_1 s m #[Value.ref b] below meth c (cells) (slots) (lw_Z below #[Value.ref b] s) 10 D cy tm_s0 tm_a0 0 (tlW cy ad ar o1 o2 cL cD κ b0 u v w xo xd) (fun q : Nat => s.heap.size ≤ q) () 44 [(0, .ref b), (1, .ref (ad 247)), (2, .ref (ar 0)), (3, .ref o1), (4, .ref o2), (5, .int (nI i))] [.int (nI j)] tm_v0 (some ()) := by
  have hbA : ¬ (fun q : Nat => s.heap.size ≤ q) b := Nat.not_le.mpr hbl
  match j, hj with
  | 40, _ =>
    refine tl_tab 40 2321 C0 dL_law_44 (by decide) (by decide) rfl (by decide) ?_
    exact law_case_40 hl hp.2.2.2.2.2.2.2.2.2.2.2.2.2.2.2.2.2.2.2.2.2.2.2.2.2.2.2.2.2.2.2.2.2.2.2.2.2.2.2.2.1 hX hbl hbA ⟨hi, hL⟩ hE hTh hF hcs C0 hT hR cont
  | 41, _ =>
    refine tl_tab 41 2364 C0 dL_law_44 (by decide) (by decide) rfl (by decide) ?_
    exact law_case_41 hl hp.2.2.2.2.2.2.2.2.2.2.2.2.2.2.2.2.2.2.2.2.2.2.2.2.2.2.2.2.2.2.2.2.2.2.2.2.2.2.2.2.2.1 hX hbl hbA ⟨hi, hL⟩ hE hTh hF hcs C0 hT hR cont
  | 42, _ =>
    refine tl_tab 42 2444 C0 dL_law_44 (by decide) (by decide) rfl (by decide) ?_
    exact law_case_42 hl hp.2.2.2.2.2.2.2.2.2.2.2.2.2.2.2.2.2.2.2.2.2.2.2.2.2.2.2.2.2.2.2.2.2.2.2.2.2.2.2.2.2.2.1 hX hbl hbA ⟨hi, hL⟩ hE hTh hF hcs C0 hT hR cont
  | 43, _ =>
    refine tl_tab 43 2500 C0 dL_law_44 (by decide) (by decide) rfl (by decide) ?_
    exact law_case_43 hl hp.2.2.2.2.2.2.2.2.2.2.2.2.2.2.2.2.2.2.2.2.2.2.2.2.2.2.2.2.2.2.2.2.2.2.2.2.2.2.2.2.2.2.2.1 hX hbl hbA ⟨hi, hL⟩ hE hTh hF hcs C0 hT hR cont
  | 44, _ =>
    refine tl_tab 44 2556 C0 dL_law_44 (by decide) (by decide) rfl (by decide) ?_
    exact law_case_44 hl hp.2.2.2.2.2.2.2.2.2.2.2.2.2.2.2.2.2.2.2.2.2.2.2.2.2.2.2.2.2.2.2.2.2.2.2.2.2.2.2.2.2.2.2.2.1 hX hbl hbA ⟨hi, hL⟩ hE hTh hF hcs C0 hT hR cont
  | 45, _ =>
    refine tl_tab 45 2624 C0 dL_law_44 (by decide) (by decide) rfl (by decide) ?_
    exact law_case_45 hl hp.2.2.2.2.2.2.2.2.2.2.2.2.2.2.2.2.2.2.2.2.2.2.2.2.2.2.2.2.2.2.2.2.2.2.2.2.2.2.2.2.2.2.2.2.2.1 hX hbl hbA ⟨hi, hL⟩ hE hTh hF hcs C0 hT hR cont
  | 46, _ =>
    refine tl_tab 46 2680 C0 dL_law_44 (by decide) (by decide) rfl (by decide) ?_
    exact law_case_46 hl hp.2.2.2.2.2.2.2.2.2.2.2.2.2.2.2.2.2.2.2.2.2.2.2.2.2.2.2.2.2.2.2.2.2.2.2.2.2.2.2.2.2.2.2.2.2.2.1 hX hbl hbA ⟨hi, hL⟩ hE hTh hF hcs C0 hT hR cont
  | 47, _ =>
    refine tl_tab 47 2705 C0 dL_law_44 (by decide) (by decide) rfl (by decide) ?_
    exact law_case_47 hl hp.2.2.2.2.2.2.2.2.2.2.2.2.2.2.2.2.2.2.2.2.2.2.2.2.2.2.2.2.2.2.2.2.2.2.2.2.2.2.2.2.2.2.2.2.2.2.2.1 hX hbl hbA ⟨hi, hL⟩ hE hTh hF hcs C0 hT hR cont
  | 48, _ =>
    refine tl_tab 48 2718 C0 dL_law_44 (by decide) (by decide) rfl (by decide) ?_
    exact law_case_48 hl hp.2.2.2.2.2.2.2.2.2.2.2.2.2.2.2.2.2.2.2.2.2.2.2.2.2.2.2.2.2.2.2.2.2.2.2.2.2.2.2.2.2.2.2.2.2.2.2.2.1 hX hbl hbA ⟨hi, hL⟩ hE hTh hF hcs C0 hT hR cont
  | 49, _ =>
    refine tl_tab 49 2754 C0 dL_law_44 (by decide) (by decide) rfl (by decide) ?_
    exact law_case_49 hl hp.2.2.2.2.2.2.2.2.2.2.2.2.2.2.2.2.2.2.2.2.2.2.2.2.2.2.2.2.2.2.2.2.2.2.2.2.2.2.2.2.2.2.2.2.2.2.2.2.2.1 hX hbl hbA ⟨hi, hL⟩ hE hTh hF hcs C0 hT hR cont
  | 0, hj => exact absurd hj.1 (by decide)
  | 1, hj => exact absurd hj.1 (by decide)
  | 2, hj => exact absurd hj.1 (by decide)
  | 3, hj => exact absurd hj.1 (by decide)
  | 4, hj => exact absurd hj.1 (by decide)
  | 5, hj => exact absurd hj.1 (by decide)
  | 6, hj => exact absurd hj.1 (by decide)
  | 7, hj => exact absurd hj.1 (by decide)
  | 8, hj => exact absurd hj.1 (by decide)
  | 9, hj => exact absurd hj.1 (by decide)
  | 10, hj => exact absurd hj.1 (by decide)
  | 11, hj => exact absurd hj.1 (by decide)
  | 12, hj => exact absurd hj.1 (by decide)
  | 13, hj => exact absurd hj.1 (by decide)
  | 14, hj => exact absurd hj.1 (by decide)
  | 15, hj => exact absurd hj.1 (by decide)
  | 16, hj => exact absurd hj.1 (by decide)
  | 17, hj => exact absurd hj.1 (by decide)
  | 18, hj => exact absurd hj.1 (by decide)
  | 19, hj => exact absurd hj.1 (by decide)
  | 20, hj => exact absurd hj.1 (by decide)
  | 21, hj => exact absurd hj.1 (by decide)
  | 22, hj => exact absurd hj.1 (by decide)
  | 23, hj => exact absurd hj.1 (by decide)
  | 24, hj => exact absurd hj.1 (by decide)
  | 25, hj => exact absurd hj.1 (by decide)
  | 26, hj => exact absurd hj.1 (by decide)
  | 27, hj => exact absurd hj.1 (by decide)
  | 28, hj => exact absurd hj.1 (by decide)
  | 29, hj => exact absurd hj.1 (by decide)
  | 30, hj => exact absurd hj.1 (by decide)
  | 31, hj => exact absurd hj.1 (by decide)
  | 32, hj => exact absurd hj.1 (by decide)
  | 33, hj => exact absurd hj.1 (by decide)
  | 34, hj => exact absurd hj.1 (by decide)
  | 35, hj => exact absurd hj.1 (by decide)
  | 36, hj => exact absurd hj.1 (by decide)
  | 37, hj => exact absurd hj.1 (by decide)
  | 38, hj => exact absurd hj.1 (by decide)
  | 39, hj => exact absurd hj.1 (by decide)
  | _ + 50, hj => exact absurd hj.2 (by omega)
set_option maxRecDepth 100000 in
theorem law_sw5 {p : Program} {l : Launch} {e : Env} {s : State} {m : MethodId} {below : List Frame} {meth : Method} {c : Code} {D : va_G} {cy : Nat → ClassId} {ad ar : Nat → Nat} {o1 o2 : Nat} {cL cD : ClassId} {adK adV adE : Nat → Nat} {tC : Nat} {cells slots b i L : Nat} {xs : Nat → Int32} {Rel Rel2 : tmM → List Int32 → tmM → Prop} (hl : l.stackTraces = false) (hp : tP_all Rel Rel2) (hX : va_X b L xs s s.heap) (hbl : b < s.heap.size) (hL : L ≤ 2560) (hE : tmSc adK adV adE tC (fun q : Nat => s.heap.size ≤ q) s s.heap) (hTh : tmTh (fun q : Nat => s.heap.size ≤ q) s s.heap) (hF : tlF D cy cL cD s) (hi : i + 5 ≤ L) (hcs : cells + 64 ≤ 601024 ∧ slots + 8000 ≤ 7293034) {κ b0 : Nat} {u v w : tmM} {bs : List Int32} {xo : Int64} {xd : UInt64} (C0 : tmC p s m #[Value.ref b] meth c cL_law 10 ret RL TMW tm_NWC D cy tm_s0 tm_a0 0 (tlW cy ad ar o1 o2 cL cD κ b0 u v w xo xd) (fun q : Nat => s.heap.size ≤ q)) (hT : tmTx κ u bs) (hR : Rel v bs w) (cont : ∀ (κ b0 : Nat) (u v w : tmM) (bs : List Int32) (xo : Int64) (xd : UInt64), tmC p s m #[Value.ref b] meth c cL_law 10 ret RL TMW tm_NWC D cy tm_s0 tm_a0 0 (tlW cy ad ar o1 o2 cL cD κ b0 u v w xo xd) (fun q : Nat => s.heap.size ≤ q) → tmTx κ u bs → Rel2 v bs w → tmG p l e room_1 s m #[Value.ref b] below meth c (cells + 64) (slots + 8000) (lw_Z below #[Value.ref b] s) 10 D cy tm_s0 tm_a0 0 (tlW cy ad ar o1 o2 cL cD κ b0 u v w xo xd) (fun q : Nat => s.heap.size ≤ q) () 2790 [(0, .ref b), (1, .ref (ad 247)), (2, .ref (ar 0)), (3, .ref o1), (4, .ref o2), (5, .int (nI i))] [] tm_v0 (some ())) (j : Nat) (hj : 50 ≤ j ∧ j < 64) : tmG p l e room_1 s m #[Value.ref b] below meth c (cells) (slots) (lw_Z below #[Value.ref b] s) 10 D cy tm_s0 tm_a0 0 (tlW cy ad ar o1 o2 cL cD κ b0 u v w xo xd) (fun q : Nat => s.heap.size ≤ q) () 44 [(0, .ref b), (1, .ref (ad 247)), (2, .ref (ar 0)), (3, .ref o1), (4, .ref o2), (5, .int (nI i))] [.int (nI j)] tm_v0 (some ()) := by
  have hbA : ¬ (fun q : Nat => s.heap.size ≤ q) b := Nat.not_le.mpr hbl
  match j, hj with
  | 50, _ =>
    refine tl_tabO 2790 C0 dL_law_44 (Or.inr (by decide)) (by decide) ?_
    exact tl_widen (by omega) (by omega) (cont _ _ _ _ _ _ _ _ C0 hT (hp.2.2.2.2.2.2.2.2.2.2.2.2.2.2.2.2.2.2.2.2.2.2.2.2.2.2.2.2.2.2.2.2.2.2.2.2.2.2.2.2.2.2.2.2.2.2.2.2.2.2 _ _ _ hR))
  | 51, _ =>
    refine tl_tabO 2790 C0 dL_law_44 (Or.inr (by decide)) (by decide) ?_
    exact tl_widen (by omega) (by omega) (cont _ _ _ _ _ _ _ _ C0 hT (hp.2.2.2.2.2.2.2.2.2.2.2.2.2.2.2.2.2.2.2.2.2.2.2.2.2.2.2.2.2.2.2.2.2.2.2.2.2.2.2.2.2.2.2.2.2.2.2.2.2.2 _ _ _ hR))
  | 52, _ =>
    refine tl_tabO 2790 C0 dL_law_44 (Or.inr (by decide)) (by decide) ?_
    exact tl_widen (by omega) (by omega) (cont _ _ _ _ _ _ _ _ C0 hT (hp.2.2.2.2.2.2.2.2.2.2.2.2.2.2.2.2.2.2.2.2.2.2.2.2.2.2.2.2.2.2.2.2.2.2.2.2.2.2.2.2.2.2.2.2.2.2.2.2.2.2 _ _ _ hR))
  | 53, _ =>
    refine tl_tabO 2790 C0 dL_law_44 (Or.inr (by decide)) (by decide) ?_
    exact tl_widen (by omega) (by omega) (cont _ _ _ _ _ _ _ _ C0 hT (hp.2.2.2.2.2.2.2.2.2.2.2.2.2.2.2.2.2.2.2.2.2.2.2.2.2.2.2.2.2.2.2.2.2.2.2.2.2.2.2.2.2.2.2.2.2.2.2.2.2.2 _ _ _ hR))
  | 54, _ =>
    refine tl_tabO 2790 C0 dL_law_44 (Or.inr (by decide)) (by decide) ?_
    exact tl_widen (by omega) (by omega) (cont _ _ _ _ _ _ _ _ C0 hT (hp.2.2.2.2.2.2.2.2.2.2.2.2.2.2.2.2.2.2.2.2.2.2.2.2.2.2.2.2.2.2.2.2.2.2.2.2.2.2.2.2.2.2.2.2.2.2.2.2.2.2 _ _ _ hR))
  | 55, _ =>
    refine tl_tabO 2790 C0 dL_law_44 (Or.inr (by decide)) (by decide) ?_
    exact tl_widen (by omega) (by omega) (cont _ _ _ _ _ _ _ _ C0 hT (hp.2.2.2.2.2.2.2.2.2.2.2.2.2.2.2.2.2.2.2.2.2.2.2.2.2.2.2.2.2.2.2.2.2.2.2.2.2.2.2.2.2.2.2.2.2.2.2.2.2.2 _ _ _ hR))
  | 56, _ =>
    refine tl_tabO 2790 C0 dL_law_44 (Or.inr (by decide)) (by decide) ?_
    exact tl_widen (by omega) (by omega) (cont _ _ _ _ _ _ _ _ C0 hT (hp.2.2.2.2.2.2.2.2.2.2.2.2.2.2.2.2.2.2.2.2.2.2.2.2.2.2.2.2.2.2.2.2.2.2.2.2.2.2.2.2.2.2.2.2.2.2.2.2.2.2 _ _ _ hR))
  | 57, _ =>
    refine tl_tabO 2790 C0 dL_law_44 (Or.inr (by decide)) (by decide) ?_
    exact tl_widen (by omega) (by omega) (cont _ _ _ _ _ _ _ _ C0 hT (hp.2.2.2.2.2.2.2.2.2.2.2.2.2.2.2.2.2.2.2.2.2.2.2.2.2.2.2.2.2.2.2.2.2.2.2.2.2.2.2.2.2.2.2.2.2.2.2.2.2.2 _ _ _ hR))
  | 58, _ =>
    refine tl_tabO 2790 C0 dL_law_44 (Or.inr (by decide)) (by decide) ?_
    exact tl_widen (by omega) (by omega) (cont _ _ _ _ _ _ _ _ C0 hT (hp.2.2.2.2.2.2.2.2.2.2.2.2.2.2.2.2.2.2.2.2.2.2.2.2.2.2.2.2.2.2.2.2.2.2.2.2.2.2.2.2.2.2.2.2.2.2.2.2.2.2 _ _ _ hR))
  | 59, _ =>
    refine tl_tabO 2790 C0 dL_law_44 (Or.inr (by decide)) (by decide) ?_
    exact tl_widen (by omega) (by omega) (cont _ _ _ _ _ _ _ _ C0 hT (hp.2.2.2.2.2.2.2.2.2.2.2.2.2.2.2.2.2.2.2.2.2.2.2.2.2.2.2.2.2.2.2.2.2.2.2.2.2.2.2.2.2.2.2.2.2.2.2.2.2.2 _ _ _ hR))
  | 60, _ =>
    refine tl_tabO 2790 C0 dL_law_44 (Or.inr (by decide)) (by decide) ?_
    exact tl_widen (by omega) (by omega) (cont _ _ _ _ _ _ _ _ C0 hT (hp.2.2.2.2.2.2.2.2.2.2.2.2.2.2.2.2.2.2.2.2.2.2.2.2.2.2.2.2.2.2.2.2.2.2.2.2.2.2.2.2.2.2.2.2.2.2.2.2.2.2 _ _ _ hR))
  | 61, _ =>
    refine tl_tabO 2790 C0 dL_law_44 (Or.inr (by decide)) (by decide) ?_
    exact tl_widen (by omega) (by omega) (cont _ _ _ _ _ _ _ _ C0 hT (hp.2.2.2.2.2.2.2.2.2.2.2.2.2.2.2.2.2.2.2.2.2.2.2.2.2.2.2.2.2.2.2.2.2.2.2.2.2.2.2.2.2.2.2.2.2.2.2.2.2.2 _ _ _ hR))
  | 62, _ =>
    refine tl_tabO 2790 C0 dL_law_44 (Or.inr (by decide)) (by decide) ?_
    exact tl_widen (by omega) (by omega) (cont _ _ _ _ _ _ _ _ C0 hT (hp.2.2.2.2.2.2.2.2.2.2.2.2.2.2.2.2.2.2.2.2.2.2.2.2.2.2.2.2.2.2.2.2.2.2.2.2.2.2.2.2.2.2.2.2.2.2.2.2.2.2 _ _ _ hR))
  | 63, _ =>
    refine tl_tabO 2790 C0 dL_law_44 (Or.inr (by decide)) (by decide) ?_
    exact tl_widen (by omega) (by omega) (cont _ _ _ _ _ _ _ _ C0 hT (hp.2.2.2.2.2.2.2.2.2.2.2.2.2.2.2.2.2.2.2.2.2.2.2.2.2.2.2.2.2.2.2.2.2.2.2.2.2.2.2.2.2.2.2.2.2.2.2.2.2.2 _ _ _ hR))
  | 0, hj => exact absurd hj.1 (by decide)
  | 1, hj => exact absurd hj.1 (by decide)
  | 2, hj => exact absurd hj.1 (by decide)
  | 3, hj => exact absurd hj.1 (by decide)
  | 4, hj => exact absurd hj.1 (by decide)
  | 5, hj => exact absurd hj.1 (by decide)
  | 6, hj => exact absurd hj.1 (by decide)
  | 7, hj => exact absurd hj.1 (by decide)
  | 8, hj => exact absurd hj.1 (by decide)
  | 9, hj => exact absurd hj.1 (by decide)
  | 10, hj => exact absurd hj.1 (by decide)
  | 11, hj => exact absurd hj.1 (by decide)
  | 12, hj => exact absurd hj.1 (by decide)
  | 13, hj => exact absurd hj.1 (by decide)
  | 14, hj => exact absurd hj.1 (by decide)
  | 15, hj => exact absurd hj.1 (by decide)
  | 16, hj => exact absurd hj.1 (by decide)
  | 17, hj => exact absurd hj.1 (by decide)
  | 18, hj => exact absurd hj.1 (by decide)
  | 19, hj => exact absurd hj.1 (by decide)
  | 20, hj => exact absurd hj.1 (by decide)
  | 21, hj => exact absurd hj.1 (by decide)
  | 22, hj => exact absurd hj.1 (by decide)
  | 23, hj => exact absurd hj.1 (by decide)
  | 24, hj => exact absurd hj.1 (by decide)
  | 25, hj => exact absurd hj.1 (by decide)
  | 26, hj => exact absurd hj.1 (by decide)
  | 27, hj => exact absurd hj.1 (by decide)
  | 28, hj => exact absurd hj.1 (by decide)
  | 29, hj => exact absurd hj.1 (by decide)
  | 30, hj => exact absurd hj.1 (by decide)
  | 31, hj => exact absurd hj.1 (by decide)
  | 32, hj => exact absurd hj.1 (by decide)
  | 33, hj => exact absurd hj.1 (by decide)
  | 34, hj => exact absurd hj.1 (by decide)
  | 35, hj => exact absurd hj.1 (by decide)
  | 36, hj => exact absurd hj.1 (by decide)
  | 37, hj => exact absurd hj.1 (by decide)
  | 38, hj => exact absurd hj.1 (by decide)
  | 39, hj => exact absurd hj.1 (by decide)
  | 40, hj => exact absurd hj.1 (by decide)
  | 41, hj => exact absurd hj.1 (by decide)
  | 42, hj => exact absurd hj.1 (by decide)
  | 43, hj => exact absurd hj.1 (by decide)
  | 44, hj => exact absurd hj.1 (by decide)
  | 45, hj => exact absurd hj.1 (by decide)
  | 46, hj => exact absurd hj.1 (by decide)
  | 47, hj => exact absurd hj.1 (by decide)
  | 48, hj => exact absurd hj.1 (by decide)
  | 49, hj => exact absurd hj.1 (by decide)
  | _ + 64, hj => exact absurd hj.2 (by omega)
set_option maxRecDepth 100000 in
theorem law_body {p : Program} {l : Launch} {e : Env} {s : State} {m : MethodId} {below : List Frame} {meth : Method} {c : Code} {D : va_G} {cy : Nat → ClassId} {ad ar : Nat → Nat} {o1 o2 : Nat} {cL cD : ClassId} {adK adV adE : Nat → Nat} {tC : Nat} {cells slots b i L : Nat} {xs : Nat → Int32} {Rel Rel2 : tmM → List Int32 → tmM → Prop} (hl : l.stackTraces = false) (hp : tP_all Rel Rel2) (hX : va_X b L xs s s.heap) (hbl : b < s.heap.size) (hL : L ≤ 2560) (hE : tmSc adK adV adE tC (fun q : Nat => s.heap.size ≤ q) s s.heap) (hTh : tmTh (fun q : Nat => s.heap.size ≤ q) s s.heap) (hF : tlF D cy cL cD s) (hi : i + 5 ≤ L) (hcs : cells + 64 ≤ 601024 ∧ slots + 8000 ≤ 7293034) {κ b0 : Nat} {u v w : tmM} {bs : List Int32} {xo : Int64} {xd : UInt64} (C0 : tmC p s m #[Value.ref b] meth c cL_law 10 ret RL TMW tm_NWC D cy tm_s0 tm_a0 0 (tlW cy ad ar o1 o2 cL cD κ b0 u v w xo xd) (fun q : Nat => s.heap.size ≤ q)) (hT : tmTx κ u bs) (hR : Rel v bs w) (cont : ∀ (κ b0 : Nat) (u v w : tmM) (bs : List Int32) (xo : Int64) (xd : UInt64), tmC p s m #[Value.ref b] meth c cL_law 10 ret RL TMW tm_NWC D cy tm_s0 tm_a0 0 (tlW cy ad ar o1 o2 cL cD κ b0 u v w xo xd) (fun q : Nat => s.heap.size ≤ q) → tmTx κ u bs → Rel2 v bs w → tmG p l e room_1 s m #[Value.ref b] below meth c (cells + 64) (slots + 8000) (lw_Z below #[Value.ref b] s) 10 D cy tm_s0 tm_a0 0 (tlW cy ad ar o1 o2 cL cD κ b0 u v w xo xd) (fun q : Nat => s.heap.size ≤ q) () 2790 [(0, .ref b), (1, .ref (ad 247)), (2, .ref (ar 0)), (3, .ref o1), (4, .ref o2), (5, .int (nI i))] [] tm_v0 (some ())) : tmG p l e room_1 s m #[Value.ref b] below meth c (cells) (slots) (lw_Z below #[Value.ref b] s) 10 D cy tm_s0 tm_a0 0 (tlW cy ad ar o1 o2 cL cD κ b0 u v w xo xd) (fun q : Nat => s.heap.size ≤ q) () 37 [(0, .ref b), (1, .ref (ad 247)), (2, .ref (ar 0)), (3, .ref o1), (4, .ref o2), (5, .int (nI i))] [] tm_v0 (some ()) := by
  have hbA : ¬ (fun q : Nat => s.heap.size ≤ q) b := Nat.not_le.mpr hbl
  refine tg_aload_n 0 C0 dL_law_37 rfl rfl ?_
  refine tg_iload 5 C0 dL_law_38 rfl ?_
  refine tl_sld C0 hX hbl hbA (tl_idx (by omega) hL) dL_law_40 ?_
  rw [nI_clamp (show i < 2147483648 by omega)]
  refine tg_bipush (x := 63) C0 dL_law_41 (by decide) ?_
  refine tg_iand C0 dL_law_43 ?_
  obtain ⟨j, hj, e⟩ := pk_andE (xs i) (m := 63) 6 (by decide)
  have hj : j < 64 := hj
  rw [e]
  by_cases h0 : j < 10
  · exact law_sw0 hl hp hX hbl hL hE hTh hF hi hcs C0 hT hR cont j ⟨by omega, h0⟩
  by_cases h1 : j < 20
  · exact law_sw1 hl hp hX hbl hL hE hTh hF hi hcs C0 hT hR cont j ⟨by omega, h1⟩
  by_cases h2 : j < 30
  · exact law_sw2 hl hp hX hbl hL hE hTh hF hi hcs C0 hT hR cont j ⟨by omega, h2⟩
  by_cases h3 : j < 40
  · exact law_sw3 hl hp hX hbl hL hE hTh hF hi hcs C0 hT hR cont j ⟨by omega, h3⟩
  by_cases h4 : j < 50
  · exact law_sw4 hl hp hX hbl hL hE hTh hF hi hcs C0 hT hR cont j ⟨by omega, h4⟩
  exact law_sw5 hl hp hX hbl hL hE hTh hF hi hcs C0 hT hR cont j ⟨by omega, hj⟩
theorem law_cmp {i L : Nat} (hL : L ≤ 2560) (hiL : i ≤ L) (h5 : L < 5 → i = 0) : (Int32.ofNat L - 5 < nI i) ↔ L < i + 5 := by
  by_cases h : L < 5
  · rw [h5 h]
    rcases (show L = 0 ∨ L = 1 ∨ L = 2 ∨ L = 3 ∨ L = 4 by omega) with rfl | rfl | rfl | rfl | rfl <;> decide
  · have e : Int32.ofNat L - 5 = nI (L - 5) := by
      obtain ⟨M, rfl⟩ : ∃ M, L = M + 5 := ⟨L - 5, by omega⟩
      rw [show M + 5 - 5 = M by omega, show Int32.ofNat (M + 5) = nI M + nI 5 from (nI_add M 5).symm]
      exact Int32.add_sub_cancel _ _
    rw [e]
    constructor
    · intro q
      by_cases h2 : L < i + 5
      · exact h2
      · exact absurd q (nI_nlt (a := L - 5) (b := i) (by omega) (by omega))
    · intro q
      exact nI_lt (a := L - 5) (b := i) (by omega) (by omega)
set_option maxRecDepth 100000 in
theorem law_loop {p : Program} {l : Launch} {e : Env} {s : State} {m : MethodId} {below : List Frame} {meth : Method} {c : Code} {D : va_G} {cy : Nat → ClassId} {ad ar : Nat → Nat} {o1 o2 : Nat} {cL cD : ClassId} {adK adV adE : Nat → Nat} {tC : Nat} {b L : Nat} {xs : Nat → Int32} {Rl : Nat → tmM → List Int32 → tmM → Prop} (hl : l.stackTraces = false) (hp : ∀ k, k < 512 → tP_all (Rl k) (Rl (k + 1))) (hX : va_X b L xs s s.heap) (hbl : b < s.heap.size) (hL : L ≤ 2560) (hE : tmSc adK adV adE tC (fun q : Nat => s.heap.size ≤ q) s s.heap) (hTh : tmTh (fun q : Nat => s.heap.size ≤ q) s s.heap) (hF : tlF D cy cL cD s) : ∀ (d i cells slots k : Nat), k + d ≤ 512 → L ≤ i + 5 * d + 4 → i ≤ L → (L < 5 → i = 0) → cells + 64 * d ≤ 601024 → slots + 8000 * d ≤ 7293034 → ∀ (κ b0 : Nat) (u v w : tmM) (bs : List Int32) (xo : Int64) (xd : UInt64), tmC p s m #[Value.ref b] meth c cL_law 10 ret RL TMW tm_NWC D cy tm_s0 tm_a0 0 (tlW cy ad ar o1 o2 cL cD κ b0 u v w xo xd) (fun q : Nat => s.heap.size ≤ q) → tmTx κ u bs → Rl k v bs w → tmG p l e room_1 s m #[Value.ref b] below meth c (cells) (slots) (lw_Z below #[Value.ref b] s) 10 D cy tm_s0 tm_a0 0 (tlW cy ad ar o1 o2 cL cD κ b0 u v w xo xd) (fun q : Nat => s.heap.size ≤ q) () 28 [(0, .ref b), (1, .ref (ad 247)), (2, .ref (ar 0)), (3, .ref o1), (4, .ref o2), (5, .int (nI i))] [] tm_v0 (some ()) := by
  intro d
  induction d with
  | zero =>
    intro i cells slots k hkd hd hiL h5 hc hs κ b0 u v w bs xo xd C0 hT hR
    have hbA : ¬ (fun q : Nat => s.heap.size ≤ q) b := Nat.not_le.mpr hbl
    refine tg_iload 5 C0 dL_law_28 rfl ?_
    refine tg_aload_n 0 C0 dL_law_30 rfl rfl ?_
    refine tl_slen C0 hX hbl hbA dL_law_31 ?_
    refine tg_iconst (x := 5) C0 dL_law_32 (by decide) ?_
    refine tg_isub C0 dL_law_33 ?_
    refine tg_eq (r := if Int32.ofNat L - 5 < nI i then some () else none) (by rw [if_pos ((law_cmp hL hiL h5).mpr (by omega))]) ?_
    refine tg_icmp_gt 2796 C0 dL_law_34 (by decide) (fun _ => ?_) (fun q => absurd ((law_cmp hL hiL h5).mpr (by omega)) q)
    refine tg_iconst (x := 1) C0 dL_law_2796 (by decide) ?_
    intro hz H locs ls hP hS hLv
    exact va_forget hS.2.2 (W.widen (by omega) (by omega) (lw_ret (Drawn.sameBut.refl s.drawn lw_cs) C0.1 C0.2.1 C0.2.2.2.1 C0.2.2.2.2.1 dL_law_2797))
  | succ d ih =>
    intro i cells slots k hkd hd hiL h5 hc hs κ b0 u v w bs xo xd C0 hT hR
    have hbA : ¬ (fun q : Nat => s.heap.size ≤ q) b := Nat.not_le.mpr hbl
    refine tg_iload 5 C0 dL_law_28 rfl ?_
    refine tg_aload_n 0 C0 dL_law_30 rfl rfl ?_
    refine tl_slen C0 hX hbl hbA dL_law_31 ?_
    refine tg_iconst (x := 5) C0 dL_law_32 (by decide) ?_
    refine tg_isub C0 dL_law_33 ?_
    refine tg_eq (r := if Int32.ofNat L - 5 < nI i then some () else some ()) (by split <;> rfl) ?_
    refine tg_icmp_gt 2796 C0 dL_law_34 (by decide) (fun _ => ?_) (fun q => ?_)
    · refine tg_iconst (x := 1) C0 dL_law_2796 (by decide) ?_
      intro hz H locs ls hP hS hLv
      exact va_forget hS.2.2 (W.widen (by omega) (by omega) (lw_ret (Drawn.sameBut.refl s.drawn lw_cs) C0.1 C0.2.1 C0.2.2.2.1 C0.2.2.2.2.1 dL_law_2797))
    · have hi : i + 5 ≤ L := by
        by_cases h : L < i + 5
        · exact absurd ((law_cmp hL hiL h5).mpr h) q
        · omega
      refine law_body hl (hp k (by omega)) hX hbl hL hE hTh hF hi ⟨by omega, by omega⟩ C0 hT hR (fun κ b0 u v w bs xo xd C0 hT hR => ?_)
      refine tg_iinc [(5, .int (nI (i + 5))), (0, .ref b), (1, .ref (ad 247)), (2, .ref (ar 0)), (3, .ref o1), (4, .ref o2)] 5 C0 dL_law_2790 rfl (by rw [show Int32.ofInt 5 = nI 5 by decide, nI_add]) (by decide) rfl ?_
      refine tg_goto 28 C0 dL_law_2793 (by decide) ?_
      refine tg_sub (lv' := [(0, .ref b), (1, .ref (ad 247)), (2, .ref (ar 0)), (3, .ref o1), (4, .ref o2), (5, .int (nI (i + 5)))]) [1, 2, 3, 4, 5, 0] rfl ?_
      exact ih (i + 5) _ _ (k + 1) (by omega) (by omega) (by omega) (by omega) (by omega) (by omega) κ b0 u v w bs xo xd C0 hT hR
