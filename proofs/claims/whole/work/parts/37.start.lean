/-! ===== THE START: what the Statement gives ===== -/
abbrev ts_L : List Cond := flatC (Jvm.Cond.and given_1 narrow_1)
theorem ts_us {ws : List Cond} (ps : List Nat) (h : ws = ps.filterMap (fun i => lw_tbl[i]?)) : ∀ w ∈ ws, w ∈ lw_tbl := by
  intro w hw
  rw [h] at hw
  obtain ⟨i, -, hi⟩ := List.mem_filterMap.mp hw
  exact List.mem_of_getElem? hi
theorem ts_sub {L M : List Cond} (a n : Nat) (h : M = (L.drop a).take n) : ∀ w ∈ M, w ∈ L := fun w hw => by
  rw [h] at hw
  exact List.mem_of_mem_drop (List.mem_of_mem_take hw)
theorem ts_met {l : Launch} {y : MethodName} {ws : List Cond} {rm : Room} {Pc Pc2 : Array Value → State → Prop} {Qc : Array Value → State → Outcome → State → Prop} {mc ms : Nat} {free : Addr → Prop} (h : Met l y ws rm Pc Qc mc ms free) (hp : ∀ a s, Pc2 a s → Pc a s) : Met l y ws rm Pc2 Qc mc ms free := by
  intro p e ha hc hk s m args below hf hfit hP hz
  exact h p e ha hc hk s m args below hf hfit (hp _ _ hP) hz
theorem ts_k8 (l : Launch) {adK adV adE : Nat → Nat} {tC : Nat} : tnK tm_NWC l adK adV adE tC yX8_init (Cond.code yX8_init cX8_init 1 none :: TMW) ({ frames := 1, cells := 12, slots := 7275, locals := 30 }) [] k0_X8 k1_X8 12 7275 := fun D cy h0 sz => ts_met (c_X8_init l D cy h0 sz) (fun a s h => ⟨h.1, ⟨h.2.1.1, h.2.1.2.1, h.2.1.2.2.1, (fun w hw => by cases hw), h.2.1.2.2.2.2⟩, h.2.2⟩)
theorem ts_hts {s : State} {args : Array Value} (hts : ∀ w ∈ lw_tbl, w.before args s = true) : ∀ w ∈ TMW, w.before args s = true := by
  intro w hw
  rcases List.mem_append.mp (List.mem_filter.mp hw).1 with h | h
  · exact hts w h
  · have h0 : (Cond.selects RJ4 yJ5_isLatin1_aae02 yJ5_isLatin1_aae02).before args s = true := hts _ (List.mem_of_getElem? (i := 1318) (by decide +kernel))
    unfold tm_sb at h
    simp only [List.mem_cons, List.not_mem_nil, or_false] at h
    rcases h with rfl | rfl | rfl | rfl
    · exact tm_selP h0 rfl (by decide +kernel) (hts _ (List.mem_of_getElem? (i := 1287) (by decide +kernel))) (hts _ (List.mem_of_getElem? (i := 1288) (by decide +kernel)))
    · exact tm_selP h0 rfl (by decide +kernel) (hts _ (List.mem_of_getElem? (i := 1291) (by decide +kernel))) (hts _ (List.mem_of_getElem? (i := 1292) (by decide +kernel)))
    · exact tm_selP h0 rfl (by decide +kernel) (hts _ (List.mem_of_getElem? (i := 1337) (by decide +kernel))) (hts _ (List.mem_of_getElem? (i := 1338) (by decide +kernel)))
    · exact tm_selP h0 rfl (by decide +kernel) (hts _ (List.mem_of_getElem? (i := 1341) (by decide +kernel))) (hts _ (List.mem_of_getElem? (i := 1342) (by decide +kernel)))
theorem ts_known {s : State} {args : Array Value} (hts : ∀ w ∈ lw_tbl, w.before args s = true) : ∃ D : va_G, ∀ (k : Nat) (q : vw_C), vwCl[k]? = some q → u_Kn s q.1 q.2.1 q.2.2 (D.1 k) (D.2 k) := by
  obtain ⟨c0, i0, h0⟩ := u_known (C := RJ0) (T := TJ0) (N := 4) (n := 4) hts (ts_us [1444, 1446, 1448, 1450] (by decide +kernel)) (hts (.instantiable RJ0 4) (List.mem_of_getElem? (i := 1400) (by decide +kernel)))
  obtain ⟨c1, i1, h1⟩ := u_known (C := RJ4) (T := TJ4) (N := 4) (n := 4) hts (ts_us [343, 345, 347, 349] (by decide +kernel)) (hts (.instantiable RJ4 4) (List.mem_of_getElem? (i := 321) (by decide +kernel)))
  obtain ⟨c2, i2, h2⟩ := u_known (C := RJx00060) (T := TJx00060) (N := 6) (n := 6) hts (ts_us [1479, 1480, 1481, 1482, 1483, 1494] (by decide +kernel)) (hts (.instantiable RJx00060 6) (List.mem_of_getElem? (i := 1474) (by decide +kernel)))
  obtain ⟨c3, i3, h3⟩ := u_known (C := RJx7c733) (T := TJx7c733) (N := 6) (n := 6) hts (ts_us [1454, 1455, 1456, 1457, 1458, 1459] (by decide +kernel)) (hts (.instantiable RJx7c733 6) (List.mem_of_getElem? (i := 1268) (by decide +kernel)))
  obtain ⟨c4, i4, h4⟩ := u_known (C := RX1) (T := TX1) (N := 3) (n := 3) hts (ts_us [206, 208, 210] (by decide +kernel)) (hts (.instantiable RX1 3) (List.mem_of_getElem? (i := 195) (by decide +kernel)))
  obtain ⟨c5, i5, h5⟩ := u_known (C := RX2) (T := TX2) (N := 2) (n := 2) hts (ts_us [189, 191] (by decide +kernel)) (hts (.instantiable RX2 2) (List.mem_of_getElem? (i := 178) (by decide +kernel)))
  obtain ⟨c6, i6, h6⟩ := u_known (C := RX3) (T := TX3) (N := 11) (n := 11) hts (ts_us [296, 298, 300, 302, 304, 306, 308, 310, 312, 314, 316] (by decide +kernel)) (hts (.instantiable RX3 11) (List.mem_of_getElem? (i := 272) (by decide +kernel)))
  obtain ⟨c7, i7, h7⟩ := u_known (C := RX4) (T := TX4) (N := 10) (n := 10) hts (ts_us [249, 251, 253, 255, 257, 259, 261, 263, 265, 267] (by decide +kernel)) (hts (.instantiable RX4 10) (List.mem_of_getElem? (i := 146) (by decide +kernel)))
  obtain ⟨c8, i8, h8⟩ := u_known (C := RX5) (T := TX5) (N := 4) (n := 4) hts (ts_us [167, 169, 171, 173] (by decide +kernel)) (hts (.instantiable RX5 4) (List.mem_of_getElem? (i := 152) (by decide +kernel)))
  obtain ⟨c9, i9, h9⟩ := u_known (C := RX6) (T := TX6) (N := 2) (n := 2) hts (ts_us [224, 226] (by decide +kernel)) (hts (.instantiable RX6 2) (List.mem_of_getElem? (i := 214) (by decide +kernel)))
  obtain ⟨c10, i10, h10⟩ := u_known (C := RX7) (T := TX7) (N := 9) (n := 9) hts (ts_us [362, 364, 366, 368, 370, 372, 374, 376, 378] (by decide +kernel)) (hts (.instantiable RX7 9) (List.mem_of_getElem? (i := 138) (by decide +kernel)))
  obtain ⟨c11, i11, h11⟩ := u_known (C := RX8) (T := TX8) (N := 28) (n := 28) hts (ts_us [1579, 1581, 1583, 1585, 1587, 1589, 1591, 1593, 1595, 1597, 1599, 1601, 1603, 1605, 1607, 1609, 1611, 1613, 1615, 1617, 1619, 1621, 1623, 1625, 1627, 1629, 1631, 1633] (by decide +kernel)) (hts (.instantiable RX8 28) (List.mem_of_getElem? (i := 1542) (by decide +kernel)))
  refine ⟨(fun k => match k with | 0 => c0 | 1 => c1 | 2 => c2 | 3 => c3 | 4 => c4 | 5 => c5 | 6 => c6 | 7 => c7 | 8 => c8 | 9 => c9 | 10 => c10 | _ => c11, fun k => match k with | 0 => i0 | 1 => i1 | 2 => i2 | 3 => i3 | 4 => i4 | 5 => i5 | 6 => i6 | 7 => i7 | 8 => i8 | 9 => i9 | 10 => i10 | _ => i11), ?_⟩
  intro k q hq
  match k, hq with
  | 0, hq => cases hq; exact h0
  | 1, hq => cases hq; exact h1
  | 2, hq => cases hq; exact h2
  | 3, hq => cases hq; exact h3
  | 4, hq => cases hq; exact h4
  | 5, hq => cases hq; exact h5
  | 6, hq => cases hq; exact h6
  | 7, hq => cases hq; exact h7
  | 8, hq => cases hq; exact h8
  | 9, hq => cases hq; exact h9
  | 10, hq => cases hq; exact h10
  | 11, hq => cases hq; exact h11
  | k + 12, hq => exact absurd hq (by simp [vwCl])
theorem ts_ap {s : State} {args : Array Value} {ty : FieldType} (hp : ∀ c, s.vm.findClass ("[" ++ ty.toString) = some c → va_RA s c ty) (h : (Cond.arrayClass ty).before args s = true) : ∃ c : ClassId, ArrOfT s c ty ∧ va_RA s c ty := by
  obtain ⟨c, k, comp, h1, h2, h3⟩ := Cond.arrayClass_spec h
  exact ⟨c, fun N z => ⟨(fun k h => by cases h), k, h2, comp, h3⟩, hp c h1⟩
theorem ts_arr {s : State} {args : Array Value} {D : va_G} (hts : ∀ w ∈ lw_tbl, w.before args s = true) (hD : ∀ (k : Nat) (q : vw_C), vwCl[k]? = some q → u_Kn s q.1 q.2.1 q.2.2 (D.1 k) (D.2 k)) : ∃ (cy : Nat → ClassId) (cL cD : ClassId), va_K D vwCl (tl_tys cy cL cD) s := by
  obtain ⟨c0, a0, b0⟩ := ts_ap (ty := .int) (s := s) (args := args) (fun c h => h) (hts _ (List.mem_of_getElem? (i := 176) (by decide +kernel)))
  obtain ⟨c1, a1, b1⟩ := ts_ap (ty := .char) (s := s) (args := args) (fun c h => h) (hts _ (List.mem_of_getElem? (i := 319) (by decide +kernel)))
  obtain ⟨c2, a2, b2⟩ := ts_ap (ty := .byte) (s := s) (args := args) (fun c h => h) (hts _ (List.mem_of_getElem? (i := 352) (by decide +kernel)))
  obtain ⟨c3, a3, b3⟩ := ts_ap (ty := .boolean) (s := s) (args := args) (fun c h => h) (hts _ (List.mem_of_getElem? (i := 1636) (by decide +kernel)))
  obtain ⟨c6, a6, b6⟩ := ts_ap (ty := .long) (s := s) (args := args) (fun c h => h) (hts _ (List.mem_of_getElem? (i := 2154) (by decide +kernel)))
  obtain ⟨c7, a7, b7⟩ := ts_ap (ty := .double) (s := s) (args := args) (fun c h => h) (hts _ (List.mem_of_getElem? (i := 2155) (by decide +kernel)))
  obtain ⟨p4, c4, k4, e41, e42, e43, e44, e45⟩ := Cond.arrayOver_spec (hts (.arrayOver (.object RX4)) (List.mem_of_getElem? (i := 270) (by decide +kernel)))
  obtain ⟨p5, c5, k5, e51, e52, e53, e54⟩ := Cond.arrayOver_specA (hts (.arrayOver (.array .int)) (List.mem_of_getElem? (i := 158) (by decide +kernel)))
  refine ⟨fun t => match t with | 0 => c0 | 1 => c1 | 2 => c2 | 3 => c3 | 4 => c4 | _ => c5, c6, c7, hD, fun k q hk => ?_⟩
  match k, hk with
  | 0, hk => cases hk; exact ⟨a0, b0⟩
  | 1, hk => cases hk; exact ⟨a1, b1⟩
  | 2, hk => cases hk; exact ⟨a2, b2⟩
  | 3, hk => cases hk; exact ⟨a3, b3⟩
  | 4, hk => cases hk; exact ⟨fun N z => ⟨(fun k h => by cases h), k4, e43, p4, e44⟩, k4, p4, e43, e44, e41, e45⟩
  | 5, hk => cases hk; exact ⟨fun N z => ⟨(fun k h => by cases h), k5, e52, p5, e53⟩, e54⟩
  | 6, hk => cases hk; exact ⟨a6, b6⟩
  | 7, hk => cases hk; exact ⟨a7, b7⟩
  | k + 8, hk => exact absurd hk (by simp [tl_tys, tm_tys])
/-! the texts -/
def ts_ws (own : String) (k : Nat) (bytes : List Int32) : List Cond := [Cond.exactly (.string own k) "java/lang/String", .eq (.field (.string own k) "java/lang/String" "coder" "B") (.int 0), .arrayOf (.field (.string own k) "java/lang/String" "value" "[B") .byte, .eq (.length (.field (.string own k) "java/lang/String" "value" "[B")) (.int (Int32.ofNat bytes.length))] ++ (List.range bytes.length).map (fun j => .eq (.elem (.field (.string own k) "java/lang/String" "value" "[B") (.int (Int32.ofNat j))) (.int (bytes.getD j 0)))
theorem ts_text {s : State} {args : Array Value} {A : Nat → Prop} (hA : ∀ a : Nat, a < s.heap.size → ¬ A a) (own : String) (k : Nat) (bytes : List Int32) (hn : bytes.length < 100) (h : ∀ w ∈ ts_ws own k bytes, w.before args s = true) : ∃ q : Nat × Nat, (Term.string own k).eval args s none [] s = some (.ref q.1) ∧ va_O "java/lang/String" q.1 A s s.heap ∧ va_OF "java/lang/String" "coder" "B" (.int 0) q.1 A s s.heap ∧ va_OF "java/lang/String" "value" "[B" (.ref q.2) q.1 A s s.heap ∧ va_T .byte q.2 bytes.length (fun j => .int (bytes.getD j 0)) A s s.heap := by
  have hm : ∀ w, w ∈ ts_ws own k bytes → w.before args s = true := h
  unfold ts_ws at hm
  obtain ⟨adK, adV, hS, hev⟩ := vk_Sof (args := args) (s := s) (N := 1) (tm := fun _ => .string own k) (len := [bytes.length]) (byt := [bytes]) (A := A)
    (fun i hi => by rcases (show i = 0 by omega) with rfl; show bytes.length < _; omega)
    (fun i hi => hm _ (by simp)) (fun i hi => hm _ (by simp)) (fun i hi => hm _ (by simp))
    (fun i hi => by rcases (show i = 0 by omega) with rfl; exact hm _ (by simp))
    (fun i hi j hj => by
      rcases (show i = 0 by omega) with rfl
      exact hm _ (List.mem_append_right _ (List.mem_map.mpr ⟨j, List.mem_range.mpr hj, rfl⟩)))
    (fun i j hi hj hij => absurd (show i = j by omega) hij) hA
  have h0 := hS.1 0 (by omega)
  exact ⟨(adK 0, adV 0), hev 0 (by omega), h0.1, h0.2.1, h0.2.2.1, h0.2.2.2⟩
def ts_own (i : Nat) : String := if i < 12 then RX0 else if i = 12 then RX3 else RX7
def ts_idx : List Nat := [79, 85, 88, 91, 94, 97, 100, 103, 106, 109, 112, 115, 73, 285, 290]
theorem ts_lens : ∀ i, i < 15 → (tm_byt.getD i []).length = tm_len.getD i 0 := by decide
theorem ts_words : ∀ i, i < 15 → ∀ w ∈ ts_ws (ts_own i) (ts_idx.getD i 0) (tm_byt.getD i []), w ∈ ts_L := by
  intro i hi
  match i, hi with
  | 0, _ => exact ts_sub 585 7 (by decide +kernel)
  | 1, _ => exact ts_sub 592 10 (by decide +kernel)
  | 2, _ => exact ts_sub 602 9 (by decide +kernel)
  | 3, _ => exact ts_sub 611 8 (by decide +kernel)
  | 4, _ => exact ts_sub 619 10 (by decide +kernel)
  | 5, _ => exact ts_sub 629 9 (by decide +kernel)
  | 6, _ => exact ts_sub 638 10 (by decide +kernel)
  | 7, _ => exact ts_sub 648 8 (by decide +kernel)
  | 8, _ => exact ts_sub 656 8 (by decide +kernel)
  | 9, _ => exact ts_sub 664 10 (by decide +kernel)
  | 10, _ => exact ts_sub 674 8 (by decide +kernel)
  | 11, _ => exact ts_sub 682 10 (by decide +kernel)
  | 12, _ => exact ts_sub 361 11 (by decide +kernel)
  | 13, _ => exact ts_sub 562 11 (by decide +kernel)
  | 14, _ => exact ts_sub 573 12 (by decide +kernel)
  | k + 15, hi => omega
theorem ts_vsize {U : State} {H : Heap} {A : Nat → Prop} {t N M : Nat} {f g : Nat → Value} (h1 : va_T .byte t N f A U H) (h2 : va_T .byte t M g A U H) (hN : N < 100) (hM : M < 100) : N = M ∧ ∀ j, j < N → f j = g j := by
  obtain ⟨c1, e1, -, -, l1, n1, f1, -⟩ := h1
  obtain ⟨c2, e2, -, -, l2, n2, f2, -⟩ := h2
  rw [e1] at e2
  cases e2
  have hNM : N = M := (nI_eq (a := N) (b := M) (by omega) (by omega)).mp (n1.symm.trans n2)
  subst hNM
  exact ⟨rfl, fun j hj => Option.some.inj ((f1 j hj).symm.trans (f2 j hj))⟩
theorem ts_OFu {U : State} {H : Heap} {A : Nat → Prop} {o n d : String} {v v2 : Value} {t : Nat} (h1 : va_OF o n d v t A U H) (h2 : va_OF o n d v2 t A U H) : v = v2 := by
  obtain ⟨cf, k, i, f, cell, a1, a2, a3, a4, a5, a6⟩ := h1
  obtain ⟨cf2, k2, i2, f2, cell2, b1, b2, b3, b4, b5, b6⟩ := h2
  rw [a1] at b1
  cases b1
  rw [a3] at b3
  cases b3
  exact Option.some.inj (a5.symm.trans b5)
theorem ts_dist : ∀ i, i < 15 → ∀ j, j < 15 → i ≠ j → tm_len.getD i 0 ≠ tm_len.getD j 0 ∨ ∃ x, x < tm_len.getD i 0 ∧ (tm_byt.getD i []).getD x 0 ≠ (tm_byt.getD j []).getD x 0 := by decide +kernel
theorem ts_S {s : State} {args : Array Value} {A : Nat → Prop} (hA : ∀ a : Nat, a < s.heap.size → ¬ A a) (hgv : ∀ w ∈ ts_L, w.before args s = true) : ∃ adK adV : Nat → Nat, vk_S 15 tm_len tm_byt adK adV A s s.heap ∧ ∀ i, i < 15 → (Term.string (ts_own i) (ts_idx.getD i 0)).eval args s none [] s = some (.ref (adK i)) := by
  have h0 : ∀ i : Nat, ∃ q : Nat × Nat, i < 15 → (Term.string (ts_own i) (ts_idx.getD i 0)).eval args s none [] s = some (.ref q.1) ∧ va_O "java/lang/String" q.1 A s s.heap ∧ va_OF "java/lang/String" "coder" "B" (.int 0) q.1 A s s.heap ∧ va_OF "java/lang/String" "value" "[B" (.ref q.2) q.1 A s s.heap ∧ va_T .byte q.2 (tm_len.getD i 0) (fun j => .int ((tm_byt.getD i []).getD j 0)) A s s.heap := by
    intro i
    by_cases hi : i < 15
    · have hl := ts_lens i hi
      have hl2 : ∀ i, i < 15 → tm_len.getD i 0 < 100 := by decide
      obtain ⟨q, h1, h2, h3, h4, h5⟩ := ts_text hA (ts_own i) (ts_idx.getD i 0) (tm_byt.getD i []) (by rw [hl]; exact hl2 i hi) (fun w hw => hgv w (ts_words i hi w hw))
      rw [hl] at h5
      exact ⟨q, fun _ => ⟨h1, h2, h3, h4, h5⟩⟩
    · exact ⟨(0, 0), fun h => absurd h hi⟩
  obtain ⟨f, hf⟩ := Classical.axiomOfChoice h0
  refine ⟨fun i => (f i).1, fun i => (f i).2, ⟨fun i hi => (hf i hi).2, fun i j hi hj he => ?_⟩, fun i hi => (hf i hi).1⟩
  by_cases hij : i = j
  · exact hij
  · have hl2 : ∀ i, i < 15 → tm_len.getD i 0 < 100 := by decide
    have hi5 := (hf i hi).2.2.2
    have hj5 := (hf j hj).2.2.2
    have he : (f i).1 = (f j).1 := he
    rw [he] at hi5
    have hv : (f i).2 = (f j).2 := by
      have := ts_OFu hi5.1 hj5.1
      injection this
    have hT := hi5.2
    rw [hv] at hT
    obtain ⟨e1, e2⟩ := ts_vsize hT hj5.2 (hl2 i hi) (hl2 j hj)
    rcases ts_dist i hi j hj hij with h | ⟨x, hx, hne⟩
    · exact absurd e1 h
    · exact absurd (by have := e2 x hx; injection this) hne
def ts_nm : List String := ["PUT_ROW", "REMOVE_ROW", "BEGIN_MOVE", "COPY_CHUNKS", "REPAIR_KEYS", "CHECK_CHUNK", "SWITCH_READER", "READER_TO_OLD", "LET_LEAD", "RETURN_TO_OLD", "STOP_MOVE", "FINISH_MOVE"]
abbrev ts_dc : String := "LTableMove$Command;"
abbrev ts_st (i : Nat) : Term := .static RX0 (ts_nm.getD i "") ts_dc
theorem ts_E {s : State} {args : Array Value} (hgv : ∀ w ∈ ts_L, w.before args s = true) : ∃ adE : Nat → Nat, ∀ i, i < 12 → (ts_st i).eval args s none [] s = some (.ref (adE i)) := by
  have hw0 : ∀ i, i < 12 → ts_L[234 + 7 * i]? = some (Cond.exactly (ts_st i) RX0) := by decide +kernel
  have hw : ∀ i, i < 12 → Cond.exactly (ts_st i) RX0 ∈ ts_L := fun i hi => List.mem_of_getElem? (hw0 i hi)
  have h0 : ∀ i : Nat, ∃ q : Nat, i < 12 → (ts_st i).eval args s none [] s = some (.ref q) := by
    intro i
    by_cases hi : i < 12
    · obtain ⟨a, c, cA, kA, q1, -⟩ := Cond.exactly_spec (args := args) (first := s) (o := none) (s := s) (idx := []) (hgv _ (hw i hi))
      exact ⟨a, fun _ => q1⟩
    · exact ⟨0, fun h => absurd h hi⟩
  obtain ⟨f, hf⟩ := Classical.axiomOfChoice h0
  exact ⟨f, hf⟩
abbrev ts_cm : Term := .static RX7 "COMMANDS" "[LTableMove$Command;"
theorem ts_dg {s : State} {args : Array Value} {A : Nat → Prop} (hts : ∀ w ∈ lw_tbl, w.before args s = true) (hA : ∀ a : Nat, a < s.heap.size → ¬ A a) (hgv : ∀ w ∈ ts_L, w.before args s = true) (nm : String) (f : Nat → Int32) (w1 : Cond.laysStatic "java/lang/Integer" nm "[B" ∈ lw_tbl) (w2 : Cond.initialized "java/lang/Integer" ∈ lw_tbl) (w3 : Cond.arrayOf (.static "java/lang/Integer" nm "[B") .byte ∈ ts_L) (w4 : Cond.eq (.length (.static "java/lang/Integer" nm "[B")) (.int (Int32.ofNat 100)) ∈ ts_L) (a : Nat) (w5 : (List.range 100).map (fun j => Cond.eq (.elem (.static "java/lang/Integer" nm "[B") (.int (Int32.ofNat j))) (.int (f j))) = (ts_L.drop a).take 100) : tmDg nm f A s s.heap := by
  obtain ⟨t, ht, hT⟩ := va_Tof (tm := .static "java/lang/Integer" nm "[B") (ty := .byte) (N := 100) (f := fun j => .int (f j)) (A := A) (args := args) (s := s) (by decide) (hgv _ w3) (va_eqt (hgv _ w4)) (fun j hj => va_eqt (hgv _ (ts_sub a 100 w5 _ (List.mem_map.mpr ⟨j, List.mem_range.mpr hj, rfl⟩)))) hA
  exact ⟨t, va_Zof (hts _ w1) (hts _ w2) ht hA, hT⟩
theorem ts_Ef {s : State} {args : Array Value} {A : Nat → Prop} {adE : Nat → Nat} (hA : ∀ a : Nat, a < s.heap.size → ¬ A a) (hgv : ∀ w ∈ ts_L, w.before args s = true) (hE : ∀ i, i < 12 → (ts_st i).eval args s none [] s = some (.ref (adE i))) (n : String) (l : List Int32) (a : Nat) (h : ∀ i, i < 12 → ts_L[a + 7 * i]? = some (Cond.eq (.field (ts_st i) RX0 n "I") (.int (l.getD i 0)))) : va_Ef 12 RX0 n "I" (fun i => .int (l.getD i 0)) adE A s s.heap :=
  va_Efof (nm := ts_nm) (E := RX0) (d0 := ts_dc) (tm := fun i => .int (l.getD i 0)) (args := args) hE (fun i hi => hgv _ (List.mem_of_getElem? (h i hi))) (fun i hi => rfl) hA
theorem ts_Sc {s : State} {args : Array Value} {A : Nat → Prop} (hts : ∀ w ∈ lw_tbl, w.before args s = true) (hA : ∀ a : Nat, a < s.heap.size → ¬ A a) (hgv : ∀ w ∈ ts_L, w.before args s = true) : ∃ (adK adV adE : Nat → Nat) (tC : Nat), tmSc adK adV adE tC A s s.heap := by
  obtain ⟨adK, adV, hS, hK⟩ := ts_S hA hgv
  obtain ⟨adE, hE⟩ := ts_E hgv
  have wc : ∀ i, i < 12 → ts_L[10 + i]? = some (Cond.eq (.elem ts_cm (.int (Int32.ofNat i))) (ts_st i)) := by decide +kernel
  have ww : ∀ i, i < 12 → ts_L[236 + 7 * i]? = some (Cond.eq (.field (ts_st i) RX0 "word" "Ljava/lang/String;") (.string (ts_own i) (ts_idx.getD i 0))) := by decide +kernel
  obtain ⟨tC, ht, hT⟩ := va_Tof (tm := ts_cm) (ty := .object RX0) (N := 12) (f := fun i => .ref (adE i)) (A := A) (args := args) (s := s) (by decide) (hgv _ (List.mem_of_getElem? (i := 7) (by decide +kernel))) (va_eqt (hgv _ (List.mem_of_getElem? (i := 8) (by decide +kernel)))) (fun j hj => va_eqv (hgv _ (List.mem_of_getElem? (wc j hj))) (hE j hj)) hA
  refine ⟨adK, adV, adE, tC, hS, va_Zof (hts _ (List.mem_of_getElem? (i := 330) (by decide +kernel))) (hts _ (List.mem_of_getElem? (i := 119) (by decide +kernel))) (va_eqt (hgv _ (List.mem_of_getElem? (i := 4) (by decide +kernel)))) hA, va_Zof (hts _ (List.mem_of_getElem? (i := 405) (by decide +kernel))) (hts _ (List.mem_of_getElem? (i := 110) (by decide +kernel))) ht hA, hT, ?_, ts_Ef hA hgv hE "act" tm_act 237 (by decide +kernel), ts_Ef hA hgv hE "numbers" tm_nums 238 (by decide +kernel), ts_Ef hA hgv hE "least" tm_lea 239 (by decide +kernel), ts_Ef hA hgv hE "greatest" tm_gre 240 (by decide +kernel), vk_R.of (hts (.stringRef RX3 73 "without") (List.mem_of_getElem? (i := 473) (by decide +kernel))) (hK 12 (by decide)), va_Zqof (hts _ (List.mem_of_getElem? (i := 434) (by decide +kernel))) (hts _ (List.mem_of_getElem? (i := 128) (by decide +kernel))) (hgv _ (List.mem_of_getElem? (i := 22) (by decide +kernel))) hA, vk_R.of (hts (.stringRef RX7 285 " copied") (List.mem_of_getElem? (i := 1501) (by decide +kernel))) (hK 13 (by decide)), vk_R.of (hts (.stringRef RX7 290 " checked") (List.mem_of_getElem? (i := 1503) (by decide +kernel))) (hK 14 (by decide)), ts_dg hts hA hgv "DigitOnes" tm_d1 (List.mem_of_getElem? (i := 1384) (by decide +kernel)) (List.mem_of_getElem? (i := 132) (by decide +kernel)) (List.mem_of_getElem? (i := 29) (by decide +kernel)) (List.mem_of_getElem? (i := 30) (by decide +kernel)) 31 (by decide +kernel), ts_dg hts hA hgv "DigitTens" tm_d10 (List.mem_of_getElem? (i := 1386) (by decide +kernel)) (List.mem_of_getElem? (i := 132) (by decide +kernel)) (List.mem_of_getElem? (i := 132) (by decide +kernel)) (List.mem_of_getElem? (i := 133) (by decide +kernel)) 134 (by decide +kernel)⟩
  exact va_Efof (nm := ts_nm) (E := RX0) (d0 := ts_dc) (tm := fun i => .string (ts_own i) (ts_idx.getD i 0)) (args := args) hE (fun i hi => hgv _ (List.mem_of_getElem? (ww i hi))) (fun i hi => hK i (by omega)) hA
theorem ts_R {s : State} {args : Array Value} (hts : ∀ w ∈ lw_tbl, w.before args s = true) (hgv : ∀ w ∈ ts_L, w.before args s = true) (k : Nat) (tx : String) (w1 : Cond.stringRef RX7 k tx ∈ lw_tbl) (w2 : Cond.exactly (.string RX7 k) "java/lang/String" ∈ ts_L) : ∃ a, vk_R RX7 k tx a s := by
  obtain ⟨a, c, cA, kA, q1, -⟩ := Cond.exactly_spec (args := args) (first := s) (o := none) (s := s) (idx := []) (hgv _ w2)
  exact ⟨a, vk_R.of (hts _ w1) q1⟩
theorem ts_Th {s : State} {args : Array Value} {A : Nat → Prop} (hts : ∀ w ∈ lw_tbl, w.before args s = true) (hA : ∀ a : Nat, a < s.heap.size → ¬ A a) (hgv : ∀ w ∈ ts_L, w.before args s = true) : tmTh A s s.heap :=
  ⟨vx_Zqof (hts _ (List.mem_of_getElem? (i := 853) (by decide +kernel))) (hts _ (List.mem_of_getElem? (i := 122) (by decide +kernel))) (hgv _ (List.mem_of_getElem? (i := 26) (by decide +kernel))) hA, vx_Zqof (hts _ (List.mem_of_getElem? (i := 855) (by decide +kernel))) (hts _ (List.mem_of_getElem? (i := 122) (by decide +kernel))) (hgv _ (List.mem_of_getElem? (i := 27) (by decide +kernel))) hA, ts_R hts hgv 316 _ (List.mem_of_getElem? (i := 955) (by decide +kernel)) (List.mem_of_getElem? (i := 431) (by decide +kernel)), ts_R hts hgv 323 _ (List.mem_of_getElem? (i := 915) (by decide +kernel)) (List.mem_of_getElem? (i := 400) (by decide +kernel)), ts_R hts hgv 328 _ (List.mem_of_getElem? (i := 869) (by decide +kernel)) (List.mem_of_getElem? (i := 372) (by decide +kernel))⟩
theorem ts_N {s : State} {args : Array Value} (hts : ∀ w ∈ lw_tbl, w.before args s = true) (NW : List Cond) (h1 : ∀ w ∈ NW, w ∈ lw_tbl) (h2 : ∀ w ∈ NW, w.onTables = true) : tmNs NW s := fun w hw => va_Nw.of (h2 w hw) (hts w (h1 w hw))
theorem ts_F {s : State} {args : Array Value} {D : va_G} {cy : Nat → ClassId} {cL cD : ClassId} (hts : ∀ w ∈ lw_tbl, w.before args s = true) (hgv : ∀ w ∈ ts_L, w.before args s = true) (hK : va_K D vwCl (tl_tys cy cL cD) s) : tlF D cy cL cD s := by
  have hw : ∀ i, i < 3 → ∀ j, j < 3 → i ≠ j → Cond.not (.castable (tm_ex i) (tm_ex j)) ∈ ts_L := by
    intro i hi j hj hij
    match i, hi, j, hj with
    | 0, _, 0, _ => exact absurd rfl hij
    | 0, _, 1, _ => exact List.mem_of_getElem? (i := 344) (by decide +kernel)
    | 0, _, 2, _ => exact List.mem_of_getElem? (i := 329) (by decide +kernel)
    | 1, _, 0, _ => exact List.mem_of_getElem? (i := 358) (by decide +kernel)
    | 1, _, 1, _ => exact absurd rfl hij
    | 1, _, 2, _ => exact List.mem_of_getElem? (i := 327) (by decide +kernel)
    | 2, _, 0, _ => exact List.mem_of_getElem? (i := 357) (by decide +kernel)
    | 2, _, 1, _ => exact List.mem_of_getElem? (i := 342) (by decide +kernel)
    | 2, _, 2, _ => exact absurd rfl hij
    | k + 3, hi, _, _ => omega
    | _, _, k + 3, hj => omega
  exact ⟨hK, ts_N hts tl_NW (ts_us [948, 908, 828] (by decide +kernel)) (by decide +kernel), fun i j hi hj hij => va_Nc.of (hgv _ (hw i hi j hj hij))⟩

