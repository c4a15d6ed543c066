/-! ===== THE VIRTUAL HEAP: a side's cells are numbered; all that moves in them is whole numbers: tmM says cell, place -> number ===== -/
abbrev tmM : Type := Nat → Nat → Int32
/-- a cell's shape: a row of numbers (type's place, length); a row of references; an object (its class's place; a place holds a reference for good, or a number) -/
abbrev tmE : Type := (Nat × Nat) ⊕ ((Nat × List Nat) ⊕ (Nat × List (Option Nat)))
def tm_slot (ad : Nat → Nat) (row : Nat → Int32) (j : Nat) : Option Nat → Value
  | some r => .ref (ad r)
  | none => .int (row j)
def tm_slots (ad : Nat → Nat) (row : Nat → Int32) : Nat → List (Option Nat) → List Value
  | _, [] => []
  | j, o :: l => tm_slot ad row j o :: tm_slots ad row (j + 1) l
theorem tm_slots_get (ad : Nat → Nat) (row : Nat → Int32) : ∀ (l : List (Option Nat)) (j k : Nat) (o : Option Nat), l[k]? = some o → (tm_slots ad row j l)[k]? = some (tm_slot ad row (j + k) o)
  | [], _, k, o, h => by simp at h
  | a :: l, j, 0, o, h => by
    rw [List.getElem?_cons_zero] at h
    cases h
    rfl
  | a :: l, j, k + 1, o, h => by
    rw [List.getElem?_cons_succ] at h
    have := tm_slots_get ad row l (j + 1) k o h
    show (tm_slots ad row (j + 1) l)[k]? = _
    rw [this, Nat.add_right_comm j 1 k]
    rfl
theorem tm_slots_len (ad : Nat → Nat) (row : Nat → Int32) : ∀ (l : List (Option Nat)) (j : Nat), (tm_slots ad row j l).length = l.length
  | [], _ => rfl
  | _ :: l, j => congrArg (· + 1) (tm_slots_len ad row l (j + 1))
theorem tm_slots_lt (ad : Nat → Nat) (row : Nat → Int32) (x : Int32) : ∀ (l : List (Option Nat)) (i j : Nat), i < j → tm_slots ad (upd row i x) j l = tm_slots ad row j l
  | [], _, _, _ => rfl
  | o :: l, i, j, h => by
    show tm_slot ad (upd row i x) j o :: _ = tm_slot ad row j o :: _
    rw [tm_slots_lt ad row x l i (j + 1) (by omega)]
    congr 1
    cases o with
    | some r => rfl
    | none =>
      show Value.int (if j = i then x else row j) = _
      rw [if_neg (by omega)]
      rfl
theorem tm_slots_set (ad : Nat → Nat) (row : Nat → Int32) (x : Int32) : ∀ (l : List (Option Nat)) (j k : Nat), l[k]? = some none → (tm_slots ad row j l).set k (.int x) = tm_slots ad (upd row (j + k) x) j l
  | [], _, k, h => by simp at h
  | o :: l, j, 0, h => by
    rw [List.getElem?_cons_zero] at h
    cases h
    show Value.int x :: tm_slots ad row (j + 1) l = Value.int (if j = j + 0 then x else row j) :: tm_slots ad (upd row (j + 0) x) (j + 1) l
    rw [if_pos (Nat.add_zero j).symm, tm_slots_lt ad row x l (j + 0) (j + 1) (by omega)]
  | o :: l, j, k + 1, h => by
    rw [List.getElem?_cons_succ] at h
    have h1 := tm_slots_set ad row x l (j + 1) k h
    show tm_slot ad row j o :: (tm_slots ad row (j + 1) l).set k (.int x) = tm_slot ad (upd row (j + (k + 1)) x) j o :: tm_slots ad (upd row (j + (k + 1)) x) (j + 1) l
    rw [h1, show j + 1 + k = j + (k + 1) by omega]
    congr 1
    cases o with
    | some r => rfl
    | none =>
      show _ = Value.int (if j = j + (k + 1) then x else row j)
      rw [if_neg (by omega)]
      rfl
def tm_ce (cy : Nat → ClassId) (ad : Nat → Nat) (e : tmE) (row : Nat → Int32) : va_E := match e with
  | .inl (t, n) => .inl (cy t, n, .inl row)
  | .inr (.inl (t, rs)) => .inl (cy t, rs.length, .inr (.inr (.inr (.inr (fun j => (rs[j]?).map ad)))))
  | .inr (.inr (ci, fs)) => .inr (ci, tm_slots ad row 0 fs)
def tm_w (cy : Nat → ClassId) (sh : Nat → tmE) (ad : Nat → Nat) (n : Nat) (v : tmM) : va_W := (List.range n).map (fun k => (ad k, tm_ce cy ad (sh k) (v k)))
def tm_set (v : tmM) (k : Nat) (r : Nat → Int32) : tmM := fun i => if i = k then r else v i
def tm_up (v : tmM) (k j : Nat) (x : Int32) : tmM := tm_set v k (upd (v k) j x)
theorem tm_wlen (cy : Nat → ClassId) (sh : Nat → tmE) (ad : Nat → Nat) (n : Nat) (v : tmM) : (tm_w cy sh ad n v).length = n := by simp [tm_w]
theorem tm_wget {cy : Nat → ClassId} {sh : Nat → tmE} {ad : Nat → Nat} {n : Nat} {v : tmM} {X : va_W} {k : Nat} (hk : k < n) : (tm_w cy sh ad n v ++ X)[k]? = some (ad k, tm_ce cy ad (sh k) (v k)) := by
  rw [List.getElem?_append_left (by rw [tm_wlen]; exact hk)]
  simp [tm_w, hk]
theorem tm_wset {cy : Nat → ClassId} {sh : Nat → tmE} {ad : Nat → Nat} {n : Nat} {v : tmM} {X : va_W} {k : Nat} {e : va_E} (hk : k < n) (r : Nat → Int32) (he : tm_ce cy ad (sh k) r = e) : (tm_w cy sh ad n v ++ X).set k (ad k, e) = tm_w cy sh ad n (tm_set v k r) ++ X := by
  rw [List.set_append_left _ _ (by rw [tm_wlen]; exact hk)]
  congr 1
  apply List.ext_getElem?
  intro i
  rw [List.getElem?_set, tm_wlen]
  unfold tm_w
  rw [List.getElem?_map, List.getElem?_map]
  by_cases hi : i < n
  · rw [List.getElem?_range hi]
    by_cases hik : k = i
    · subst hik
      rw [if_pos rfl, if_pos hk]
      show _ = some (ad k, tm_ce cy ad (sh k) (if k = k then r else v k))
      rw [if_pos rfl, he]
    · rw [if_neg hik]
      show _ = some (ad i, tm_ce cy ad (sh i) (if i = k then r else v i))
      rw [if_neg (Ne.symm hik)]
      rfl
  · have h0 : (List.range n)[i]? = none := by rw [List.getElem?_eq_none_iff, List.length_range]; omega
    rw [h0, if_neg (by omega)]
    rfl
theorem tm_fst {A : Nat → Prop} {ws ws' : va_W} (h : ws.map Prod.fst = ws'.map Prod.fst) (hD : va_D A ws) : va_D A ws' := by
  have key : ∀ (k : Nat) (q : Nat × va_E), ws'[k]? = some q → ∃ q0, ws[k]? = some q0 ∧ q0.1 = q.1 := by
    intro k q hk
    have h1 : (ws'.map Prod.fst)[k]? = some q.1 := by rw [List.getElem?_map, hk]; rfl
    rw [← h, List.getElem?_map] at h1
    cases h2 : ws[k]? with
    | none => rw [h2] at h1; cases h1
    | some q0 => rw [h2] at h1; exact ⟨q0, rfl, Option.some.inj h1⟩
  refine ⟨fun i j x y hi hj hxy => ?_, fun k q hk => ?_⟩
  · obtain ⟨x0, h1, h2⟩ := key i x hi
    obtain ⟨y0, h3, h4⟩ := key j y hj
    exact hD.1 i j x0 y0 h1 h3 (h2.trans (hxy.trans h4.symm))
  · obtain ⟨q0, h1, h2⟩ := key k q hk
    rw [← h2]
    exact hD.2 k q0 h1
theorem tm_wfst (cy : Nat → ClassId) (sh : Nat → tmE) (ad : Nat → Nat) (n : Nat) (v v' : tmM) (X : va_W) : (tm_w cy sh ad n v ++ X).map Prod.fst = (tm_w cy sh ad n v' ++ X).map Prod.fst := by
  rw [List.map_append, List.map_append]
  congr 1
  unfold tm_w
  rw [List.map_map, List.map_map]
  rfl
theorem tm_Dv {A : Nat → Prop} {cy : Nat → ClassId} {sh : Nat → tmE} {ad : Nat → Nat} {n : Nat} {v v' : tmM} {X : va_W} (h : va_D A (tm_w cy sh ad n v ++ X)) : va_D A (tm_w cy sh ad n v' ++ X) := tm_fst (tm_wfst cy sh ad n v v' X) h
theorem tm_Dw {A : Nat → Prop} {cy : Nat → ClassId} {sh : Nat → tmE} {ad : Nat → Nat} {n : Nat} {v v' : tmM} (h : va_D A (tm_w cy sh ad n v)) : va_D A (tm_w cy sh ad n v') := by
  have := tm_Dv (v := v) (v' := v') (X := []) (by rw [List.append_nil]; exact h)
  rwa [List.append_nil] at this
theorem tm_left {α β : Type} (f : α → β) (w1 w2 : List α) : (List.range w1.length).map (fun i => (w1 ++ w2)[i]?) = w1.map some := by
  apply List.ext_getElem?
  intro i
  rw [List.getElem?_map, List.getElem?_map]
  by_cases hi : i < w1.length
  · rw [List.getElem?_range hi, List.getElem?_eq_getElem hi]
    show some ((w1 ++ w2)[i]?) = _
    rw [List.getElem?_append_left hi, List.getElem?_eq_getElem hi]
    rfl
  · rw [List.getElem?_eq_none (by rw [List.length_range]; omega), List.getElem?_eq_none (by omega)]
    rfl
theorem tm_right {α : Type} (w1 w2 : List α) : ((List.range w2.length).map (fun i => w1.length + i)).map (fun i => (w1 ++ w2)[i]?) = w2.map some := by
  apply List.ext_getElem?
  intro i
  rw [List.getElem?_map, List.getElem?_map, List.getElem?_map]
  by_cases hi : i < w2.length
  · rw [List.getElem?_range hi, List.getElem?_eq_getElem hi]
    show some ((w1 ++ w2)[w1.length + i]?) = _
    rw [List.getElem?_append_right (by omega), Nat.add_sub_cancel_left, List.getElem?_eq_getElem hi]
    rfl
  · rw [List.getElem?_eq_none (by rw [List.length_range]; omega), List.getElem?_eq_none (by omega)]
    rfl
theorem tm_nd : ∀ (l : List Nat), l.Nodup → va_nd l = true
  | [], _ => rfl
  | a :: l, h => by
    rw [List.nodup_cons] at h
    simp only [va_nd, Bool.and_eq_true, decide_eq_true_eq]
    exact ⟨h.1, tm_nd l h.2⟩
theorem tm_ndr (a n : Nat) : va_nd ((List.range n).map (fun i => a + i)) = true := by
  apply tm_nd
  rw [List.nodup_iff_pairwise_ne, List.pairwise_map]
  exact (List.nodup_iff_pairwise_ne.mp List.nodup_range).imp (fun h q => h (by omega))
theorem tm_Pleft {D : va_G} {cl : List vw_C} {w1 w2 : va_W} {H : Heap} (h : va_P D cl (w1 ++ w2) H) : va_P D cl w1 H := fun k q hk => h k q (by rw [List.getElem?_append_left (List.getElem?_eq_some_iff.mp hk).1]; exact hk)
theorem tm_Dleft {A : Nat → Prop} {w1 w2 : va_W} (h : va_D A (w1 ++ w2)) : va_D A w1 := by
  have e : ∀ (k : Nat) (q : Nat × va_E), w1[k]? = some q → (w1 ++ w2)[k]? = some q := fun k q hk => by rw [List.getElem?_append_left (List.getElem?_eq_some_iff.mp hk).1]; exact hk
  exact ⟨fun i j p q hi hj => h.1 i j p q (e i p hi) (e j q hj), fun k q hk => h.2 k q (e k q hk)⟩
theorem tm_free {A0 : Nat → Prop} {w1 w2 : va_W} {H0 H : Heap} {locs : List Loc} (hD : va_D A0 (w1 ++ w2)) (hS : va_S A0 H0 H locs) (hA : ∀ q, H0.size ≤ q → A0 q) : ∀ q, va_A w1 H.size q → A0 q := va_free hD hS hA (List.range w1.length) (tm_left (fun x : Nat × va_E => x) w1 w2)
theorem tm_swapD {A : Nat → Prop} {w1 w2 : va_W} (h : va_D A (w1 ++ w2)) : va_D A (w2 ++ w1) := by
  have := h.sub (ws' := w2 ++ w1) ((List.range w2.length).map (fun i => w1.length + i) ++ List.range w1.length) ?_ ?_
  · exact this
  · apply tm_nd
    rw [List.nodup_append]
    refine ⟨?_, List.nodup_range, ?_⟩
    · rw [List.nodup_iff_pairwise_ne, List.pairwise_map]
      exact (List.nodup_iff_pairwise_ne.mp List.nodup_range).imp (fun h q => h (by omega))
    · intro a ha b hb e
      obtain ⟨i, -, rfl⟩ := List.mem_map.mp ha
      rw [← e, List.mem_range] at hb
      omega
  · rw [List.map_append, List.map_append, tm_right, tm_left (fun x : Nat × va_E => x)]
theorem tm_swapP {D : va_G} {cl : List vw_C} {w1 w2 : va_W} {H : Heap} (h : va_P D cl (w1 ++ w2) H) : va_P D cl (w2 ++ w1) H := by
  intro k q hk
  rcases List.mem_append.mp (List.mem_of_getElem? hk) with g | g
  · obtain ⟨i, hi⟩ := List.getElem?_of_mem g
    exact h (w1.length + i) q (by rw [List.getElem?_append_right (by omega), Nat.add_sub_cancel_left]; exact hi)
  · obtain ⟨i, hi⟩ := List.getElem?_of_mem g
    exact h i q (by rw [List.getElem?_append_left (List.getElem?_eq_some_iff.mp hi).1]; exact hi)
/-- behind a call whose world is the left part: the right part stays -/
theorem tm_join {A0 : Nat → Prop} {D : va_G} {cl : List vw_C} {wc w2 w1 : va_W} {H H1 : Heap} (hP : va_P D cl (wc ++ w2) H) (hD : va_D A0 (wc ++ w2)) (hk : ∀ q : Nat, q < H.size → ¬ va_A wc H.size q → H1[q]? = H[q]?) (hF : ∀ q, va_A wc H.size q → A0 q) (hP1 : va_P D cl w1 H1) (hD1 : va_D (va_A wc H.size) w1) : va_P D cl (w1 ++ w2) H1 ∧ va_D A0 (w1 ++ w2) := by
  have h := va_join (wr := w2) hP hD (List.range wc.length) ((List.range w2.length).map (fun i => wc.length + i)) (tm_left (fun x : Nat × va_E => x) wc w2) (tm_right wc w2) (tm_ndr _ _) (fun i hi hc => by
    obtain ⟨j, -, rfl⟩ := List.mem_map.mp hi
    rw [List.mem_range] at hc
    omega) hk hF hP1 hD1
  exact ⟨tm_swapP h.1, tm_swapD h.2⟩
/-! the words of nest mates, held beside the tables' -/
def tmNs (NW : List Cond) (U : State) : Prop := ∀ w ∈ NW, va_Nw w U
def tm_isN (w : Cond) : Bool := match w with
  | .fieldLinkNest .. => true
  | .methodLinkNest .. => true
  | .castable .. => true
  | .declares .. => true
  | _ => false
theorem tmNs.warm {NW : List Cond} (hn : NW.all tm_isN = true) {s U : State} (hW : s.WarmedH U.vm) (h : tmNs NW s) : tmNs NW U := by
  intro w hw
  have h1 := List.all_eq_true.mp hn w hw
  have h2 := h w hw
  cases w <;> first | exact va_Nw.warmF hW h2 | exact va_Nw.warmM hW h2 | exact va_Nw.warmC hW h2 | exact va_Nw.warmD hW h2 | (simp [tm_isN] at h1)
theorem tmNs.same {NW : List Cond} (hn : NW.all tm_isN = true) {u U : State} (hv : u.vm = U.vm) (h : tmNs NW u) : tmNs NW U := by
  intro w hw
  have h1 := List.all_eq_true.mp hn w hw
  have h2 := h w hw
  cases w <;> first | exact va_Nw.same rfl hv h2 | (simp [tm_isN] at h1)
theorem tmNs.use {NW : List Cond} (hn : NW.all tm_isN = true) {args : Array Value} {U : State} (h : tmNs NW U) : ∀ w ∈ NW, w.before args U = true := by
  intro w hw
  have h1 := List.all_eq_true.mp hn w hw
  have h2 := h w hw
  cases w <;> first | exact va_Nw.use rfl h2 | (simp [tm_isN] at h1)
def tm_tyF : Nat → FieldType := fun t => match t with
  | 0 => .int
  | 1 => .char
  | 2 => .byte
  | 3 => .boolean
  | 4 => .object "TableMove$State"
  | _ => .array .int
def tm_tys (cy : Nat → ClassId) : List (ClassId × FieldType) := (List.range 6).map (fun t => (cy t, tm_tyF t))
theorem tm_tyget {cy : Nat → ClassId} (t : Nat) (h : t < 6) : (tm_tys cy)[t]? = some (cy t, tm_tyF t) := by simp [tm_tys, h]
/-! results: an answer and what is in the cells; none: the machine would throw, or a loop isn't seen to end -/
def tm_lt {α β : Type} (x : α) (f : α → β) : β := f x
def tm_g {β : Type} (b : Bool) (x : Option β) : Option β := match b with | true => x | false => none
def tm_cl {α β : Type} (o : Option (α × tmM)) (k : α → tmM → Option β) : Option β := match o with | none => none | some y => k y.1 y.2
def tm_ix (i : Int32) (n : Nat) : Bool := decide (¬ (i < 0 ∨ n ≤ i.toNatClampNeg))
theorem tm_ixin {i : Int32} {n : Nat} (h : tm_ix i n = true) : vp_in i n := by
  have h2 : ¬ (i < 0 ∨ n ≤ i.toNatClampNeg) := of_decide_eq_true h
  exact h2
theorem tm_ixlt {i : Int32} {n : Nat} (h : tm_ix i n = true) : i.toNatClampNeg < n := Nat.not_le.mp fun q => (tm_ixin h) (Or.inr q)
theorem tm_shl {sh : Nat → tmE} {e : tmE} {rs : List Nat} {i : Int32} (h : tm_ix i rs.length = true) (ha : ∀ r ∈ rs, sh r = e) : sh (rs.getD i.toNatClampNeg 0) = e := by
  have hl := tm_ixlt h
  rw [List.getD_eq_getElem?_getD, List.getElem?_eq_getElem hl]
  exact ha _ (List.getElem_mem hl)
theorem tm_ltl {n : Nat} {rs : List Nat} {i : Int32} (h : tm_ix i rs.length = true) (ha : ∀ r ∈ rs, r < n) : rs.getD i.toNatClampNeg 0 < n := by
  have hl := tm_ixlt h
  rw [List.getD_eq_getElem?_getD, List.getElem?_eq_getElem hl]
  exact ha _ (List.getElem_mem hl)
theorem tm_fs {C : String} {T : u_T} {N : Nat} {Ts : List Cond} {k : Nat} (hk : k < N) (hin : ∀ w ∈ u_ws C T N, w ∈ Ts) : u_lay C T k ∈ Ts := hin _ (List.mem_map.mpr ⟨k, List.mem_range.mpr hk, rfl⟩)
def tm_cok (sp dp n : Int32) (l0 l1 : Nat) : Bool := decide (¬ sp < 0 ∧ ¬ dp < 0 ∧ ¬ n < 0 ∧ sp.toNatClampNeg + n.toNatClampNeg ≤ l0 ∧ dp.toNatClampNeg + n.toNatClampNeg ≤ l1)
/-- a contract's start: the side's cells as v says -/
def tmPre (NW : List Cond) (sh : Nat → tmE) (n : Nat) (D : va_G) (cy : Nat → ClassId) (ad : Nat → Nat) (sz : Nat) (v : tmM) : State → Prop := fun U => U.heap.size = sz ∧ va_P D vwCl (tm_w cy sh ad n v) U.heap ∧ va_K D vwCl (tm_tys cy) U ∧ tmNs NW U ∧ va_D (fun _ => True) (tm_w cy sh ad n v)
def tmAt (sh : Nat → tmE) (n : Nat) (D : va_G) (cy : Nat → ClassId) (ad : Nat → Nat) (A : Nat → Prop) (v : tmM) (t : State) : Prop := va_P D vwCl (tm_w cy sh ad n v) t.heap ∧ va_D A (tm_w cy sh ad n v)
theorem tmPre.blind {NW : List Cond} (hn : NW.all tm_isN = true) {sh : Nat → tmE} {n : Nat} {D : va_G} {cy : Nat → ClassId} {ad : Nat → Nat} {sz : Nat} {v : tmM} (av : List Value) : FrameBlind (va_Pc av (tmPre NW sh n D cy ad sz v)) := fun a U g mk q => by
  obtain ⟨q0, q1, qP, qK, qN, qD⟩ := q
  exact ⟨q0, q1, qP, va_K.moved (u := U) (U := U.calling g mk a) (Vm.Alike.refl U.vm) qK, tmNs.same hn (u := U) (U := U.calling g mk a) rfl qN, qD⟩
/-- CONTRACTS: a method whose answer is a number / nothing: o is what comes, by the cells -/
def tmMi (NW : List Cond) (sh : Nat → tmE) (n : Nat) (l : Launch) (y : MethodName) (ws : List Cond) (rm : Room) (av : (Nat → Nat) → List Value) (v : tmM) (o : Option (Int32 × tmM)) : Prop :=
  ∀ (D : va_G) (cy : Nat → ClassId) (ad : Nat → Nat) (sz : Nat) (z : Int32 × tmM), o = some z → Met l y ws rm (va_Pc (av ad) (tmPre NW sh n D cy ad sz v)) (va_Qi (fun r u => z = (r, u)) (tmAt sh n D cy ad (va_A (tm_w cy sh ad n v) sz)) (va_A (tm_w cy sh ad n v) sz)) 0 0 (va_A (tm_w cy sh ad n v) sz)
def tmMv (NW : List Cond) (sh : Nat → tmE) (n : Nat) (l : Launch) (y : MethodName) (ws : List Cond) (rm : Room) (av : (Nat → Nat) → List Value) (v : tmM) (o : Option (Unit × tmM)) : Prop :=
  ∀ (D : va_G) (cy : Nat → ClassId) (ad : Nat → Nat) (sz : Nat) (z : Unit × tmM), o = some z → Met l y ws rm (va_Pc (av ad) (tmPre NW sh n D cy ad sz v)) (va_Qv (fun u => z = ((), u)) (tmAt sh n D cy ad (va_A (tm_w cy sh ad n v) sz)) (va_A (tm_w cy sh ad n v) sz)) 0 0 (va_A (tm_w cy sh ad n v) sz)
section TMG
variable {p : Program} {l : Launch} {e : Env} {R : Room} {s : State} {m : MethodId} {args : Array Value} {below : List Frame} {meth : Method} {c : Code} {cells slots : Nat} {Q : State → Prop} {cc : ByteArray} {nL : Nat} {ret : Option FieldType} {own : String} {Ts : List Cond} {NW : List Cond} {D : va_G} {cy : Nat → ClassId} {sh : Nat → tmE} {ad : Nat → Nat} {n : Nat} {X : va_W} {A : Nat → Prop}
/-- what stays through a method's walk -/
def tmC (p : Program) (s : State) (m : MethodId) (args : Array Value) (meth : Method) (c : Code) (cc : ByteArray) (nL : Nat) (ret : Option FieldType) (own : String) (Ts NW : List Cond) (D : va_G) (cy : Nat → ClassId) (sh : Nat → tmE) (ad : Nat → Nat) (n : Nat) (X : va_W) (A : Nat → Prop) : Prop :=
  p.tables.exec = Jvm.exec ∧ c.code = cc ∧ c.maxLocals = nL ∧ meth.sig.returnType = ret ∧ meth.locks = false ∧ s.vm.findClass own = some m.cls ∧ (∀ w ∈ Ts, w.before args s = true) ∧ va_K D vwCl (tm_tys cy) s ∧ tmNs NW s ∧ NW.all tm_isN = true ∧ va_D A (tm_w cy sh ad n (fun _ _ => 0) ++ X) ∧ ∀ q, s.heap.size ≤ q → A q
/-- the walk's word: from here the method ends with z, if z is what is told by res -/
def tmG (p : Program) (l : Launch) (e : Env) (R : Room) (s : State) (m : MethodId) (args : Array Value) (below : List Frame) (meth : Method) (c : Code) (cells slots : Nat) (Q : State → Prop) (nL : Nat) (D : va_G) (cy : Nat → ClassId) (sh : Nat → tmE) (ad : Nat → Nat) (n : Nat) (X : va_W) (A : Nat → Prop) {β : Type} (z : β) (pc : Nat) (lv : List (Nat × Value)) (st : List Value) (v : tmM) (res : Option β) : Prop :=
  res = some z → ∀ (H : Heap) (locs : List Loc) (ls : Array Slot), va_P D vwCl (tm_w cy sh ad n v ++ X) H → va_S A s.heap H locs → lv_has ls nL lv → W p l e R s m args below meth c H locs cells slots Q (F0 m pc ls st)
variable {β : Type} {z : β} {pc : Nat} {lv lv' : List (Nat × Value)} {st : List Value} {v : tmM} {res r1 r2 : Option β}
theorem tmC.dd (C0 : tmC p s m args meth c cc nL ret own Ts NW D cy sh ad n X A) : va_D A (tm_w cy sh ad n v ++ X) := tm_Dv C0.2.2.2.2.2.2.2.2.2.2.1
theorem tg_eq {r : Option β} (h : res = r) (k : tmG p l e R s m args below meth c cells slots Q nL D cy sh ad n X A z pc lv st v r) : tmG p l e R s m args below meth c cells slots Q nL D cy sh ad n X A z pc lv st v res := h ▸ k
theorem tg_none : tmG p l e R s m args below meth c cells slots Q nL D cy sh ad n X A z pc lv st v none := fun h => by cases h
theorem tg_letm {v1 : tmM} {K : tmM → Option β} (k : ∀ v', v' = v1 → tmG p l e R s m args below meth c cells slots Q nL D cy sh ad n X A z pc lv st v' (K v')) : tmG p l e R s m args below meth c cells slots Q nL D cy sh ad n X A z pc lv st v1 (tm_lt v1 K) := k v1 rfl
theorem tg_leti {x : Int32} {K : Int32 → Option β} (k : ∀ y, y = x → tmG p l e R s m args below meth c cells slots Q nL D cy sh ad n X A z pc lv (.int y :: st) v (K y)) : tmG p l e R s m args below meth c cells slots Q nL D cy sh ad n X A z pc lv (.int x :: st) v (tm_lt x K) := k x rfl
theorem tg_g {b : Bool} (k : b = true → tmG p l e R s m args below meth c cells slots Q nL D cy sh ad n X A z pc lv st v res) : tmG p l e R s m args below meth c cells slots Q nL D cy sh ad n X A z pc lv st v (tm_g b res) := by
  cases b with
  | true => exact k rfl
  | false => intro h; cases h
theorem tg_sub (is : List Nat) (hs : is.filterMap (fun i => lv[i]?) = lv') (k : tmG p l e R s m args below meth c cells slots Q nL D cy sh ad n X A z pc lv' st v res) : tmG p l e R s m args below meth c cells slots Q nL D cy sh ad n X A z pc lv st v res := fun hz H locs ls hP hS hL => k hz H locs ls hP hS (lv_sub hL is hs)
theorem tg_iconst {n0 : Int} {x : Int32} (C0 : tmC p s m args meth c cc nL ret own Ts NW D cy sh ad n X A) (hdg : decode cc pc = .ok (.iconst n0, 1)) (hv : Int32.ofInt n0 = x) (k : tmG p l e R s m args below meth c cells slots Q nL D cy sh ad n X A z (pc + 1) lv (.int x :: st) v res) : tmG p l e R s m args below meth c cells slots Q nL D cy sh ad n X A z pc lv st v res := fun hz H locs ls hP hS hL => by
  have hx := C0.1
  have hb := C0.2.1
  exact lv_iconst hx hb hdg hv (k hz H locs ls hP hS hL)
theorem tg_bipush {n0 : Int} {x : Int32} (C0 : tmC p s m args meth c cc nL ret own Ts NW D cy sh ad n X A) (hdg : decode cc pc = .ok (.bipush n0, 2)) (hv : (Int8.ofInt n0).toInt32 = x) (k : tmG p l e R s m args below meth c cells slots Q nL D cy sh ad n X A z (pc + 2) lv (.int x :: st) v res) : tmG p l e R s m args below meth c cells slots Q nL D cy sh ad n X A z pc lv st v res := fun hz H locs ls hP hS hL => by
  have hx := C0.1
  have hb := C0.2.1
  exact lv_bipush hx hb hdg hv (k hz H locs ls hP hS hL)
theorem tg_sipush {n0 : Int} {x : Int32} (C0 : tmC p s m args meth c cc nL ret own Ts NW D cy sh ad n X A) (hdg : decode cc pc = .ok (.sipush n0, 3)) (hv : (Int16.ofInt n0).toInt32 = x) (k : tmG p l e R s m args below meth c cells slots Q nL D cy sh ad n X A z (pc + 3) lv (.int x :: st) v res) : tmG p l e R s m args below meth c cells slots Q nL D cy sh ad n X A z pc lv st v res := fun hz H locs ls hP hS hL => by
  have hx := C0.1
  have hb := C0.2.1
  exact lv_sipush hx hb hdg hv (k hz H locs ls hP hS hL)
theorem tg_iadd {x y : Int32} (C0 : tmC p s m args meth c cc nL ret own Ts NW D cy sh ad n X A) (hdg : decode cc pc = .ok (.iadd, 1)) (k : tmG p l e R s m args below meth c cells slots Q nL D cy sh ad n X A z (pc + 1) lv (.int (x + y) :: st) v res) : tmG p l e R s m args below meth c cells slots Q nL D cy sh ad n X A z pc lv (.int y :: .int x :: st) v res := fun hz H locs ls hP hS hL => by
  have hx := C0.1
  have hb := C0.2.1
  exact lv_iadd hx hb hdg (k hz H locs ls hP hS hL)
theorem tg_isub {x y : Int32} (C0 : tmC p s m args meth c cc nL ret own Ts NW D cy sh ad n X A) (hdg : decode cc pc = .ok (.isub, 1)) (k : tmG p l e R s m args below meth c cells slots Q nL D cy sh ad n X A z (pc + 1) lv (.int (x - y) :: st) v res) : tmG p l e R s m args below meth c cells slots Q nL D cy sh ad n X A z pc lv (.int y :: .int x :: st) v res := fun hz H locs ls hP hS hL => by
  have hx := C0.1
  have hb := C0.2.1
  exact lv_isub hx hb hdg (k hz H locs ls hP hS hL)
theorem tg_imul {x y : Int32} (C0 : tmC p s m args meth c cc nL ret own Ts NW D cy sh ad n X A) (hdg : decode cc pc = .ok (.imul, 1)) (k : tmG p l e R s m args below meth c cells slots Q nL D cy sh ad n X A z (pc + 1) lv (.int (x * y) :: st) v res) : tmG p l e R s m args below meth c cells slots Q nL D cy sh ad n X A z pc lv (.int y :: .int x :: st) v res := fun hz H locs ls hP hS hL => by
  have hx := C0.1
  have hb := C0.2.1
  exact lv_imul hx hb hdg (k hz H locs ls hP hS hL)
theorem tg_iand {x y : Int32} (C0 : tmC p s m args meth c cc nL ret own Ts NW D cy sh ad n X A) (hdg : decode cc pc = .ok (.iand, 1)) (k : tmG p l e R s m args below meth c cells slots Q nL D cy sh ad n X A z (pc + 1) lv (.int (x &&& y) :: st) v res) : tmG p l e R s m args below meth c cells slots Q nL D cy sh ad n X A z pc lv (.int y :: .int x :: st) v res := fun hz H locs ls hP hS hL => by
  have hx := C0.1
  have hb := C0.2.1
  exact lv_iand hx hb hdg (k hz H locs ls hP hS hL)
theorem tg_ior {x y : Int32} (C0 : tmC p s m args meth c cc nL ret own Ts NW D cy sh ad n X A) (hdg : decode cc pc = .ok (.ior, 1)) (k : tmG p l e R s m args below meth c cells slots Q nL D cy sh ad n X A z (pc + 1) lv (.int (x ||| y) :: st) v res) : tmG p l e R s m args below meth c cells slots Q nL D cy sh ad n X A z pc lv (.int y :: .int x :: st) v res := fun hz H locs ls hP hS hL => by
  have hx := C0.1
  have hb := C0.2.1
  exact lv_ior hx hb hdg (k hz H locs ls hP hS hL)
theorem tg_ixor {x y : Int32} (C0 : tmC p s m args meth c cc nL ret own Ts NW D cy sh ad n X A) (hdg : decode cc pc = .ok (.ixor, 1)) (k : tmG p l e R s m args below meth c cells slots Q nL D cy sh ad n X A z (pc + 1) lv (.int (x ^^^ y) :: st) v res) : tmG p l e R s m args below meth c cells slots Q nL D cy sh ad n X A z pc lv (.int y :: .int x :: st) v res := fun hz H locs ls hP hS hL => by
  have hx := C0.1
  have hb := C0.2.1
  exact lv_ixor hx hb hdg (k hz H locs ls hP hS hL)
theorem tg_ishl {x y : Int32} (C0 : tmC p s m args meth c cc nL ret own Ts NW D cy sh ad n X A) (hdg : decode cc pc = .ok (.ishl, 1)) (k : tmG p l e R s m args below meth c cells slots Q nL D cy sh ad n X A z (pc + 1) lv (.int (x <<< (y &&& 31)) :: st) v res) : tmG p l e R s m args below meth c cells slots Q nL D cy sh ad n X A z pc lv (.int y :: .int x :: st) v res := fun hz H locs ls hP hS hL => by
  have hx := C0.1
  have hb := C0.2.1
  exact lv_ishl hx hb hdg (k hz H locs ls hP hS hL)
theorem tg_ishr {x y : Int32} (C0 : tmC p s m args meth c cc nL ret own Ts NW D cy sh ad n X A) (hdg : decode cc pc = .ok (.ishr, 1)) (k : tmG p l e R s m args below meth c cells slots Q nL D cy sh ad n X A z (pc + 1) lv (.int (x >>> (y &&& 31)) :: st) v res) : tmG p l e R s m args below meth c cells slots Q nL D cy sh ad n X A z pc lv (.int y :: .int x :: st) v res := fun hz H locs ls hP hS hL => by
  have hx := C0.1
  have hb := C0.2.1
  exact lv_ishr hx hb hdg (k hz H locs ls hP hS hL)
theorem tg_iushr {x y : Int32} (C0 : tmC p s m args meth c cc nL ret own Ts NW D cy sh ad n X A) (hdg : decode cc pc = .ok (.iushr, 1)) (k : tmG p l e R s m args below meth c cells slots Q nL D cy sh ad n X A z (pc + 1) lv (.int ((x.toUInt32 >>> (y.toUInt32 &&& Int32.toUInt32 31)).toInt32) :: st) v res) : tmG p l e R s m args below meth c cells slots Q nL D cy sh ad n X A z pc lv (.int y :: .int x :: st) v res := fun hz H locs ls hP hS hL => by
  have hx := C0.1
  have hb := C0.2.1
  exact lv_iushr hx hb hdg rfl (k hz H locs ls hP hS hL)
theorem tg_ineg {x : Int32} (C0 : tmC p s m args meth c cc nL ret own Ts NW D cy sh ad n X A) (hdg : decode cc pc = .ok (.ineg, 1)) (k : tmG p l e R s m args below meth c cells slots Q nL D cy sh ad n X A z (pc + 1) lv (.int (-x) :: st) v res) : tmG p l e R s m args below meth c cells slots Q nL D cy sh ad n X A z pc lv (.int x :: st) v res := fun hz H locs ls hP hS hL => by
  have hx := C0.1
  have hb := C0.2.1
  exact lv_ineg hx hb hdg (k hz H locs ls hP hS hL)
theorem tg_i2c {x : Int32} (C0 : tmC p s m args meth c cc nL ret own Ts NW D cy sh ad n X A) (hdg : decode cc pc = .ok (.i2c, 1)) (k : tmG p l e R s m args below meth c cells slots Q nL D cy sh ad n X A z (pc + 1) lv (.int ((x.toUInt32 % 65536).toInt32) :: st) v res) : tmG p l e R s m args below meth c cells slots Q nL D cy sh ad n X A z pc lv (.int x :: st) v res := fun hz H locs ls hP hS hL => by
  have hx := C0.1
  have hb := C0.2.1
  exact lv_i2c hx hb hdg rfl (k hz H locs ls hP hS hL)
theorem tg_i2b {x : Int32} (C0 : tmC p s m args meth c cc nL ret own Ts NW D cy sh ad n X A) (hdg : decode cc pc = .ok (.i2b, 1)) (k : tmG p l e R s m args below meth c cells slots Q nL D cy sh ad n X A z (pc + 1) lv (.int (x.toInt8.toInt32) :: st) v res) : tmG p l e R s m args below meth c cells slots Q nL D cy sh ad n X A z pc lv (.int x :: st) v res := fun hz H locs ls hP hS hL => by
  have hx := C0.1
  have hb := C0.2.1
  exact lv_i2b hx hb hdg rfl (k hz H locs ls hP hS hL)
theorem tg_dup {va : Value} (C0 : tmC p s m args meth c cc nL ret own Ts NW D cy sh ad n X A) (hdg : decode cc pc = .ok (.dup, 1)) (hc : va.category = 1) (k : tmG p l e R s m args below meth c cells slots Q nL D cy sh ad n X A z (pc + 1) lv (va :: va :: st) v res) : tmG p l e R s m args below meth c cells slots Q nL D cy sh ad n X A z pc lv (va :: st) v res := fun hz H locs ls hP hS hL => by
  have hx := C0.1
  have hb := C0.2.1
  exact lv_dup hx hb hdg hc (k hz H locs ls hP hS hL)
theorem tg_pop {va : Value} (C0 : tmC p s m args meth c cc nL ret own Ts NW D cy sh ad n X A) (hdg : decode cc pc = .ok (.pop, 1)) (hc : va.category = 1) (k : tmG p l e R s m args below meth c cells slots Q nL D cy sh ad n X A z (pc + 1) lv st v res) : tmG p l e R s m args below meth c cells slots Q nL D cy sh ad n X A z pc lv (va :: st) v res := fun hz H locs ls hP hS hL => by
  have hx := C0.1
  have hb := C0.2.1
  exact lv_pop hx hb hdg hc (k hz H locs ls hP hS hL)
theorem tg_dup2 {va vb : Value} (C0 : tmC p s m args meth c cc nL ret own Ts NW D cy sh ad n X A) (hdg : decode cc pc = .ok (.dup2, 1)) (hc : va.category = 1 ∧ vb.category = 1) (k : tmG p l e R s m args below meth c cells slots Q nL D cy sh ad n X A z (pc + 1) lv (va :: vb :: va :: vb :: st) v res) : tmG p l e R s m args below meth c cells slots Q nL D cy sh ad n X A z pc lv (va :: vb :: st) v res := fun hz H locs ls hP hS hL => by
  have hx := C0.1
  have hb := C0.2.1
  exact lv_dup2_11 hx hb hdg hc.1 hc.2 (k hz H locs ls hP hS hL)
theorem tg_dup_x1 {va vb : Value} (C0 : tmC p s m args meth c cc nL ret own Ts NW D cy sh ad n X A) (hdg : decode cc pc = .ok (.dup_x1, 1)) (hc : va.category = 1 ∧ vb.category = 1) (k : tmG p l e R s m args below meth c cells slots Q nL D cy sh ad n X A z (pc + 1) lv (va :: vb :: va :: st) v res) : tmG p l e R s m args below meth c cells slots Q nL D cy sh ad n X A z pc lv (va :: vb :: st) v res := fun hz H locs ls hP hS hL => by
  have hx := C0.1
  have hb := C0.2.1
  exact lv_dup_x1 hx hb hdg hc.1 hc.2 (k hz H locs ls hP hS hL)
theorem tg_null (C0 : tmC p s m args meth c cc nL ret own Ts NW D cy sh ad n X A) (hdg : decode cc pc = .ok (.aconst_null, 1)) (k : tmG p l e R s m args below meth c cells slots Q nL D cy sh ad n X A z (pc + 1) lv (.null :: st) v res) : tmG p l e R s m args below meth c cells slots Q nL D cy sh ad n X A z pc lv st v res := fun hz H locs ls hP hS hL => by
  have hx := C0.1
  have hb := C0.2.1
  exact lv_null hx hb hdg (k hz H locs ls hP hS hL)
theorem tg_irem {x y : Int32} (C0 : tmC p s m args meth c cc nL ret own Ts NW D cy sh ad n X A) (hdg : decode cc pc = .ok (.irem, 1)) (k : ¬ y = 0 → tmG p l e R s m args below meth c cells slots Q nL D cy sh ad n X A z (pc + 1) lv (.int (x - x / y * y) :: st) v res) : tmG p l e R s m args below meth c cells slots Q nL D cy sh ad n X A z pc lv (.int y :: .int x :: st) v (tm_g (decide (¬ y = 0)) res) := tg_g fun hy hz H locs ls hP hS hL => lv_irem C0.1 C0.2.1 hdg (of_decide_eq_true hy) (k (of_decide_eq_true hy) hz H locs ls hP hS hL)
theorem tg_idiv {x y : Int32} (C0 : tmC p s m args meth c cc nL ret own Ts NW D cy sh ad n X A) (hdg : decode cc pc = .ok (.idiv, 1)) (k : ¬ y = 0 → tmG p l e R s m args below meth c cells slots Q nL D cy sh ad n X A z (pc + 1) lv (.int (x / y) :: st) v res) : tmG p l e R s m args below meth c cells slots Q nL D cy sh ad n X A z pc lv (.int y :: .int x :: st) v (tm_g (decide (¬ y = 0)) res) := tg_g fun hy hz H locs ls hP hS hL => lv_idiv C0.1 C0.2.1 hdg (of_decide_eq_true hy) (k (of_decide_eq_true hy) hz H locs ls hP hS hL)
theorem tg_iload_n (j : Nat) {k0 : Fin 4} {i : Nat} {x : Int32} (C0 : tmC p s m args meth c cc nL ret own Ts NW D cy sh ad n X A) (hdg : decode cc pc = .ok (.iload_n k0, 1)) (hi : (k0 : Nat) = i) (hl : lv[j]? = some (i, .int x)) (k : tmG p l e R s m args below meth c cells slots Q nL D cy sh ad n X A z (pc + 1) lv (.int x :: st) v res) : tmG p l e R s m args below meth c cells slots Q nL D cy sh ad n X A z pc lv st v res := fun hz H locs ls hP hS hL => lv_iload_n C0.1 C0.2.1 hdg hi (lv_at hL j hl) (k hz H locs ls hP hS hL)
theorem tg_iload (j : Nat) {i : Nat} {x : Int32} (C0 : tmC p s m args meth c cc nL ret own Ts NW D cy sh ad n X A) (hdg : decode cc pc = .ok (.iload i, 2)) (hl : lv[j]? = some (i, .int x)) (k : tmG p l e R s m args below meth c cells slots Q nL D cy sh ad n X A z (pc + 2) lv (.int x :: st) v res) : tmG p l e R s m args below meth c cells slots Q nL D cy sh ad n X A z pc lv st v res := fun hz H locs ls hP hS hL => lv_iload C0.1 C0.2.1 hdg (lv_at hL j hl) (k hz H locs ls hP hS hL)
theorem tg_aload_n (j : Nat) {k0 : Fin 4} {i a : Nat} (C0 : tmC p s m args meth c cc nL ret own Ts NW D cy sh ad n X A) (hdg : decode cc pc = .ok (.aload_n k0, 1)) (hi : (k0 : Nat) = i) (hl : lv[j]? = some (i, .ref a)) (k : tmG p l e R s m args below meth c cells slots Q nL D cy sh ad n X A z (pc + 1) lv (.ref a :: st) v res) : tmG p l e R s m args below meth c cells slots Q nL D cy sh ad n X A z pc lv st v res := fun hz H locs ls hP hS hL => lv_aload_n C0.1 C0.2.1 hdg hi (lv_at hL j hl) (k hz H locs ls hP hS hL)
theorem tg_aload (j : Nat) {i a : Nat} (C0 : tmC p s m args meth c cc nL ret own Ts NW D cy sh ad n X A) (hdg : decode cc pc = .ok (.aload i, 2)) (hl : lv[j]? = some (i, .ref a)) (k : tmG p l e R s m args below meth c cells slots Q nL D cy sh ad n X A z (pc + 2) lv (.ref a :: st) v res) : tmG p l e R s m args below meth c cells slots Q nL D cy sh ad n X A z pc lv st v res := fun hz H locs ls hP hS hL => lv_aload C0.1 C0.2.1 hdg (lv_at hL j hl) (k hz H locs ls hP hS hL)
theorem tg_istore_n (lv' : List (Nat × Value)) {k0 : Fin 4} {i : Nat} {x : Int32} (C0 : tmC p s m args meth c cc nL ret own Ts NW D cy sh ad n X A) (hdg : decode cc pc = .ok (.istore_n k0, 1)) (hi : (k0 : Nat) = i) (hn : i < nL) (hl : (i, Value.int x) :: lv.filter (fun q => !(q.1 == i) && !(q.1 + 1 == i && q.2.category == 2)) = lv') (k : tmG p l e R s m args below meth c cells slots Q nL D cy sh ad n X A z (pc + 1) lv' st v res) : tmG p l e R s m args below meth c cells slots Q nL D cy sh ad n X A z pc lv (.int x :: st) v res := fun hz H locs ls hP hS hL => lv_istore_n C0.1 C0.2.1 hdg hi hL hn hl (fun ls' hL' => k hz H locs ls' hP hS hL')
theorem tg_istore (lv' : List (Nat × Value)) {i : Nat} {x : Int32} (C0 : tmC p s m args meth c cc nL ret own Ts NW D cy sh ad n X A) (hdg : decode cc pc = .ok (.istore i, 2)) (hn : i < nL) (hl : (i, Value.int x) :: lv.filter (fun q => !(q.1 == i) && !(q.1 + 1 == i && q.2.category == 2)) = lv') (k : tmG p l e R s m args below meth c cells slots Q nL D cy sh ad n X A z (pc + 2) lv' st v res) : tmG p l e R s m args below meth c cells slots Q nL D cy sh ad n X A z pc lv (.int x :: st) v res := fun hz H locs ls hP hS hL => lv_istore C0.1 C0.2.1 hdg hL hn hl (fun ls' hL' => k hz H locs ls' hP hS hL')
theorem tg_astore_n (lv' : List (Nat × Value)) {k0 : Fin 4} {i : Nat} {x : Nat} (C0 : tmC p s m args meth c cc nL ret own Ts NW D cy sh ad n X A) (hdg : decode cc pc = .ok (.astore_n k0, 1)) (hi : (k0 : Nat) = i) (hn : i < nL) (hl : (i, Value.ref x) :: lv.filter (fun q => !(q.1 == i) && !(q.1 + 1 == i && q.2.category == 2)) = lv') (k : tmG p l e R s m args below meth c cells slots Q nL D cy sh ad n X A z (pc + 1) lv' st v res) : tmG p l e R s m args below meth c cells slots Q nL D cy sh ad n X A z pc lv (.ref x :: st) v res := fun hz H locs ls hP hS hL => lv_astore_n C0.1 C0.2.1 hdg hi hL hn hl (fun ls' hL' => k hz H locs ls' hP hS hL')
theorem tg_astore (lv' : List (Nat × Value)) {i : Nat} {x : Nat} (C0 : tmC p s m args meth c cc nL ret own Ts NW D cy sh ad n X A) (hdg : decode cc pc = .ok (.astore i, 2)) (hn : i < nL) (hl : (i, Value.ref x) :: lv.filter (fun q => !(q.1 == i) && !(q.1 + 1 == i && q.2.category == 2)) = lv') (k : tmG p l e R s m args below meth c cells slots Q nL D cy sh ad n X A z (pc + 2) lv' st v res) : tmG p l e R s m args below meth c cells slots Q nL D cy sh ad n X A z pc lv (.ref x :: st) v res := fun hz H locs ls hP hS hL => lv_astore C0.1 C0.2.1 hdg hL hn hl (fun ls' hL' => k hz H locs ls' hP hS hL')
theorem tg_iinc (lv' : List (Nat × Value)) (j : Nat) {i : Nat} {d : Int} {x y : Int32} (C0 : tmC p s m args meth c cc nL ret own Ts NW D cy sh ad n X A) (hdg : decode cc pc = .ok (.iinc i d, 3)) (hj : lv[j]? = some (i, .int x)) (hv : x + Int32.ofInt d = y) (hn : i < nL) (hl : (i, Value.int y) :: lv.filter (fun q => !(q.1 == i) && !(q.1 + 1 == i && q.2.category == 2)) = lv') (k : tmG p l e R s m args below meth c cells slots Q nL D cy sh ad n X A z (pc + 3) lv' st v res) : tmG p l e R s m args below meth c cells slots Q nL D cy sh ad n X A z pc lv st v res := fun hz H locs ls hP hS hL => lv_iinc C0.1 C0.2.1 hdg hL hj hv hn hl (fun ls' hL' => k hz H locs ls' hP hS hL')
theorem tg_goto {off : Int} (tgt : Nat) (C0 : tmC p s m args meth c cc nL ret own Ts NW D cy sh ad n X A) (hdg : decode cc pc = .ok (.goto off, 3)) (ht : (pc : Int) + off = (tgt : Int)) (k : tmG p l e R s m args below meth c cells slots Q nL D cy sh ad n X A z tgt lv st v res) : tmG p l e R s m args below meth c cells slots Q nL D cy sh ad n X A z pc lv st v res := fun hz H locs ls hP hS hL => lv_goto C0.1 C0.2.1 hdg ht (k hz H locs ls hP hS hL)
theorem tg_if_eq {x : Int32} {off : Int} (tgt : Nat) (C0 : tmC p s m args meth c cc nL ret own Ts NW D cy sh ad n X A) (hdg : decode cc pc = .ok (.ifCond .eq off, 3)) (ht : (pc : Int) + off = (tgt : Int)) (kt : x = 0 → tmG p l e R s m args below meth c cells slots Q nL D cy sh ad n X A z tgt lv st v r1) (kf : ¬ x = 0 → tmG p l e R s m args below meth c cells slots Q nL D cy sh ad n X A z (pc + 3) lv st v r2) : tmG p l e R s m args below meth c cells slots Q nL D cy sh ad n X A z pc lv (.int x :: st) v (if x = 0 then r1 else r2) := fun hz H locs ls hP hS hL => lv_if_eq C0.1 C0.2.1 hdg ht (fun h => kt h (by rw [if_pos h] at hz; exact hz) H locs ls hP hS hL) (fun h => kf h (by rw [if_neg h] at hz; exact hz) H locs ls hP hS hL)
theorem tg_icmp_eq {x y : Int32} {off : Int} (tgt : Nat) (C0 : tmC p s m args meth c cc nL ret own Ts NW D cy sh ad n X A) (hdg : decode cc pc = .ok (.if_icmp .eq off, 3)) (ht : (pc : Int) + off = (tgt : Int)) (kt : x = y → tmG p l e R s m args below meth c cells slots Q nL D cy sh ad n X A z tgt lv st v r1) (kf : ¬ x = y → tmG p l e R s m args below meth c cells slots Q nL D cy sh ad n X A z (pc + 3) lv st v r2) : tmG p l e R s m args below meth c cells slots Q nL D cy sh ad n X A z pc lv (.int y :: .int x :: st) v (if x = y then r1 else r2) := fun hz H locs ls hP hS hL => lv_icmp_eq C0.1 C0.2.1 hdg ht (fun h => kt h (by rw [if_pos h] at hz; exact hz) H locs ls hP hS hL) (fun h => kf h (by rw [if_neg h] at hz; exact hz) H locs ls hP hS hL)
theorem tg_if_ne {x : Int32} {off : Int} (tgt : Nat) (C0 : tmC p s m args meth c cc nL ret own Ts NW D cy sh ad n X A) (hdg : decode cc pc = .ok (.ifCond .ne off, 3)) (ht : (pc : Int) + off = (tgt : Int)) (kt : ¬ x = 0 → tmG p l e R s m args below meth c cells slots Q nL D cy sh ad n X A z tgt lv st v r2) (kf : x = 0 → tmG p l e R s m args below meth c cells slots Q nL D cy sh ad n X A z (pc + 3) lv st v r1) : tmG p l e R s m args below meth c cells slots Q nL D cy sh ad n X A z pc lv (.int x :: st) v (if x = 0 then r1 else r2) := fun hz H locs ls hP hS hL => lv_if_ne C0.1 C0.2.1 hdg ht (fun h => kt h (by rw [if_neg h] at hz; exact hz) H locs ls hP hS hL) (fun h => kf h (by rw [if_pos h] at hz; exact hz) H locs ls hP hS hL)
theorem tg_icmp_ne {x y : Int32} {off : Int} (tgt : Nat) (C0 : tmC p s m args meth c cc nL ret own Ts NW D cy sh ad n X A) (hdg : decode cc pc = .ok (.if_icmp .ne off, 3)) (ht : (pc : Int) + off = (tgt : Int)) (kt : ¬ x = y → tmG p l e R s m args below meth c cells slots Q nL D cy sh ad n X A z tgt lv st v r2) (kf : x = y → tmG p l e R s m args below meth c cells slots Q nL D cy sh ad n X A z (pc + 3) lv st v r1) : tmG p l e R s m args below meth c cells slots Q nL D cy sh ad n X A z pc lv (.int y :: .int x :: st) v (if x = y then r1 else r2) := fun hz H locs ls hP hS hL => lv_icmp_ne C0.1 C0.2.1 hdg ht (fun h => kt h (by rw [if_neg h] at hz; exact hz) H locs ls hP hS hL) (fun h => kf h (by rw [if_pos h] at hz; exact hz) H locs ls hP hS hL)
theorem tg_if_lt {x : Int32} {off : Int} (tgt : Nat) (C0 : tmC p s m args meth c cc nL ret own Ts NW D cy sh ad n X A) (hdg : decode cc pc = .ok (.ifCond .lt off, 3)) (ht : (pc : Int) + off = (tgt : Int)) (kt : x < 0 → tmG p l e R s m args below meth c cells slots Q nL D cy sh ad n X A z tgt lv st v r1) (kf : ¬ x < 0 → tmG p l e R s m args below meth c cells slots Q nL D cy sh ad n X A z (pc + 3) lv st v r2) : tmG p l e R s m args below meth c cells slots Q nL D cy sh ad n X A z pc lv (.int x :: st) v (if x < 0 then r1 else r2) := fun hz H locs ls hP hS hL => lv_if_lt C0.1 C0.2.1 hdg ht (fun h => kt h (by rw [if_pos h] at hz; exact hz) H locs ls hP hS hL) (fun h => kf h (by rw [if_neg h] at hz; exact hz) H locs ls hP hS hL)
theorem tg_icmp_lt {x y : Int32} {off : Int} (tgt : Nat) (C0 : tmC p s m args meth c cc nL ret own Ts NW D cy sh ad n X A) (hdg : decode cc pc = .ok (.if_icmp .lt off, 3)) (ht : (pc : Int) + off = (tgt : Int)) (kt : x < y → tmG p l e R s m args below meth c cells slots Q nL D cy sh ad n X A z tgt lv st v r1) (kf : ¬ x < y → tmG p l e R s m args below meth c cells slots Q nL D cy sh ad n X A z (pc + 3) lv st v r2) : tmG p l e R s m args below meth c cells slots Q nL D cy sh ad n X A z pc lv (.int y :: .int x :: st) v (if x < y then r1 else r2) := fun hz H locs ls hP hS hL => lv_icmp_lt C0.1 C0.2.1 hdg ht (fun h => kt h (by rw [if_pos h] at hz; exact hz) H locs ls hP hS hL) (fun h => kf h (by rw [if_neg h] at hz; exact hz) H locs ls hP hS hL)
theorem tg_if_ge {x : Int32} {off : Int} (tgt : Nat) (C0 : tmC p s m args meth c cc nL ret own Ts NW D cy sh ad n X A) (hdg : decode cc pc = .ok (.ifCond .ge off, 3)) (ht : (pc : Int) + off = (tgt : Int)) (kt : 0 ≤ x → tmG p l e R s m args below meth c cells slots Q nL D cy sh ad n X A z tgt lv st v r1) (kf : ¬ 0 ≤ x → tmG p l e R s m args below meth c cells slots Q nL D cy sh ad n X A z (pc + 3) lv st v r2) : tmG p l e R s m args below meth c cells slots Q nL D cy sh ad n X A z pc lv (.int x :: st) v (if 0 ≤ x then r1 else r2) := fun hz H locs ls hP hS hL => lv_if_ge C0.1 C0.2.1 hdg ht (fun h => kt h (by rw [if_pos h] at hz; exact hz) H locs ls hP hS hL) (fun h => kf h (by rw [if_neg h] at hz; exact hz) H locs ls hP hS hL)
theorem tg_icmp_ge {x y : Int32} {off : Int} (tgt : Nat) (C0 : tmC p s m args meth c cc nL ret own Ts NW D cy sh ad n X A) (hdg : decode cc pc = .ok (.if_icmp .ge off, 3)) (ht : (pc : Int) + off = (tgt : Int)) (kt : y ≤ x → tmG p l e R s m args below meth c cells slots Q nL D cy sh ad n X A z tgt lv st v r1) (kf : ¬ y ≤ x → tmG p l e R s m args below meth c cells slots Q nL D cy sh ad n X A z (pc + 3) lv st v r2) : tmG p l e R s m args below meth c cells slots Q nL D cy sh ad n X A z pc lv (.int y :: .int x :: st) v (if y ≤ x then r1 else r2) := fun hz H locs ls hP hS hL => lv_icmp_ge C0.1 C0.2.1 hdg ht (fun h => kt h (by rw [if_pos h] at hz; exact hz) H locs ls hP hS hL) (fun h => kf h (by rw [if_neg h] at hz; exact hz) H locs ls hP hS hL)
theorem tg_if_gt {x : Int32} {off : Int} (tgt : Nat) (C0 : tmC p s m args meth c cc nL ret own Ts NW D cy sh ad n X A) (hdg : decode cc pc = .ok (.ifCond .gt off, 3)) (ht : (pc : Int) + off = (tgt : Int)) (kt : 0 < x → tmG p l e R s m args below meth c cells slots Q nL D cy sh ad n X A z tgt lv st v r1) (kf : ¬ 0 < x → tmG p l e R s m args below meth c cells slots Q nL D cy sh ad n X A z (pc + 3) lv st v r2) : tmG p l e R s m args below meth c cells slots Q nL D cy sh ad n X A z pc lv (.int x :: st) v (if 0 < x then r1 else r2) := fun hz H locs ls hP hS hL => lv_if_gt C0.1 C0.2.1 hdg ht (fun h => kt h (by rw [if_pos h] at hz; exact hz) H locs ls hP hS hL) (fun h => kf h (by rw [if_neg h] at hz; exact hz) H locs ls hP hS hL)
theorem tg_icmp_gt {x y : Int32} {off : Int} (tgt : Nat) (C0 : tmC p s m args meth c cc nL ret own Ts NW D cy sh ad n X A) (hdg : decode cc pc = .ok (.if_icmp .gt off, 3)) (ht : (pc : Int) + off = (tgt : Int)) (kt : y < x → tmG p l e R s m args below meth c cells slots Q nL D cy sh ad n X A z tgt lv st v r1) (kf : ¬ y < x → tmG p l e R s m args below meth c cells slots Q nL D cy sh ad n X A z (pc + 3) lv st v r2) : tmG p l e R s m args below meth c cells slots Q nL D cy sh ad n X A z pc lv (.int y :: .int x :: st) v (if y < x then r1 else r2) := fun hz H locs ls hP hS hL => lv_icmp_gt C0.1 C0.2.1 hdg ht (fun h => kt h (by rw [if_pos h] at hz; exact hz) H locs ls hP hS hL) (fun h => kf h (by rw [if_neg h] at hz; exact hz) H locs ls hP hS hL)
theorem tg_if_le {x : Int32} {off : Int} (tgt : Nat) (C0 : tmC p s m args meth c cc nL ret own Ts NW D cy sh ad n X A) (hdg : decode cc pc = .ok (.ifCond .le off, 3)) (ht : (pc : Int) + off = (tgt : Int)) (kt : x ≤ 0 → tmG p l e R s m args below meth c cells slots Q nL D cy sh ad n X A z tgt lv st v r1) (kf : ¬ x ≤ 0 → tmG p l e R s m args below meth c cells slots Q nL D cy sh ad n X A z (pc + 3) lv st v r2) : tmG p l e R s m args below meth c cells slots Q nL D cy sh ad n X A z pc lv (.int x :: st) v (if x ≤ 0 then r1 else r2) := fun hz H locs ls hP hS hL => lv_if_le C0.1 C0.2.1 hdg ht (fun h => kt h (by rw [if_pos h] at hz; exact hz) H locs ls hP hS hL) (fun h => kf h (by rw [if_neg h] at hz; exact hz) H locs ls hP hS hL)
theorem tg_icmp_le {x y : Int32} {off : Int} (tgt : Nat) (C0 : tmC p s m args meth c cc nL ret own Ts NW D cy sh ad n X A) (hdg : decode cc pc = .ok (.if_icmp .le off, 3)) (ht : (pc : Int) + off = (tgt : Int)) (kt : x ≤ y → tmG p l e R s m args below meth c cells slots Q nL D cy sh ad n X A z tgt lv st v r1) (kf : ¬ x ≤ y → tmG p l e R s m args below meth c cells slots Q nL D cy sh ad n X A z (pc + 3) lv st v r2) : tmG p l e R s m args below meth c cells slots Q nL D cy sh ad n X A z pc lv (.int y :: .int x :: st) v (if x ≤ y then r1 else r2) := fun hz H locs ls hP hS hL => lv_icmp_le C0.1 C0.2.1 hdg ht (fun h => kt h (by rw [if_pos h] at hz; exact hz) H locs ls hP hS hL) (fun h => kf h (by rw [if_neg h] at hz; exact hz) H locs ls hP hS hL)
theorem tg_tab0 {lo : Int} {x : Int32} : x.toInt < lo ∨ lo + ((0 : Nat) : Int) ≤ x.toInt := by omega
theorem tg_tab (i : Nat) {dflt lo hi : Int} {offs : Array Int} {len : Nat} {x cst : Int32} {off : Int} (tgt : Nat) (h0 : x.toInt < lo ∨ lo + (i : Int) ≤ x.toInt) (C0 : tmC p s m args meth c cc nL ret own Ts NW D cy sh ad n X A) (hdg : decode cc pc = .ok (.tableswitch dflt lo hi offs, len)) (hi2 : lo + (i : Int) ≤ hi) (ho : offs[i]? = some off) (ht : (pc : Int) + off = (tgt : Int)) (hc : cst.toInt = lo + (i : Int)) (k1 : x = cst → tmG p l e R s m args below meth c cells slots Q nL D cy sh ad n X A z tgt lv st v r1) (k2 : (x.toInt < lo ∨ lo + ((i + 1 : Nat) : Int) ≤ x.toInt) → tmG p l e R s m args below meth c cells slots Q nL D cy sh ad n X A z pc lv (.int x :: st) v r2) : tmG p l e R s m args below meth c cells slots Q nL D cy sh ad n X A z pc lv (.int x :: st) v (if x = cst then r1 else r2) := by
  by_cases hxc : x = cst
  · rw [if_pos hxc]
    intro hz H locs ls hP hS hL
    have hxi : x.toInt = lo + (i : Int) := by rw [hxc]; exact hc
    exact lv_tableIn C0.1 C0.2.1 hdg (by omega) (by omega) (by rw [hxi, show (lo + (i : Int) - lo).toNat = i by omega]; exact ho) ht (k1 hxc hz H locs ls hP hS hL)
  · rw [if_neg hxc]
    refine k2 ?_
    have hne : x.toInt ≠ lo + (i : Int) := fun q => hxc (Int32.toInt_inj.mp (q.trans hc.symm))
    omega
theorem tg_tabO (i : Nat) {dflt lo hi : Int} {offs : Array Int} {len : Nat} {x : Int32} (tgt : Nat) (h0 : x.toInt < lo ∨ lo + (i : Int) ≤ x.toInt) (C0 : tmC p s m args meth c cc nL ret own Ts NW D cy sh ad n X A) (hdg : decode cc pc = .ok (.tableswitch dflt lo hi offs, len)) (hi2 : lo + (i : Int) = hi + 1) (ht : (pc : Int) + dflt = (tgt : Int)) (k : tmG p l e R s m args below meth c cells slots Q nL D cy sh ad n X A z tgt lv st v res) : tmG p l e R s m args below meth c cells slots Q nL D cy sh ad n X A z pc lv (.int x :: st) v res := fun hz H locs ls hP hS hL => lv_tableOut C0.1 C0.2.1 hdg (by omega) ht (k hz H locs ls hP hS hL)
theorem tg_look {dflt : Int} {ps : Array (Int × Int)} {len : Nat} {x cst : Int32} {off : Int} (tgt : Nat) (C0 : tmC p s m args meth c cc nL ret own Ts NW D cy sh ad n X A) (hdg : decode cc pc = .ok (.lookupswitch dflt ps, len)) (hp : (ps.toList.zip (ps.toList.drop 1)).all (fun (a, next) => a.1 < next.1) = true) (ho : Op.lookupswitch.offset ps.toList dflt cst.toInt = off) (ht : (pc : Int) + off = (tgt : Int)) (k1 : x = cst → tmG p l e R s m args below meth c cells slots Q nL D cy sh ad n X A z tgt lv st v r1) (k2 : ¬ x = cst → tmG p l e R s m args below meth c cells slots Q nL D cy sh ad n X A z pc lv (.int x :: st) v r2) : tmG p l e R s m args below meth c cells slots Q nL D cy sh ad n X A z pc lv (.int x :: st) v (if x = cst then r1 else r2) := by
  by_cases hxc : x = cst
  · rw [if_pos hxc]
    intro hz H locs ls hP hS hL
    exact lv_lookup C0.1 C0.2.1 hdg hp (by rw [hxc]; exact ho) ht (k1 hxc hz H locs ls hP hS hL)
  · rw [if_neg hxc]
    exact k2 hxc
/-- a lookupswitch over two keys: behind both -/
theorem tg_look2 {dflt o1 o2 : Int} {a b : Int} {ps : Array (Int × Int)} {len : Nat} {x c1 c2 : Int32} (tgt : Nat) (C0 : tmC p s m args meth c cc nL ret own Ts NW D cy sh ad n X A) (hdg : decode cc pc = .ok (.lookupswitch dflt ps, len)) (hp : (ps.toList.zip (ps.toList.drop 1)).all (fun (a, next) => a.1 < next.1) = true) (h1 : ¬ x = c1) (h2 : ¬ x = c2) (hps : ps.toList = [(a, o1), (b, o2)]) (hc : c1.toInt = a ∧ c2.toInt = b) (ht : (pc : Int) + dflt = (tgt : Int)) (k : tmG p l e R s m args below meth c cells slots Q nL D cy sh ad n X A z tgt lv st v res) : tmG p l e R s m args below meth c cells slots Q nL D cy sh ad n X A z pc lv (.int x :: st) v res := fun hz H locs ls hP hS hL => by
  have e1 : x.toInt ≠ a := fun q => h1 (Int32.toInt_inj.mp (q.trans hc.1.symm))
  have e2 : x.toInt ≠ b := fun q => h2 (Int32.toInt_inj.mp (q.trans hc.2.symm))
  refine lv_lookup C0.1 C0.2.1 hdg hp (off := dflt) ?_ ht (k hz H locs ls hP hS hL)
  rw [hps]
  simp [Op.lookupswitch.offset]
  rw [if_neg (Ne.symm e1), if_neg (Ne.symm e2)]
theorem tg_ldc {index : Nat} {x : Int32} (C0 : tmC p s m args meth c cc nL ret own Ts NW D cy sh ad n X A) (hdg : decode cc pc = .ok (.ldc index, 2)) (hw : Cond.constant own index x ∈ Ts) (k : tmG p l e R s m args below meth c cells slots Q nL D cy sh ad n X A z (pc + 2) lv (.int x :: st) v res) : tmG p l e R s m args below meth c cells slots Q nL D cy sh ad n X A z pc lv st v res := fun hz H locs ls hP hS hL => lv_ldc C0.1 C0.2.1 C0.2.2.2.2.2.1 (C0.2.2.2.2.2.2.1 _ hw) hdg (k hz H locs ls hP hS hL)
theorem tg_ldcw {index : Nat} {x : Int32} (C0 : tmC p s m args meth c cc nL ret own Ts NW D cy sh ad n X A) (hdg : decode cc pc = .ok (.ldc_w index, 3)) (hw : Cond.constant own index x ∈ Ts) (k : tmG p l e R s m args below meth c cells slots Q nL D cy sh ad n X A z (pc + 3) lv (.int x :: st) v res) : tmG p l e R s m args below meth c cells slots Q nL D cy sh ad n X A z pc lv st v res := fun hz H locs ls hP hS hL => lv_ldcw C0.1 C0.2.1 C0.2.2.2.2.2.1 (C0.2.2.2.2.2.2.1 _ hw) hdg (k hz H locs ls hP hS hL)
theorem tg_mmax {index : Nat} {x y : Int32} (C0 : tmC p s m args meth c cc nL ret own Ts NW D cy sh ad n X A) (hdg : decode cc pc = .ok (.invokestatic index, 3)) (w1 : Cond.methodLink own index Lib.Math.max.name ∈ Ts) (w2 : Cond.static Lib.Math.max.name ∈ Ts) (w3 : Cond.initialized "java/lang/Math" ∈ Ts) (w4 : Cond.code Lib.Math.max.name Lib.Math.max.code 2 (some .int) ∈ Ts) (hfr : 1 ≤ R.frames) (hlo : (st.map fun v => v.category).sum + 13 ≤ R.locals) (hcs : cells ≤ R.cells ∧ slots ≤ R.slots) (k : tmG p l e R s m args below meth c cells slots Q nL D cy sh ad n X A z (pc + 3) lv (.int (if x < y then y else x) :: st) v res) : tmG p l e R s m args below meth c cells slots Q nL D cy sh ad n X A z pc lv (.int y :: .int x :: st) v res := fun hz H locs ls hP hS hL => va_mmax C0.1 C0.2.1 (C0.2.2.1.trans hL.1.symm) C0.2.2.2.2.2.1 (C0.2.2.2.2.2.2.1 _ w1) (C0.2.2.2.2.2.2.1 _ w2) (C0.2.2.2.2.2.2.1 _ w3) (C0.2.2.2.2.2.2.1 _ w4) hfr hlo hcs.1 hcs.2 hdg (k hz H locs ls hP hS hL)
theorem tg_mmin {index : Nat} {x y : Int32} (C0 : tmC p s m args meth c cc nL ret own Ts NW D cy sh ad n X A) (hdg : decode cc pc = .ok (.invokestatic index, 3)) (w1 : Cond.methodLink own index Lib.Math.min.name ∈ Ts) (w2 : Cond.static Lib.Math.min.name ∈ Ts) (w3 : Cond.initialized "java/lang/Math" ∈ Ts) (w4 : Cond.code Lib.Math.min.name Lib.Math.min.code 2 (some .int) ∈ Ts) (hfr : 1 ≤ R.frames) (hlo : (st.map fun v => v.category).sum + 13 ≤ R.locals) (hcs : cells ≤ R.cells ∧ slots ≤ R.slots) (k : tmG p l e R s m args below meth c cells slots Q nL D cy sh ad n X A z (pc + 3) lv (.int (if y < x then y else x) :: st) v res) : tmG p l e R s m args below meth c cells slots Q nL D cy sh ad n X A z pc lv (.int y :: .int x :: st) v res := fun hz H locs ls hP hS hL => va_mmin C0.1 C0.2.1 (C0.2.2.1.trans hL.1.symm) C0.2.2.2.2.2.1 (C0.2.2.2.2.2.2.1 _ w1) (C0.2.2.2.2.2.2.1 _ w2) (C0.2.2.2.2.2.2.1 _ w3) (C0.2.2.2.2.2.2.1 _ w4) hfr hlo hcs.1 hcs.2 hdg (k hz H locs ls hP hS hL)
theorem tg_iald (k0 : Nat) {len : Nat} {i : Int32} (C0 : tmC p s m args meth c cc nL ret own Ts NW D cy sh ad n X A) (hdg : decode cc pc = .ok (.iaload, 1)) (hk : k0 < n) (hsh : sh k0 = .inl (0, len)) (k : tm_ix i len = true → tmG p l e R s m args below meth c cells slots Q nL D cy sh ad n X A z (pc + 1) lv (.int (v k0 i.toNatClampNeg) :: st) v res) : tmG p l e R s m args below meth c cells slots Q nL D cy sh ad n X A z pc lv (.int i :: .ref (ad k0) :: st) v (tm_g (tm_ix i len) res) := tg_g fun hi hz H locs ls hP hS hL => by
  have ha := tm_wget (cy := cy) (sh := sh) (ad := ad) (v := v) (X := X) hk
  rw [hsh] at ha
  exact va_iald C0.1 C0.2.1 C0.2.2.2.2.2.2.2.1 hP k0 0 ha (tm_tyget 0 (by decide)) (tm_ixin hi) hdg (k hi hz H locs ls hP hS hL)
theorem tg_cald (k0 : Nat) {len : Nat} {i : Int32} (C0 : tmC p s m args meth c cc nL ret own Ts NW D cy sh ad n X A) (hdg : decode cc pc = .ok (.caload, 1)) (hk : k0 < n) (hsh : sh k0 = .inl (1, len)) (k : tm_ix i len = true → tmG p l e R s m args below meth c cells slots Q nL D cy sh ad n X A z (pc + 1) lv (.int (v k0 i.toNatClampNeg) :: st) v res) : tmG p l e R s m args below meth c cells slots Q nL D cy sh ad n X A z pc lv (.int i :: .ref (ad k0) :: st) v (tm_g (tm_ix i len) res) := tg_g fun hi hz H locs ls hP hS hL => by
  have ha := tm_wget (cy := cy) (sh := sh) (ad := ad) (v := v) (X := X) hk
  rw [hsh] at ha
  exact va_cald C0.1 C0.2.1 C0.2.2.2.2.2.2.2.1 hP k0 1 ha (tm_tyget 1 (by decide)) (tm_ixin hi) hdg (k hi hz H locs ls hP hS hL)
theorem tg_bald (k0 : Nat) {len : Nat} {i : Int32} (C0 : tmC p s m args meth c cc nL ret own Ts NW D cy sh ad n X A) (hdg : decode cc pc = .ok (.baload, 1)) (hk : k0 < n) (hsh : sh k0 = .inl (2, len)) (k : tm_ix i len = true → tmG p l e R s m args below meth c cells slots Q nL D cy sh ad n X A z (pc + 1) lv (.int (v k0 i.toNatClampNeg) :: st) v res) : tmG p l e R s m args below meth c cells slots Q nL D cy sh ad n X A z pc lv (.int i :: .ref (ad k0) :: st) v (tm_g (tm_ix i len) res) := tg_g fun hi hz H locs ls hP hS hL => by
  have ha := tm_wget (cy := cy) (sh := sh) (ad := ad) (v := v) (X := X) hk
  rw [hsh] at ha
  exact va_bald C0.1 C0.2.1 C0.2.2.2.2.2.2.2.1 hP k0 2 ha (tm_tyget 2 (by decide)) (tm_ixin hi) hdg (k hi hz H locs ls hP hS hL)
theorem tg_zald (k0 : Nat) {len : Nat} {i : Int32} (C0 : tmC p s m args meth c cc nL ret own Ts NW D cy sh ad n X A) (hdg : decode cc pc = .ok (.baload, 1)) (hk : k0 < n) (hsh : sh k0 = .inl (3, len)) (k : tm_ix i len = true → tmG p l e R s m args below meth c cells slots Q nL D cy sh ad n X A z (pc + 1) lv (.int (v k0 i.toNatClampNeg) :: st) v res) : tmG p l e R s m args below meth c cells slots Q nL D cy sh ad n X A z pc lv (.int i :: .ref (ad k0) :: st) v (tm_g (tm_ix i len) res) := tg_g fun hi hz H locs ls hP hS hL => by
  have ha := tm_wget (cy := cy) (sh := sh) (ad := ad) (v := v) (X := X) hk
  rw [hsh] at ha
  exact va_zald C0.1 C0.2.1 C0.2.2.2.2.2.2.2.1 hP k0 3 ha (tm_tyget 3 (by decide)) (tm_ixin hi) hdg (k hi hz H locs ls hP hS hL)
theorem tg_iast (k0 : Nat) {len : Nat} {i x : Int32} (C0 : tmC p s m args meth c cc nL ret own Ts NW D cy sh ad n X A) (hdg : decode cc pc = .ok (.iastore, 1)) (hk : k0 < n) (hsh : sh k0 = .inl (0, len)) (k : tm_ix i len = true → tmG p l e R s m args below meth c cells slots Q nL D cy sh ad n X A z (pc + 1) lv st (tm_up v k0 i.toNatClampNeg x) res) : tmG p l e R s m args below meth c cells slots Q nL D cy sh ad n X A z pc lv (.int x :: .int i :: .ref (ad k0) :: st) v (tm_g (tm_ix i len) res) := tg_g fun hi hz H locs ls hP hS hL => by
  have ha := tm_wget (cy := cy) (sh := sh) (ad := ad) (v := v) (X := X) hk
  rw [hsh] at ha
  refine va_iast C0.1 C0.2.1 C0.2.2.2.2.2.2.2.1 hP C0.dd hS k0 0 ha (tm_tyget 0 (by decide)) (tm_ixin hi) hdg (fun H1 locs1 hP1 hD1 hS1 => ?_)
  rw [tm_wset hk (upd (v k0) i.toNatClampNeg x) (by rw [hsh]; rfl)] at hP1
  exact k hi hz H1 locs1 ls hP1 hS1 hL
theorem tg_cast (k0 : Nat) {len : Nat} {i x : Int32} (C0 : tmC p s m args meth c cc nL ret own Ts NW D cy sh ad n X A) (hdg : decode cc pc = .ok (.castore, 1)) (hk : k0 < n) (hsh : sh k0 = .inl (1, len)) (k : tm_ix i len = true → tmG p l e R s m args below meth c cells slots Q nL D cy sh ad n X A z (pc + 1) lv st (tm_up v k0 i.toNatClampNeg (vp_nar .char x)) res) : tmG p l e R s m args below meth c cells slots Q nL D cy sh ad n X A z pc lv (.int x :: .int i :: .ref (ad k0) :: st) v (tm_g (tm_ix i len) res) := tg_g fun hi hz H locs ls hP hS hL => by
  have ha := tm_wget (cy := cy) (sh := sh) (ad := ad) (v := v) (X := X) hk
  rw [hsh] at ha
  refine va_cast C0.1 C0.2.1 C0.2.2.2.2.2.2.2.1 hP C0.dd hS k0 1 ha (tm_tyget 1 (by decide)) (tm_ixin hi) hdg (fun H1 locs1 hP1 hD1 hS1 => ?_)
  rw [tm_wset hk (upd (v k0) i.toNatClampNeg (vp_nar .char x)) (by rw [hsh]; rfl)] at hP1
  exact k hi hz H1 locs1 ls hP1 hS1 hL
theorem tg_bast (k0 : Nat) {len : Nat} {i x : Int32} (C0 : tmC p s m args meth c cc nL ret own Ts NW D cy sh ad n X A) (hdg : decode cc pc = .ok (.bastore, 1)) (hk : k0 < n) (hsh : sh k0 = .inl (2, len)) (k : tm_ix i len = true → tmG p l e R s m args below meth c cells slots Q nL D cy sh ad n X A z (pc + 1) lv st (tm_up v k0 i.toNatClampNeg (vp_nar .byte x)) res) : tmG p l e R s m args below meth c cells slots Q nL D cy sh ad n X A z pc lv (.int x :: .int i :: .ref (ad k0) :: st) v (tm_g (tm_ix i len) res) := tg_g fun hi hz H locs ls hP hS hL => by
  have ha := tm_wget (cy := cy) (sh := sh) (ad := ad) (v := v) (X := X) hk
  rw [hsh] at ha
  refine va_bast C0.1 C0.2.1 C0.2.2.2.2.2.2.2.1 hP C0.dd hS k0 2 ha (tm_tyget 2 (by decide)) (tm_ixin hi) hdg (fun H1 locs1 hP1 hD1 hS1 => ?_)
  rw [tm_wset hk (upd (v k0) i.toNatClampNeg (vp_nar .byte x)) (by rw [hsh]; rfl)] at hP1
  exact k hi hz H1 locs1 ls hP1 hS1 hL
theorem tg_zast (k0 : Nat) {len : Nat} {i x : Int32} (C0 : tmC p s m args meth c cc nL ret own Ts NW D cy sh ad n X A) (hdg : decode cc pc = .ok (.bastore, 1)) (hk : k0 < n) (hsh : sh k0 = .inl (3, len)) (k : tm_ix i len = true → tmG p l e R s m args below meth c cells slots Q nL D cy sh ad n X A z (pc + 1) lv st (tm_up v k0 i.toNatClampNeg (vp_nar .boolean x)) res) : tmG p l e R s m args below meth c cells slots Q nL D cy sh ad n X A z pc lv (.int x :: .int i :: .ref (ad k0) :: st) v (tm_g (tm_ix i len) res) := tg_g fun hi hz H locs ls hP hS hL => by
  have ha := tm_wget (cy := cy) (sh := sh) (ad := ad) (v := v) (X := X) hk
  rw [hsh] at ha
  refine va_zast C0.1 C0.2.1 C0.2.2.2.2.2.2.2.1 hP C0.dd hS k0 3 ha (tm_tyget 3 (by decide)) (tm_ixin hi) hdg (fun H1 locs1 hP1 hD1 hS1 => ?_)
  rw [tm_wset hk (upd (v k0) i.toNatClampNeg (vp_nar .boolean x)) (by rw [hsh]; rfl)] at hP1
  exact k hi hz H1 locs1 ls hP1 hS1 hL
theorem tg_aald (k0 : Nat) {t : Nat} {rs : List Nat} {i : Int32} {K : Nat → Option β} (C0 : tmC p s m args meth c cc nL ret own Ts NW D cy sh ad n X A) (hdg : decode cc pc = .ok (.aaload, 1)) (hk : k0 < n) (hsh : sh k0 = .inr (.inl (t, rs))) (ht : t < 6) (htr : (tm_tyF t).isReference = true) (k : ∀ q : Nat, tm_ix i rs.length = true → q = rs.getD i.toNatClampNeg 0 → tmG p l e R s m args below meth c cells slots Q nL D cy sh ad n X A z (pc + 1) lv (.ref (ad q) :: st) v (K q)) : tmG p l e R s m args below meth c cells slots Q nL D cy sh ad n X A z pc lv (.int i :: .ref (ad k0) :: st) v (tm_g (tm_ix i rs.length) (tm_lt (rs.getD i.toNatClampNeg 0) K)) := tg_g fun hi hz H locs ls hP hS hL => by
  have hlt := tm_ixlt hi
  have hin := tm_ixin hi
  have ha := tm_wget (cy := cy) (sh := sh) (ad := ad) (v := v) (X := X) hk
  rw [hsh] at ha
  have hcell := hP k0 _ ha
  exact W.aald (v := .ref (ad (rs.getD i.toNatClampNeg 0))) (ty := tm_tyF t) C0.1 C0.2.1 hcell ((C0.2.2.2.2.2.2.2.1.2 t _ (tm_tyget t ht)).1 rs.length (fun j => va_rf ((rs[j]?).map ad))) htr (fun q => by cases q) (by show ¬ (i < 0 ∨ (arrV _ _ _).slots.size ≤ _); rw [arrV_size]; exact hin) (by
    show (arrV _ _ _).slots[_]? = _
    rw [arrV_read _ _ hlt]
    show some (va_rf ((rs[i.toNatClampNeg]?).map ad)) = _
    rw [List.getD_eq_getElem?_getD, List.getElem?_eq_getElem hlt]
    rfl) rfl rfl hdg (k _ hi rfl hz H locs ls hP hS hL)
theorem tm_all {P : Nat → Prop} {rs : List Nat} {i : Int32} {q : Nat} (h : tm_ix i rs.length = true) (e : q = rs.getD i.toNatClampNeg 0) (ha : ∀ r ∈ rs, P r) : P q := by
  have hl := tm_ixlt h
  rw [e, List.getD_eq_getElem?_getD, List.getElem?_eq_getElem hl]
  exact ha _ (List.getElem_mem hl)
theorem tg_alen (k0 : Nat) {t len : Nat} {x : Int32} (C0 : tmC p s m args meth c cc nL ret own Ts NW D cy sh ad n X A) (hdg : decode cc pc = .ok (.arraylength, 1)) (hk : k0 < n) (hsh : sh k0 = .inl (t, len)) (ht : t < 6) (hv : Int32.ofNat len = x) (k : tmG p l e R s m args below meth c cells slots Q nL D cy sh ad n X A z (pc + 1) lv (.int x :: st) v res) : tmG p l e R s m args below meth c cells slots Q nL D cy sh ad n X A z pc lv (.ref (ad k0) :: st) v res := fun hz H locs ls hP hS hL => by
  have ha := tm_wget (cy := cy) (sh := sh) (ad := ad) (v := v) (X := X) hk
  rw [hsh] at ha
  exact va_alen C0.1 C0.2.1 C0.2.2.2.2.2.2.2.1 hP k0 t ha (tm_tyget t ht) hv hdg (k hz H locs ls hP hS hL)
/-- a place of an object: what is read there -/
def tm_rd (ad : Nat → Nat) (v : tmM) (k j : Nat) (fs : List (Option Nat)) : Value := match fs[j]? with
  | some (some r) => .ref (ad r)
  | _ => .int (v k j)
theorem tm_rdp {ad : Nat → Nat} {v : tmM} {k j : Nat} {fs : List (Option Nat)} {o : Option Nat} (h : fs[j]? = some o) : (tm_slots ad (v k) 0 fs)[j]? = some (tm_rd ad v k j fs) := by
  rw [tm_slots_get ad (v k) fs 0 j o h, Nat.zero_add]
  unfold tm_rd
  rw [h]
  cases o <;> rfl
theorem tg_get (k0 j : Nat) {C ref : String} {T : u_T} {N ci index : Nat} {fs : List (Option Nat)} {o : Option Nat} {va : Value} (C0 : tmC p s m args meth c cc nL ret own Ts NW D cy sh ad n X A) (hdg : decode cc pc = .ok (.getfield index, 3)) (hk : k0 < n) (hsh : sh k0 = .inr (.inr (ci, fs))) (hc : vwCl[ci]? = some (C, T, N)) (hin : ∀ w ∈ u_ws C T N, w ∈ Ts) (hj : j < N) (hlink : Cond.fieldLink own index ref (T j).2.1 (T j).2.2.1 ∈ Ts) (href : (T j).1 = ref) (ho : fs[j]? = some o) (hv : tm_rd ad v k0 j fs = va) (k : tmG p l e R s m args below meth c cells slots Q nL D cy sh ad n X A z (pc + 3) lv (va :: st) v res) : tmG p l e R s m args below meth c cells slots Q nL D cy sh ad n X A z pc lv (.ref (ad k0) :: st) v res := fun hz H locs ls hP hS hL => by
  have ha := tm_wget (cy := cy) (sh := sh) (ad := ad) (v := v) (X := X) hk
  rw [hsh] at ha
  subst hv
  exact va_get C0.1 C0.2.1 C0.2.2.2.2.2.2.1 hin C0.2.2.2.2.2.1 C0.2.2.2.2.2.2.2.1 hP k0 ha hc j hj (C0.2.2.2.2.2.2.1 _ hlink) (by rw [← href]; exact fun _ h => h) (tm_rdp ho) hdg (k hz H locs ls hP hS hL)
theorem tg_getN (k0 j : Nat) {C ref host : String} {T : u_T} {N ci index : Nat} {fs : List (Option Nat)} {o : Option Nat} {va : Value} (C0 : tmC p s m args meth c cc nL ret own Ts NW D cy sh ad n X A) (hdg : decode cc pc = .ok (.getfield index, 3)) (hk : k0 < n) (hsh : sh k0 = .inr (.inr (ci, fs))) (hc : vwCl[ci]? = some (C, T, N)) (hin : ∀ w ∈ u_ws C T N, w ∈ Ts) (hj : j < N) (hlink : Cond.fieldLinkNest own index ref (T j).2.1 (T j).2.2.1 host ∈ NW) (href : (T j).1 = ref) (ho : fs[j]? = some o) (hv : tm_rd ad v k0 j fs = va) (k : tmG p l e R s m args below meth c cells slots Q nL D cy sh ad n X A z (pc + 3) lv (va :: st) v res) : tmG p l e R s m args below meth c cells slots Q nL D cy sh ad n X A z pc lv (.ref (ad k0) :: st) v res := fun hz H locs ls hP hS hL => by
  have ha := tm_wget (cy := cy) (sh := sh) (ad := ad) (v := v) (X := X) hk
  rw [hsh] at ha
  subst hv
  exact va_getN C0.1 C0.2.1 C0.2.2.2.2.2.2.1 hin C0.2.2.2.2.2.1 C0.2.2.2.2.2.2.2.1 hP k0 ha hc j hj (va_Nw.use rfl (C0.2.2.2.2.2.2.2.2.1 _ hlink)) (by rw [← href]; exact fun _ h => h) (tm_rdp ho) hdg (k hz H locs ls hP hS hL)
theorem tm_putw {cy : Nat → ClassId} {sh : Nat → tmE} {ad : Nat → Nat} {n : Nat} {v : tmM} {X : va_W} {k0 j ci : Nat} {fs : List (Option Nat)} {x : Int32} (hk : k0 < n) (hsh : sh k0 = .inr (.inr (ci, fs))) (ho : fs[j]? = some none) : (tm_w cy sh ad n v ++ X).set k0 (ad k0, .inr (ci, (tm_slots ad (v k0) 0 fs).set j (.int x))) = tm_w cy sh ad n (tm_up v k0 j x) ++ X := by
  refine tm_wset hk (upd (v k0) j x) ?_
  rw [hsh]
  show (Sum.inr (ci, tm_slots ad (upd (v k0) j x) 0 fs) : va_E) = _
  rw [tm_slots_set ad (v k0) x fs 0 j ho, Nat.zero_add]
theorem tg_put (k0 j : Nat) {C ref : String} {T : u_T} {ty0 : Nat → FieldType} {N ci index : Nat} {fs : List (Option Nat)} {ty : FieldType} {x : Int32} (C0 : tmC p s m args meth c cc nL ret own Ts NW D cy sh ad n X A) (hdg : decode cc pc = .ok (.putfield index, 3)) (hk : k0 < n) (hsh : sh k0 = .inr (.inr (ci, fs))) (hc : vwCl[ci]? = some (C, T, N)) (hin : ∀ w ∈ u_ws C T N, w ∈ Ts) (hty : ∀ k, k < N → parseFieldDescriptor (T k).2.2.1 = some (ty0 k)) (hnm : ∀ a, a < N → ∀ b, b < N → a ≠ b → (T a).2.1 ≠ (T b).2.1) (hj : j < N) (hlink : Cond.fieldLink own index ref (T j).2.1 (T j).2.2.1 ∈ Ts) (href : (T j).1 = ref) (hfin : (T j).2.2.2 = false) (ho : fs[j]? = some none) (hd : ty0 j = ty) (hnar : narrow ty (.int x) = .int x) (hfit : fits ty (.int x) = true) (k : tmG p l e R s m args below meth c cells slots Q nL D cy sh ad n X A z (pc + 3) lv st (tm_up v k0 j x) res) : tmG p l e R s m args below meth c cells slots Q nL D cy sh ad n X A z pc lv (.int x :: .ref (ad k0) :: st) v res := fun hz H locs ls hP hS hL => by
  have ha := tm_wget (cy := cy) (sh := sh) (ad := ad) (v := v) (X := X) hk
  rw [hsh] at ha
  subst hd
  refine va_put C0.1 C0.2.1 C0.2.2.2.2.2.2.1 hin ty0 hty hnm C0.2.2.2.2.2.1 C0.2.2.2.2.2.2.2.1 hP C0.dd hS k0 ha hc j hj (C0.2.2.2.2.2.2.1 _ hlink) (by rw [← href]; exact fun _ h => h) hfin (hty j hj) hnar hfit (by rw [tm_slots_len]; exact (List.getElem?_eq_some_iff.mp ho).1) hdg (fun H1 locs1 hP1 hD1 hS1 => ?_)
  rw [tm_putw hk hsh ho] at hP1
  exact k hz H1 locs1 ls hP1 hS1 hL
theorem tg_putN (k0 j : Nat) {C ref host : String} {T : u_T} {ty0 : Nat → FieldType} {N ci index : Nat} {fs : List (Option Nat)} {ty : FieldType} {x : Int32} (C0 : tmC p s m args meth c cc nL ret own Ts NW D cy sh ad n X A) (hdg : decode cc pc = .ok (.putfield index, 3)) (hk : k0 < n) (hsh : sh k0 = .inr (.inr (ci, fs))) (hc : vwCl[ci]? = some (C, T, N)) (hin : ∀ w ∈ u_ws C T N, w ∈ Ts) (hty : ∀ k, k < N → parseFieldDescriptor (T k).2.2.1 = some (ty0 k)) (hnm : ∀ a, a < N → ∀ b, b < N → a ≠ b → (T a).2.1 ≠ (T b).2.1) (hj : j < N) (hlink : Cond.fieldLinkNest own index ref (T j).2.1 (T j).2.2.1 host ∈ NW) (href : (T j).1 = ref) (hfin : (T j).2.2.2 = false) (ho : fs[j]? = some none) (hd : ty0 j = ty) (hnar : narrow ty (.int x) = .int x) (hfit : fits ty (.int x) = true) (k : tmG p l e R s m args below meth c cells slots Q nL D cy sh ad n X A z (pc + 3) lv st (tm_up v k0 j x) res) : tmG p l e R s m args below meth c cells slots Q nL D cy sh ad n X A z pc lv (.int x :: .ref (ad k0) :: st) v res := fun hz H locs ls hP hS hL => by
  have ha := tm_wget (cy := cy) (sh := sh) (ad := ad) (v := v) (X := X) hk
  rw [hsh] at ha
  subst hd
  refine va_putN C0.1 C0.2.1 C0.2.2.2.2.2.2.1 hin ty0 hty hnm C0.2.2.2.2.2.1 C0.2.2.2.2.2.2.2.1 hP C0.dd hS k0 ha hc j hj (va_Nw.use rfl (C0.2.2.2.2.2.2.2.2.1 _ hlink)) (by rw [← href]; exact fun _ h => h) hfin (hty j hj) hnar hfit (by rw [tm_slots_len]; exact (List.getElem?_eq_some_iff.mp ho).1) hdg (fun H1 locs1 hP1 hD1 hS1 => ?_)
  rw [tm_putw hk hsh ho] at hP1
  exact k hz H1 locs1 ls hP1 hS1 hL
theorem tg_copy (k0 k1 : Nat) {l0 l1 index : Nat} {sp dp nn : Int32} (C0 : tmC p s m args meth c cc nL ret own Ts NW D cy sh ad n X A) (hdg : decode cc pc = .ok (.invokestatic index, 3)) (hk0 : k0 < n) (hk1 : k1 < n) (hs0 : sh k0 = .inl (0, l0)) (hs1 : sh k1 = .inl (0, l1)) (w1 : Cond.methodLink own index arraycopyName ∈ Ts) (w2 : Cond.native arraycopyName ∈ Ts) (w3 : Cond.static arraycopyName ∈ Ts) (w4 : Cond.initialized "java/lang/System" ∈ Ts) (hfr : 1 ≤ R.frames) (hlo : (st.map fun v => v.category).sum + (nativeFrameWords "java/lang/System" "arraycopy" 5 + 11) ≤ R.locals) (k : tmG p l e R s m args below meth c cells slots Q nL D cy sh ad n X A z (pc + 3) lv st (tm_set v k1 (va_cpy (v k0) (v k1) sp.toNatClampNeg dp.toNatClampNeg nn.toNatClampNeg)) res) : tmG p l e R s m args below meth c cells slots Q nL D cy sh ad n X A z pc lv (.int nn :: .int dp :: .ref (ad k1) :: .int sp :: .ref (ad k0) :: st) v (tm_g (tm_cok sp dp nn l0 l1) res) := tg_g fun hi hz H locs ls hP hS hL => by
  have ha := tm_wget (cy := cy) (sh := sh) (ad := ad) (v := v) (X := X) hk0
  rw [hs0] at ha
  have hb := tm_wget (cy := cy) (sh := sh) (ad := ad) (v := v) (X := X) hk1
  rw [hs1] at hb
  obtain ⟨h1, h2, h3, h4, h5⟩ := of_decide_eq_true hi
  have ht := C0.2.2.2.2.2.2.1
  refine va_copyi C0.1 C0.2.1 (C0.2.2.1.trans hL.1.symm) C0.2.2.2.2.2.1 (ht _ w1) (ht _ w2) (ht _ w3) (ht _ w4) C0.2.2.2.2.2.2.2.1 hP C0.dd hS k0 k1 0 0 ha hb (tm_tyget 0 (by decide)) (tm_tyget 0 (by decide)) rfl h1 h2 h3 h4 h5 (fun _ _ => rfl) hfr hlo hdg (fun H1 locs1 hP1 hD1 hS1 => ?_)
  rw [tm_wset hk1 (va_cpy (v k0) (v k1) sp.toNatClampNeg dp.toNatClampNeg nn.toNatClampNeg) (by rw [hs1]; rfl)] at hP1
  exact k hz H1 locs1 ls hP1 hS1 hL
end TMG
section TMK
variable {p : Program} {l : Launch} {e : Env} {R : Room} {s : State} {m : MethodId} {args : Array Value} {below : List Frame} {meth : Method} {c : Code} {cells slots : Nat} {Q : State → Prop} {cc : ByteArray} {nL : Nat} {ret : Option FieldType} {own : String} {Ts : List Cond} {NW : List Cond} {D : va_G} {cy : Nat → ClassId} {sh : Nat → tmE} {ad : Nat → Nat} {n : Nat} {X : va_W} {A : Nat → Prop}
variable {β : Type} {pc : Nat} {lv lv' : List (Nat × Value)} {st : List Value} {v : tmM}
def tm_bi (x : Int32) : Bool := decide (x = 0 ∨ x = 1)
theorem tm_bin {x : Int32} (h : tm_bi x = true) : narrow .boolean (.int x) = .int x := by
  rcases of_decide_eq_true h with rfl | rfl <;> rfl
theorem tg_iret {z : Int32 × tmM} {x : Int32} (C0 : tmC p s m args meth c cc nL (some .int) own Ts NW D cy sh ad n [] A) (hdg : decode cc pc = .ok (.ireturn, 1)) : tmG p l e R s m args below meth c 0 0 (MQ below (va_Qi (fun r u => z = (r, u)) (tmAt sh n D cy ad A) A) args s 0 0 A) nL D cy sh ad n [] A z pc lv [.int x] v (some (x, v)) := fun hz H locs ls hP hS hL => W.iret C0.1 C0.2.1 C0.2.2.2.1 (fun t ht hW => ⟨⟨x, v, rfl, (Option.some.inj hz).symm, by rw [ht]; exact tm_Pleft hP, (tm_Dleft C0.dd)⟩, hS.F ht⟩) hS.2.2 hdg C0.2.2.2.2.1
theorem tg_zret {z : Int32 × tmM} {x : Int32} {ty : FieldType} (C0 : tmC p s m args meth c cc nL (some ty) own Ts NW D cy sh ad n [] A) (hdg : decode cc pc = .ok (.ireturn, 1)) (hn : narrow ty (.int x) = .int x) : tmG p l e R s m args below meth c 0 0 (MQ below (va_Qi (fun r u => z = (r, u)) (tmAt sh n D cy ad A) A) args s 0 0 A) nL D cy sh ad n [] A z pc lv [.int x] v (some (x, v)) := fun hz H locs ls hP hS hL => W.zret C0.1 C0.2.1 C0.2.2.2.1 hn (fun t ht hW => ⟨⟨x, v, rfl, (Option.some.inj hz).symm, by rw [ht]; exact tm_Pleft hP, (tm_Dleft C0.dd)⟩, hS.F ht⟩) hS.2.2 hdg C0.2.2.2.2.1
theorem tg_bret {z : Int32 × tmM} {x : Int32} (C0 : tmC p s m args meth c cc nL (some .boolean) own Ts NW D cy sh ad n [] A) (hdg : decode cc pc = .ok (.ireturn, 1)) : tmG p l e R s m args below meth c 0 0 (MQ below (va_Qi (fun r u => z = (r, u)) (tmAt sh n D cy ad A) A) args s 0 0 A) nL D cy sh ad n [] A z pc lv [.int x] v (tm_g (tm_bi x) (some (x, v))) := tg_g fun hx => tg_zret C0 hdg (tm_bin hx)
theorem tg_vret {z : Unit × tmM} (C0 : tmC p s m args meth c cc nL none own Ts NW D cy sh ad n [] A) (hdg : decode cc pc = .ok (.return_, 1)) : tmG p l e R s m args below meth c 0 0 (MQ below (va_Qv (fun u => z = ((), u)) (tmAt sh n D cy ad A) A) args s 0 0 A) nL D cy sh ad n [] A z pc lv [] v (some ((), v)) := fun hz H locs ls hP hS hL => W.vret C0.1 C0.2.1 C0.2.2.2.1 (fun t ht hW => ⟨⟨v, rfl, (Option.some.inj hz).symm, by rw [ht]; exact tm_Pleft hP, (tm_Dleft C0.dd)⟩, hS.F ht⟩) hS.2.2 hdg C0.2.2.2.2.1
theorem tmMi.of {y : MethodName} {ws : List Cond} {rm : Room} {av : (Nat → Nat) → List Value} {o : Option (Int32 × tmM)} {rty : FieldType} (hy : plainName y.cls = true) (hw : ws = Cond.code y cc nL (some rty) :: Ts) (hn : NW.all tm_isN = true) (hlen : ∀ ad : Nat → Nat, (lg_sl (av ad)).length ≤ nL)
    (h : ∀ (p : Program) (e : Env) (s : State) (m : MethodId) (args : Array Value) (below : List Frame) (meth : Method) (c : Code) (A : Nat → Prop) (D : va_G) (cy : Nat → ClassId) (ad : Nat → Nat) (z : Int32 × tmM), tmC p s m args meth c cc nL (some rty) y.cls Ts NW D cy sh ad n [] A → tmG p l e rm s m args below meth c 0 0 (MQ below (va_Qi (fun r u => z = (r, u)) (tmAt sh n D cy ad A) A) args s 0 0 A) nL D cy sh ad n [] A z 0 (lv_args 0 (av ad)) [] v o) : tmMi NW sh n l y ws rm av v o := by
  intro D cy ad sz z hz
  refine Met.ofW (cc := cc) (maxL := nL) (ret := (some rty)) hy hw ?_
  intro p e s m args below meth c s₁ B hml hv
  obtain ⟨rfl, hsz, hP, hK, hN, hD0⟩ := hv
  have hx := B.exec
  have hb := B.bytes
  have hr := B.returns
  have hts : ∀ w ∈ Ts, w.before _ s = true := fun w h => atoms_spec (ws := ws) B.pre w (by rw [hw]; exact List.mem_cons_of_mem _ h)
  have hown : s.vm.findClass y.cls = some m.cls := findClass_of_methodNamed B.named
  have hlocks := B.notSynchronized
  subst hsz
  have hD := hD0.self (sz := s.heap.size)
  generalize hAe : va_A (tm_w cy sh ad n v) s.heap.size = A at hD ⊢
  have hA : ∀ q : Nat, s.heap.size ≤ q → A q := fun q h => by rw [← hAe]; exact Or.inr h
  have hl := lv_entry (av ad) (n := nL) (hlen ad)
  rw [lg_entry_eq]
  exact h p e s m _ below meth c A D cy ad z ⟨hx, hb, hml, hr, hlocks, hown, hts, hK, hN, hn, by rw [List.append_nil]; exact tm_Dw hD, hA⟩ hz s.heap [] _ (by rw [List.append_nil]; exact hP) va_S.rf hl
theorem tmMv.of {y : MethodName} {ws : List Cond} {rm : Room} {av : (Nat → Nat) → List Value} {o : Option (Unit × tmM)} (hy : plainName y.cls = true) (hw : ws = Cond.code y cc nL none :: Ts) (hn : NW.all tm_isN = true) (hlen : ∀ ad : Nat → Nat, (lg_sl (av ad)).length ≤ nL)
    (h : ∀ (p : Program) (e : Env) (s : State) (m : MethodId) (args : Array Value) (below : List Frame) (meth : Method) (c : Code) (A : Nat → Prop) (D : va_G) (cy : Nat → ClassId) (ad : Nat → Nat) (z : Unit × tmM), tmC p s m args meth c cc nL none y.cls Ts NW D cy sh ad n [] A → tmG p l e rm s m args below meth c 0 0 (MQ below (va_Qv (fun u => z = ((), u)) (tmAt sh n D cy ad A) A) args s 0 0 A) nL D cy sh ad n [] A z 0 (lv_args 0 (av ad)) [] v o) : tmMv NW sh n l y ws rm av v o := by
  intro D cy ad sz z hz
  refine Met.ofW (cc := cc) (maxL := nL) (ret := none) hy hw ?_
  intro p e s m args below meth c s₁ B hml hv
  obtain ⟨rfl, hsz, hP, hK, hN, hD0⟩ := hv
  have hx := B.exec
  have hb := B.bytes
  have hr := B.returns
  have hts : ∀ w ∈ Ts, w.before _ s = true := fun w h => atoms_spec (ws := ws) B.pre w (by rw [hw]; exact List.mem_cons_of_mem _ h)
  have hown : s.vm.findClass y.cls = some m.cls := findClass_of_methodNamed B.named
  have hlocks := B.notSynchronized
  subst hsz
  have hD := hD0.self (sz := s.heap.size)
  generalize hAe : va_A (tm_w cy sh ad n v) s.heap.size = A at hD ⊢
  have hA : ∀ q : Nat, s.heap.size ≤ q → A q := fun q h => by rw [← hAe]; exact Or.inr h
  have hl := lv_entry (av ad) (n := nL) (hlen ad)
  rw [lg_entry_eq]
  exact h p e s m _ below meth c A D cy ad z ⟨hx, hb, hml, hr, hlocks, hown, hts, hK, hN, hn, by rw [List.append_nil]; exact tm_Dw hD, hA⟩ hz s.heap [] _ (by rw [List.append_nil]; exact hP) va_S.rf hl
theorem tg_callVi (k0 : Nat) {z : β} {y : MethodName} {wsy ws' : List Cond} {rmy : Room} {av : (Nat → Nat) → List Value} {o : Option (Int32 × tmM)} {K : Int32 → tmM → Option β} {C : String} {T : u_T} {N ci : Nat} {fs : List (Option Nat)} {bytes : ByteArray} {maxL idx : Nat} {rt : Option FieldType} {As st0 : List Value} (na : Nat) (C0 : tmC p s m args meth c cc nL ret own Ts NW D cy sh ad n X A) (hdg : decode cc pc = .ok (.invokevirtual idx, 3)) (hM : tmMi NW sh n l y wsy rmy av v o) (hav : av ad = .ref (ad k0) :: As) (hst : st0 = As.reverse ++ .ref (ad k0) :: st) (hk : k0 < n) (hsh : sh k0 = .inr (.inr (ci, fs))) (hc : vwCl[ci]? = some (C, T, N)) (hG : GoodIn Ts (wsV own idx C y wsy)) (hna : As.length = na) (hw : wsy = Cond.code y bytes maxL rt :: ws') (hrc : rmy.cells = 0) (hrs : rmy.slots = 0) (hd : y.cls = C ∧ y.cls ≠ "java/lang/invoke/MethodHandle" ∧ y.cls ≠ "java/lang/invoke/VarHandle" ∧ (parseMethodDescriptor y.desc).map (fun d => d.parameters.length) = some na) (hR : rmy.frames + 1 ≤ R.frames ∧ 8 + (maxL + 11) + rmy.locals ≤ R.locals) (hcat : (st.map fun v => v.category).sum ≤ 8) (hcs : cells ≤ R.cells ∧ slots ≤ R.slots) (k : ∀ (r : Int32) (v' : tmM), o = some (r, v') → tmG p l e R s m args below meth c cells slots Q nL D cy sh ad n X A z (pc + 3) lv (.int r :: st) v' (K r v')) : tmG p l e R s m args below meth c cells slots Q nL D cy sh ad n X A z pc lv st0 v (tm_cl o K) := by
  intro hz
  cases ho : o with
  | none => rw [ho] at hz; cases hz
  | some y0 =>
    rw [ho] at hz
    intro H locs ls hP hS hL
    obtain ⟨r0, v0⟩ := y0
    have hMet := hM D cy ad H.size (r0, v0) ho
    have hts := C0.2.2.2.2.2.2.1
    have hF := tm_free (w1 := tm_w cy sh ad n v) (w2 := X) C0.dd hS C0.2.2.2.2.2.2.2.2.2.2.2

    have ha := tm_wget (cy := cy) (sh := sh) (ad := ad) (v := v) (X := X) hk
    rw [hsh] at ha
    subst hst
    refine va_calli (va_runV (As := As) (rest := st) ⟨C0.1, C0.2.1, C0.2.2.1, C0.2.2.2.2.2.1, hts⟩ hMet (cwV na hts hG hw hrc hrs hd hR) ⟨tmPre.blind C0.2.2.2.2.2.2.2.2.2.1 _, va_recv C0.2.2.2.2.2.2.2.1 hP hc ha, fun U hU hW => ⟨by rw [hav], by rw [hU], by rw [hU]; exact tm_Pleft hP, va_K.moved hW.alike C0.2.2.2.2.2.2.2.1, tmNs.warm C0.2.2.2.2.2.2.2.2.2.1 hW C0.2.2.2.2.2.2.2.2.1, (tm_Dleft C0.dd).weaken (fun _ _ _ _ => trivial)⟩⟩ rfl hna hL.1 rfl (lv_room hcat) hdg ⟨hcs.1, hcs.2⟩) hS (fun q _ h => hF q h) hF (fun r u t H1 locs1 ht hvm hw2 hB hz1 hk1 hS1 => ?_)
    obtain ⟨hP1, hD1⟩ := hB
    rw [ht] at hP1
    cases hw2
    have hj := tm_join hP C0.dd hk1 hF hP1 hD1
    exact k _ _ ho hz H1 locs1 ls hj.1 hS1 hL
theorem tg_callVv (k0 : Nat) {z : β} {y : MethodName} {wsy ws' : List Cond} {rmy : Room} {av : (Nat → Nat) → List Value} {o : Option (Unit × tmM)} {K : Unit → tmM → Option β} {C : String} {T : u_T} {N ci : Nat} {fs : List (Option Nat)} {bytes : ByteArray} {maxL idx : Nat} {rt : Option FieldType} {As st0 : List Value} (na : Nat) (C0 : tmC p s m args meth c cc nL ret own Ts NW D cy sh ad n X A) (hdg : decode cc pc = .ok (.invokevirtual idx, 3)) (hM : tmMv NW sh n l y wsy rmy av v o) (hav : av ad = .ref (ad k0) :: As) (hst : st0 = As.reverse ++ .ref (ad k0) :: st) (hk : k0 < n) (hsh : sh k0 = .inr (.inr (ci, fs))) (hc : vwCl[ci]? = some (C, T, N)) (hG : GoodIn Ts (wsV own idx C y wsy)) (hna : As.length = na) (hw : wsy = Cond.code y bytes maxL rt :: ws') (hrc : rmy.cells = 0) (hrs : rmy.slots = 0) (hd : y.cls = C ∧ y.cls ≠ "java/lang/invoke/MethodHandle" ∧ y.cls ≠ "java/lang/invoke/VarHandle" ∧ (parseMethodDescriptor y.desc).map (fun d => d.parameters.length) = some na) (hR : rmy.frames + 1 ≤ R.frames ∧ 8 + (maxL + 11) + rmy.locals ≤ R.locals) (hcat : (st.map fun v => v.category).sum ≤ 8) (hcs : cells ≤ R.cells ∧ slots ≤ R.slots) (k : ∀ (v' : tmM), o = some ((), v') → tmG p l e R s m args below meth c cells slots Q nL D cy sh ad n X A z (pc + 3) lv st v' (K () v')) : tmG p l e R s m args below meth c cells slots Q nL D cy sh ad n X A z pc lv st0 v (tm_cl o K) := by
  intro hz
  cases ho : o with
  | none => rw [ho] at hz; cases hz
  | some y0 =>
    rw [ho] at hz
    intro H locs ls hP hS hL
    obtain ⟨r0, v0⟩ := y0
    have hMet := hM D cy ad H.size (r0, v0) ho
    have hts := C0.2.2.2.2.2.2.1
    have hF := tm_free (w1 := tm_w cy sh ad n v) (w2 := X) C0.dd hS C0.2.2.2.2.2.2.2.2.2.2.2

    have ha := tm_wget (cy := cy) (sh := sh) (ad := ad) (v := v) (X := X) hk
    rw [hsh] at ha
    subst hst
    refine va_callv (va_runV (As := As) (rest := st) ⟨C0.1, C0.2.1, C0.2.2.1, C0.2.2.2.2.2.1, hts⟩ hMet (cwV na hts hG hw hrc hrs hd hR) ⟨tmPre.blind C0.2.2.2.2.2.2.2.2.2.1 _, va_recv C0.2.2.2.2.2.2.2.1 hP hc ha, fun U hU hW => ⟨by rw [hav], by rw [hU], by rw [hU]; exact tm_Pleft hP, va_K.moved hW.alike C0.2.2.2.2.2.2.2.1, tmNs.warm C0.2.2.2.2.2.2.2.2.2.1 hW C0.2.2.2.2.2.2.2.2.1, (tm_Dleft C0.dd).weaken (fun _ _ _ _ => trivial)⟩⟩ rfl hna hL.1 rfl (lv_room hcat) hdg ⟨hcs.1, hcs.2⟩) hS (fun q _ h => hF q h) hF (fun u t H1 locs1 ht hvm hw2 hB hz1 hk1 hS1 => ?_)
    obtain ⟨hP1, hD1⟩ := hB
    rw [ht] at hP1
    cases hw2
    have hj := tm_join hP C0.dd hk1 hF hP1 hD1
    exact k _ ho hz H1 locs1 ls hj.1 hS1 hL
theorem tg_callSi {z : β} {y : MethodName} {wsy ws' : List Cond} {rmy : Room} {av : (Nat → Nat) → List Value} {o : Option (Int32 × tmM)} {K : Int32 → tmM → Option β} {bytes : ByteArray} {maxL idx : Nat} {rt : Option FieldType} {As st0 : List Value} (na : Nat) (C0 : tmC p s m args meth c cc nL ret own Ts NW D cy sh ad n X A) (hdg : decode cc pc = .ok (.invokestatic idx, 3)) (hM : tmMi NW sh n l y wsy rmy av v o) (hav : av ad = As) (hst : st0 = As.reverse ++ st) (hG : GoodIn Ts wsy) (hlink : Cond.methodLink own idx y ∈ Ts) (hini : Cond.initialized y.cls ∈ Ts) (hstat : Cond.static y ∈ Ts) (hna : As.length = na) (hw : wsy = Cond.code y bytes maxL rt :: ws') (hrc : rmy.cells = 0) (hrs : rmy.slots = 0) (hd : y.cls ≠ "java/lang/invoke/MethodHandle" ∧ y.cls ≠ "java/lang/invoke/VarHandle" ∧ (parseMethodDescriptor y.desc).map (fun d => d.parameters.length) = some na) (hR : rmy.frames + 1 ≤ R.frames ∧ 8 + (maxL + 11) + rmy.locals ≤ R.locals) (hcat : (st.map fun v => v.category).sum ≤ 8) (hcs : cells ≤ R.cells ∧ slots ≤ R.slots) (k : ∀ (r : Int32) (v' : tmM), o = some (r, v') → tmG p l e R s m args below meth c cells slots Q nL D cy sh ad n X A z (pc + 3) lv (.int r :: st) v' (K r v')) : tmG p l e R s m args below meth c cells slots Q nL D cy sh ad n X A z pc lv st0 v (tm_cl o K) := by
  intro hz
  cases ho : o with
  | none => rw [ho] at hz; cases hz
  | some y0 =>
    rw [ho] at hz
    intro H locs ls hP hS hL
    obtain ⟨r0, v0⟩ := y0
    have hMet := hM D cy ad H.size (r0, v0) ho
    have hts := C0.2.2.2.2.2.2.1
    have hF := tm_free (w1 := tm_w cy sh ad n v) (w2 := X) C0.dd hS C0.2.2.2.2.2.2.2.2.2.2.2

    subst hst
    refine va_calli (va_runS (As := As) (rest := st) ⟨C0.1, C0.2.1, C0.2.2.1, C0.2.2.2.2.2.1, hts⟩ hMet ⟨callB_of na hts hG hw hrc hrs (hts _ hini) (hts _ hlink) hd hR, hts _ hstat⟩ ⟨tmPre.blind C0.2.2.2.2.2.2.2.2.2.1 _, fun U hU hW => ⟨by rw [hav], by rw [hU], by rw [hU]; exact tm_Pleft hP, va_K.moved hW.alike C0.2.2.2.2.2.2.2.1, tmNs.warm C0.2.2.2.2.2.2.2.2.2.1 hW C0.2.2.2.2.2.2.2.2.1, (tm_Dleft C0.dd).weaken (fun _ _ _ _ => trivial)⟩⟩ rfl hna hL.1 rfl (lv_room hcat) hdg ⟨hcs.1, hcs.2⟩) hS (fun q _ h => hF q h) hF (fun r u t H1 locs1 ht hvm hw2 hB hz1 hk1 hS1 => ?_)
    obtain ⟨hP1, hD1⟩ := hB
    rw [ht] at hP1
    cases hw2
    have hj := tm_join hP C0.dd hk1 hF hP1 hD1
    exact k _ _ ho hz H1 locs1 ls hj.1 hS1 hL
theorem tg_callSv {z : β} {y : MethodName} {wsy ws' : List Cond} {rmy : Room} {av : (Nat → Nat) → List Value} {o : Option (Unit × tmM)} {K : Unit → tmM → Option β} {bytes : ByteArray} {maxL idx : Nat} {rt : Option FieldType} {As st0 : List Value} (na : Nat) (C0 : tmC p s m args meth c cc nL ret own Ts NW D cy sh ad n X A) (hdg : decode cc pc = .ok (.invokestatic idx, 3)) (hM : tmMv NW sh n l y wsy rmy av v o) (hav : av ad = As) (hst : st0 = As.reverse ++ st) (hG : GoodIn Ts wsy) (hlink : Cond.methodLink own idx y ∈ Ts) (hini : Cond.initialized y.cls ∈ Ts) (hstat : Cond.static y ∈ Ts) (hna : As.length = na) (hw : wsy = Cond.code y bytes maxL rt :: ws') (hrc : rmy.cells = 0) (hrs : rmy.slots = 0) (hd : y.cls ≠ "java/lang/invoke/MethodHandle" ∧ y.cls ≠ "java/lang/invoke/VarHandle" ∧ (parseMethodDescriptor y.desc).map (fun d => d.parameters.length) = some na) (hR : rmy.frames + 1 ≤ R.frames ∧ 8 + (maxL + 11) + rmy.locals ≤ R.locals) (hcat : (st.map fun v => v.category).sum ≤ 8) (hcs : cells ≤ R.cells ∧ slots ≤ R.slots) (k : ∀ (v' : tmM), o = some ((), v') → tmG p l e R s m args below meth c cells slots Q nL D cy sh ad n X A z (pc + 3) lv st v' (K () v')) : tmG p l e R s m args below meth c cells slots Q nL D cy sh ad n X A z pc lv st0 v (tm_cl o K) := by
  intro hz
  cases ho : o with
  | none => rw [ho] at hz; cases hz
  | some y0 =>
    rw [ho] at hz
    intro H locs ls hP hS hL
    obtain ⟨r0, v0⟩ := y0
    have hMet := hM D cy ad H.size (r0, v0) ho
    have hts := C0.2.2.2.2.2.2.1
    have hF := tm_free (w1 := tm_w cy sh ad n v) (w2 := X) C0.dd hS C0.2.2.2.2.2.2.2.2.2.2.2

    subst hst
    refine va_callv (va_runS (As := As) (rest := st) ⟨C0.1, C0.2.1, C0.2.2.1, C0.2.2.2.2.2.1, hts⟩ hMet ⟨callB_of na hts hG hw hrc hrs (hts _ hini) (hts _ hlink) hd hR, hts _ hstat⟩ ⟨tmPre.blind C0.2.2.2.2.2.2.2.2.2.1 _, fun U hU hW => ⟨by rw [hav], by rw [hU], by rw [hU]; exact tm_Pleft hP, va_K.moved hW.alike C0.2.2.2.2.2.2.2.1, tmNs.warm C0.2.2.2.2.2.2.2.2.2.1 hW C0.2.2.2.2.2.2.2.2.1, (tm_Dleft C0.dd).weaken (fun _ _ _ _ => trivial)⟩⟩ rfl hna hL.1 rfl (lv_room hcat) hdg ⟨hcs.1, hcs.2⟩) hS (fun q _ h => hF q h) hF (fun u t H1 locs1 ht hvm hw2 hB hz1 hk1 hS1 => ?_)
    obtain ⟨hP1, hD1⟩ := hB
    rw [ht] at hP1
    cases hw2
    have hj := tm_join hP C0.dd hk1 hF hP1 hD1
    exact k _ ho hz H1 locs1 ls hj.1 hS1 hL
theorem tg_callVNi (k0 : Nat) {z : β} {y : MethodName} {wsy ws' : List Cond} {rmy : Room} {av : (Nat → Nat) → List Value} {o : Option (Int32 × tmM)} {K : Int32 → tmM → Option β} {C : String} {T : u_T} {N ci : Nat} {fs : List (Option Nat)} {host : String} {bytes : ByteArray} {maxL idx : Nat} {rt : Option FieldType} {As st0 : List Value} (na : Nat) (C0 : tmC p s m args meth c cc nL ret own Ts NW D cy sh ad n X A) (hdg : decode cc pc = .ok (.invokevirtual idx, 3)) (hM : tmMi NW sh n l y wsy rmy av v o) (hav : av ad = .ref (ad k0) :: As) (hst : st0 = As.reverse ++ .ref (ad k0) :: st) (hk : k0 < n) (hsh : sh k0 = .inr (.inr (ci, fs))) (hc : vwCl[ci]? = some (C, T, N)) (hG : GoodIn Ts wsy) (hlink : Cond.methodLinkNest own idx y host ∈ NW) (hini : Cond.initialized y.cls ∈ Ts) (hinst : Cond.instanceMethod y ∈ Ts) (hsel : Cond.selects C y y ∈ Ts) (hna : As.length = na) (hw : wsy = Cond.code y bytes maxL rt :: ws') (hrc : rmy.cells = 0) (hrs : rmy.slots = 0) (hd : y.cls ≠ "java/lang/invoke/MethodHandle" ∧ y.cls ≠ "java/lang/invoke/VarHandle" ∧ (parseMethodDescriptor y.desc).map (fun d => d.parameters.length) = some na) (hR : rmy.frames + 1 ≤ R.frames ∧ 8 + (maxL + 11) + rmy.locals ≤ R.locals) (hcat : (st.map fun v => v.category).sum ≤ 8) (hcs : cells ≤ R.cells ∧ slots ≤ R.slots) (k : ∀ (r : Int32) (v' : tmM), o = some (r, v') → tmG p l e R s m args below meth c cells slots Q nL D cy sh ad n X A z (pc + 3) lv (.int r :: st) v' (K r v')) : tmG p l e R s m args below meth c cells slots Q nL D cy sh ad n X A z pc lv st0 v (tm_cl o K) := by
  intro hz
  cases ho : o with
  | none => rw [ho] at hz; cases hz
  | some y0 =>
    rw [ho] at hz
    intro H locs ls hP hS hL
    obtain ⟨r0, v0⟩ := y0
    have hMet := hM D cy ad H.size (r0, v0) ho
    have hts := C0.2.2.2.2.2.2.1
    have hF := tm_free (w1 := tm_w cy sh ad n v) (w2 := X) C0.dd hS C0.2.2.2.2.2.2.2.2.2.2.2

    have ha := tm_wget (cy := cy) (sh := sh) (ad := ad) (v := v) (X := X) hk
    rw [hsh] at ha
    subst hst
    refine va_calli (va_runVN (As := As) (rest := st) ⟨C0.1, C0.2.1, C0.2.2.1, C0.2.2.2.2.2.1, hts⟩ hMet ⟨va_cnB na hts hG hw hrc hrs (C0.2.2.2.2.2.2.2.2.1 _ hlink) (hts _ hini) hd hR, hts _ hinst, hts _ hsel⟩ ⟨tmPre.blind C0.2.2.2.2.2.2.2.2.2.1 _, va_recv C0.2.2.2.2.2.2.2.1 hP hc ha, fun U hU hW => ⟨by rw [hav], by rw [hU], by rw [hU]; exact tm_Pleft hP, va_K.moved hW.alike C0.2.2.2.2.2.2.2.1, tmNs.warm C0.2.2.2.2.2.2.2.2.2.1 hW C0.2.2.2.2.2.2.2.2.1, (tm_Dleft C0.dd).weaken (fun _ _ _ _ => trivial)⟩⟩ rfl hna hL.1 rfl (lv_room hcat) hdg ⟨hcs.1, hcs.2⟩) hS (fun q _ h => hF q h) hF (fun r u t H1 locs1 ht hvm hw2 hB hz1 hk1 hS1 => ?_)
    obtain ⟨hP1, hD1⟩ := hB
    rw [ht] at hP1
    cases hw2
    have hj := tm_join hP C0.dd hk1 hF hP1 hD1
    exact k _ _ ho hz H1 locs1 ls hj.1 hS1 hL
theorem tg_callVNv (k0 : Nat) {z : β} {y : MethodName} {wsy ws' : List Cond} {rmy : Room} {av : (Nat → Nat) → List Value} {o : Option (Unit × tmM)} {K : Unit → tmM → Option β} {C : String} {T : u_T} {N ci : Nat} {fs : List (Option Nat)} {host : String} {bytes : ByteArray} {maxL idx : Nat} {rt : Option FieldType} {As st0 : List Value} (na : Nat) (C0 : tmC p s m args meth c cc nL ret own Ts NW D cy sh ad n X A) (hdg : decode cc pc = .ok (.invokevirtual idx, 3)) (hM : tmMv NW sh n l y wsy rmy av v o) (hav : av ad = .ref (ad k0) :: As) (hst : st0 = As.reverse ++ .ref (ad k0) :: st) (hk : k0 < n) (hsh : sh k0 = .inr (.inr (ci, fs))) (hc : vwCl[ci]? = some (C, T, N)) (hG : GoodIn Ts wsy) (hlink : Cond.methodLinkNest own idx y host ∈ NW) (hini : Cond.initialized y.cls ∈ Ts) (hinst : Cond.instanceMethod y ∈ Ts) (hsel : Cond.selects C y y ∈ Ts) (hna : As.length = na) (hw : wsy = Cond.code y bytes maxL rt :: ws') (hrc : rmy.cells = 0) (hrs : rmy.slots = 0) (hd : y.cls ≠ "java/lang/invoke/MethodHandle" ∧ y.cls ≠ "java/lang/invoke/VarHandle" ∧ (parseMethodDescriptor y.desc).map (fun d => d.parameters.length) = some na) (hR : rmy.frames + 1 ≤ R.frames ∧ 8 + (maxL + 11) + rmy.locals ≤ R.locals) (hcat : (st.map fun v => v.category).sum ≤ 8) (hcs : cells ≤ R.cells ∧ slots ≤ R.slots) (k : ∀ (v' : tmM), o = some ((), v') → tmG p l e R s m args below meth c cells slots Q nL D cy sh ad n X A z (pc + 3) lv st v' (K () v')) : tmG p l e R s m args below meth c cells slots Q nL D cy sh ad n X A z pc lv st0 v (tm_cl o K) := by
  intro hz
  cases ho : o with
  | none => rw [ho] at hz; cases hz
  | some y0 =>
    rw [ho] at hz
    intro H locs ls hP hS hL
    obtain ⟨r0, v0⟩ := y0
    have hMet := hM D cy ad H.size (r0, v0) ho
    have hts := C0.2.2.2.2.2.2.1
    have hF := tm_free (w1 := tm_w cy sh ad n v) (w2 := X) C0.dd hS C0.2.2.2.2.2.2.2.2.2.2.2

    have ha := tm_wget (cy := cy) (sh := sh) (ad := ad) (v := v) (X := X) hk
    rw [hsh] at ha
    subst hst
    refine va_callv (va_runVN (As := As) (rest := st) ⟨C0.1, C0.2.1, C0.2.2.1, C0.2.2.2.2.2.1, hts⟩ hMet ⟨va_cnB na hts hG hw hrc hrs (C0.2.2.2.2.2.2.2.2.1 _ hlink) (hts _ hini) hd hR, hts _ hinst, hts _ hsel⟩ ⟨tmPre.blind C0.2.2.2.2.2.2.2.2.2.1 _, va_recv C0.2.2.2.2.2.2.2.1 hP hc ha, fun U hU hW => ⟨by rw [hav], by rw [hU], by rw [hU]; exact tm_Pleft hP, va_K.moved hW.alike C0.2.2.2.2.2.2.2.1, tmNs.warm C0.2.2.2.2.2.2.2.2.2.1 hW C0.2.2.2.2.2.2.2.2.1, (tm_Dleft C0.dd).weaken (fun _ _ _ _ => trivial)⟩⟩ rfl hna hL.1 rfl (lv_room hcat) hdg ⟨hcs.1, hcs.2⟩) hS (fun q _ h => hF q h) hF (fun u t H1 locs1 ht hvm hw2 hB hz1 hk1 hS1 => ?_)
    obtain ⟨hP1, hD1⟩ := hB
    rw [ht] at hP1
    cases hw2
    have hj := tm_join hP C0.dd hk1 hF hP1 hD1
    exact k _ ho hz H1 locs1 ls hj.1 hS1 hL
theorem tg_callSNi {z : β} {y : MethodName} {wsy ws' : List Cond} {rmy : Room} {av : (Nat → Nat) → List Value} {o : Option (Int32 × tmM)} {K : Int32 → tmM → Option β} {host : String} {bytes : ByteArray} {maxL idx : Nat} {rt : Option FieldType} {As st0 : List Value} (na : Nat) (C0 : tmC p s m args meth c cc nL ret own Ts NW D cy sh ad n X A) (hdg : decode cc pc = .ok (.invokestatic idx, 3)) (hM : tmMi NW sh n l y wsy rmy av v o) (hav : av ad = As) (hst : st0 = As.reverse ++ st) (hG : GoodIn Ts wsy) (hlink : Cond.methodLinkNest own idx y host ∈ NW) (hini : Cond.initialized y.cls ∈ Ts) (hstat : Cond.static y ∈ Ts) (hna : As.length = na) (hw : wsy = Cond.code y bytes maxL rt :: ws') (hrc : rmy.cells = 0) (hrs : rmy.slots = 0) (hd : y.cls ≠ "java/lang/invoke/MethodHandle" ∧ y.cls ≠ "java/lang/invoke/VarHandle" ∧ (parseMethodDescriptor y.desc).map (fun d => d.parameters.length) = some na) (hR : rmy.frames + 1 ≤ R.frames ∧ 8 + (maxL + 11) + rmy.locals ≤ R.locals) (hcat : (st.map fun v => v.category).sum ≤ 8) (hcs : cells ≤ R.cells ∧ slots ≤ R.slots) (k : ∀ (r : Int32) (v' : tmM), o = some (r, v') → tmG p l e R s m args below meth c cells slots Q nL D cy sh ad n X A z (pc + 3) lv (.int r :: st) v' (K r v')) : tmG p l e R s m args below meth c cells slots Q nL D cy sh ad n X A z pc lv st0 v (tm_cl o K) := by
  intro hz
  cases ho : o with
  | none => rw [ho] at hz; cases hz
  | some y0 =>
    rw [ho] at hz
    intro H locs ls hP hS hL
    obtain ⟨r0, v0⟩ := y0
    have hMet := hM D cy ad H.size (r0, v0) ho
    have hts := C0.2.2.2.2.2.2.1
    have hF := tm_free (w1 := tm_w cy sh ad n v) (w2 := X) C0.dd hS C0.2.2.2.2.2.2.2.2.2.2.2

    subst hst
    refine va_calli (va_runSN (As := As) (rest := st) ⟨C0.1, C0.2.1, C0.2.2.1, C0.2.2.2.2.2.1, hts⟩ hMet ⟨va_cnB na hts hG hw hrc hrs (C0.2.2.2.2.2.2.2.2.1 _ hlink) (hts _ hini) hd hR, hts _ hstat, trivial⟩ ⟨tmPre.blind C0.2.2.2.2.2.2.2.2.2.1 _, fun U hU hW => ⟨by rw [hav], by rw [hU], by rw [hU]; exact tm_Pleft hP, va_K.moved hW.alike C0.2.2.2.2.2.2.2.1, tmNs.warm C0.2.2.2.2.2.2.2.2.2.1 hW C0.2.2.2.2.2.2.2.2.1, (tm_Dleft C0.dd).weaken (fun _ _ _ _ => trivial)⟩⟩ rfl hna hL.1 rfl (lv_room hcat) hdg ⟨hcs.1, hcs.2⟩) hS (fun q _ h => hF q h) hF (fun r u t H1 locs1 ht hvm hw2 hB hz1 hk1 hS1 => ?_)
    obtain ⟨hP1, hD1⟩ := hB
    rw [ht] at hP1
    cases hw2
    have hj := tm_join hP C0.dd hk1 hF hP1 hD1
    exact k _ _ ho hz H1 locs1 ls hj.1 hS1 hL
theorem tg_callSNv {z : β} {y : MethodName} {wsy ws' : List Cond} {rmy : Room} {av : (Nat → Nat) → List Value} {o : Option (Unit × tmM)} {K : Unit → tmM → Option β} {host : String} {bytes : ByteArray} {maxL idx : Nat} {rt : Option FieldType} {As st0 : List Value} (na : Nat) (C0 : tmC p s m args meth c cc nL ret own Ts NW D cy sh ad n X A) (hdg : decode cc pc = .ok (.invokestatic idx, 3)) (hM : tmMv NW sh n l y wsy rmy av v o) (hav : av ad = As) (hst : st0 = As.reverse ++ st) (hG : GoodIn Ts wsy) (hlink : Cond.methodLinkNest own idx y host ∈ NW) (hini : Cond.initialized y.cls ∈ Ts) (hstat : Cond.static y ∈ Ts) (hna : As.length = na) (hw : wsy = Cond.code y bytes maxL rt :: ws') (hrc : rmy.cells = 0) (hrs : rmy.slots = 0) (hd : y.cls ≠ "java/lang/invoke/MethodHandle" ∧ y.cls ≠ "java/lang/invoke/VarHandle" ∧ (parseMethodDescriptor y.desc).map (fun d => d.parameters.length) = some na) (hR : rmy.frames + 1 ≤ R.frames ∧ 8 + (maxL + 11) + rmy.locals ≤ R.locals) (hcat : (st.map fun v => v.category).sum ≤ 8) (hcs : cells ≤ R.cells ∧ slots ≤ R.slots) (k : ∀ (v' : tmM), o = some ((), v') → tmG p l e R s m args below meth c cells slots Q nL D cy sh ad n X A z (pc + 3) lv st v' (K () v')) : tmG p l e R s m args below meth c cells slots Q nL D cy sh ad n X A z pc lv st0 v (tm_cl o K) := by
  intro hz
  cases ho : o with
  | none => rw [ho] at hz; cases hz
  | some y0 =>
    rw [ho] at hz
    intro H locs ls hP hS hL
    obtain ⟨r0, v0⟩ := y0
    have hMet := hM D cy ad H.size (r0, v0) ho
    have hts := C0.2.2.2.2.2.2.1
    have hF := tm_free (w1 := tm_w cy sh ad n v) (w2 := X) C0.dd hS C0.2.2.2.2.2.2.2.2.2.2.2

    subst hst
    refine va_callv (va_runSN (As := As) (rest := st) ⟨C0.1, C0.2.1, C0.2.2.1, C0.2.2.2.2.2.1, hts⟩ hMet ⟨va_cnB na hts hG hw hrc hrs (C0.2.2.2.2.2.2.2.2.1 _ hlink) (hts _ hini) hd hR, hts _ hstat, trivial⟩ ⟨tmPre.blind C0.2.2.2.2.2.2.2.2.2.1 _, fun U hU hW => ⟨by rw [hav], by rw [hU], by rw [hU]; exact tm_Pleft hP, va_K.moved hW.alike C0.2.2.2.2.2.2.2.1, tmNs.warm C0.2.2.2.2.2.2.2.2.2.1 hW C0.2.2.2.2.2.2.2.2.1, (tm_Dleft C0.dd).weaken (fun _ _ _ _ => trivial)⟩⟩ rfl hna hL.1 rfl (lv_room hcat) hdg ⟨hcs.1, hcs.2⟩) hS (fun q _ h => hF q h) hF (fun u t H1 locs1 ht hvm hw2 hB hz1 hk1 hS1 => ?_)
    obtain ⟨hP1, hD1⟩ := hB
    rw [ht] at hP1
    cases hw2
    have hj := tm_join hP C0.dd hk1 hF hP1 hD1
    exact k _ ho hz H1 locs1 ls hj.1 hS1 hL
end TMK
