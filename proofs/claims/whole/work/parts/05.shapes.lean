/-! ===== THE SHAPES: the class's cells (a State's are 19, from a multiple of 19: the present one from 0, history from 19 to 190, saved from 209 and 228), then the system's own; the reference's thirteen ===== -/
def tm_shS (b c : Nat) : tmE := match c with
  | 0 => .inr (.inr (7, [none, none, none, none, none, some (b + 1), some (b + 8), some (b + 10), some (b + 13), some (b + 18)]))
  | 1 => .inr (.inr (8, [none, none, some (b + 2), some (b + 5)]))
  | 2 => .inr (.inl (5, [(b + 3), (b + 4)]))
  | 3 => .inl (0, 60)
  | 4 => .inl (0, 60)
  | 5 => .inr (.inl (5, [(b + 6), (b + 7)]))
  | 6 => .inl (0, 60)
  | 7 => .inl (0, 60)
  | 8 => .inr (.inr (5, [some (b + 9), none]))
  | 9 => .inl (0, 60)
  | 10 => .inr (.inr (4, [some (b + 11), some (b + 12), none]))
  | 11 => .inl (0, 30)
  | 12 => .inl (0, 30)
  | 13 => .inr (.inr (9, [some (b + 14), none]))
  | 14 => .inr (.inl (5, [(b + 15), (b + 16), (b + 17)]))
  | 15 => .inl (0, 20)
  | 16 => .inl (0, 20)
  | 17 => .inl (0, 20)
  | 18 => .inl (0, 60)
  | _ => .inl (0, 60)
def tm_shG (k : Nat) : tmE := match k with
  | 247 => .inr (.inr (10, [some 0, some 248, none, none, some 249, none, some 250, some 251, some 256]))
  | 248 => .inr (.inl (4, [19, 38, 57, 76, 95, 114, 133, 152, 171, 190]))
  | 249 => .inr (.inl (4, [209, 228]))
  | 250 => .inl (0, 10)
  | 251 => .inr (.inr (6, [some 252, none, some 253, some 254, some 255, none, none, none, none, none, none]))
  | 252 => .inl (1, 600)
  | 253 => .inl (0, 30)
  | 254 => .inl (0, 30)
  | 255 => .inl (0, 30)
  | _ => .inl (0, 60)
def tm_shC (k : Nat) : tmE := match Nat.ble 247 k with
  | true => tm_shG k
  | false => tm_shS (k / 19 * 19) (k % 19)
def tm_shR (k : Nat) : tmE := match k with
  | 0 => .inr (.inr (11, [none, some 1, some 2, none, some 3, some 4, some 5, none, none, none, none, none, some 6, none, some 7, some 8, none, none, none, none, none, none, none, some 9, none, some 10, some 11, some 12]))
  | 1 => .inl (0, 491)
  | 2 => .inl (0, 4910)
  | 3 => .inl (0, 982)
  | 4 => .inl (3, 2)
  | 5 => .inl (0, 10)
  | 6 => .inl (2, 96)
  | 7 => .inl (2, 15)
  | 8 => .inl (2, 600)
  | 9 => .inl (2, 79)
  | 10 => .inl (0, 30)
  | 11 => .inl (0, 30)
  | 12 => .inl (0, 30)
  | _ => .inl (0, 60)
abbrev tm_isS (k : Nat) : Prop := k % 19 = 0 ∧ k ≤ 228
theorem tm_S0 : tm_isS 0 := ⟨rfl, by decide⟩
theorem tm_S {k : Nat} (c : Nat) (hc : c < 19) (h : tm_isS k) : tm_shC (k + c) = tm_shS k c := by
  have h1 := h.1
  have h2 := h.2
  have e1 : (k + c) / 19 * 19 = k := by omega
  have e2 : (k + c) % 19 = c := by omega
  have e3 : Nat.ble 247 (k + c) = false := by
    cases hb : Nat.ble 247 (k + c) with
    | false => rfl
    | true => exact absurd (Nat.le_of_ble_eq_true hb) (by omega)
  unfold tm_shC
  rw [e3, e1, e2]
theorem tm_Sl {k : Nat} (c : Nat) (hc : c < 19) (h : tm_isS k) : k + c < 256 := by
  have h2 := h.2
  omega
theorem tm_Sall2 {k : Nat} (h : tm_isS k) : ∀ r ∈ [k + 3, k + 4], tm_shC r = .inl (0, 60) ∧ r < 256 := by
  intro r hr
  simp only [List.mem_cons, List.not_mem_nil, or_false] at hr
  rcases hr with rfl | rfl
  · exact ⟨tm_S 3 (by decide) h, tm_Sl 3 (by decide) h⟩
  · exact ⟨tm_S 4 (by decide) h, tm_Sl 4 (by decide) h⟩
theorem tm_Sall5 {k : Nat} (h : tm_isS k) : ∀ r ∈ [k + 6, k + 7], tm_shC r = .inl (0, 60) ∧ r < 256 := by
  intro r hr
  simp only [List.mem_cons, List.not_mem_nil, or_false] at hr
  rcases hr with rfl | rfl
  · exact ⟨tm_S 6 (by decide) h, tm_Sl 6 (by decide) h⟩
  · exact ⟨tm_S 7 (by decide) h, tm_Sl 7 (by decide) h⟩
theorem tm_Sall14 {k : Nat} (h : tm_isS k) : ∀ r ∈ [k + 15, k + 16, k + 17], tm_shC r = .inl (0, 20) ∧ r < 256 := by
  intro r hr
  simp only [List.mem_cons, List.not_mem_nil, or_false] at hr
  rcases hr with rfl | rfl | rfl
  · exact ⟨tm_S 15 (by decide) h, tm_Sl 15 (by decide) h⟩
  · exact ⟨tm_S 16 (by decide) h, tm_Sl 16 (by decide) h⟩
  · exact ⟨tm_S 17 (by decide) h, tm_Sl 17 (by decide) h⟩
/-- an outer row with two rows of sixty behind it -/
def tm_isO (a : Nat) : Prop := (tm_shC a = .inr (.inl (5, [a + 1, a + 2])) ∧ a + 2 < 256) ∧ tm_shC (a + 1) = .inl (0, 60) ∧ tm_shC (a + 2) = .inl (0, 60)
theorem tm_Ol {a : Nat} (h : tm_isO a) : a < 256 := by
  have := h.1.2
  omega
theorem tm_Oall {a : Nat} (h : tm_isO a) : ∀ r ∈ [a + 1, a + 2], tm_shC r = .inl (0, 60) ∧ r < 256 := by
  intro r hr
  have h2 := h.1.2
  rcases List.mem_cons.mp hr with rfl | hr
  · exact ⟨h.2.1, by omega⟩
  · rcases List.mem_cons.mp hr with rfl | hr
    · exact ⟨h.2.2, by omega⟩
    · cases hr
theorem tm_SO {k : Nat} (c : Nat) (hc : c = 2 ∨ c = 5) (h : tm_isS k) : tm_isO (k + c) := by
  have h2 := h.2
  rcases hc with rfl | rfl
  · exact ⟨⟨tm_S 2 (by decide) h, by omega⟩, tm_S 3 (by decide) h, tm_S 4 (by decide) h⟩
  · exact ⟨⟨tm_S 5 (by decide) h, by omega⟩, tm_S 6 (by decide) h, tm_S 7 (by decide) h⟩
/-- a row of numbers of the reference -/
def tm_isI (k n : Nat) : Prop := tm_shR k = .inl (0, n) ∧ k < 13
/-! the tables' words that go over every call -/
def tm_sb : List Cond := [Cond.selects RJ4 yJ5_ensureCapacityInternal_d00df yJ5_ensureCapacityInternal_d00df, Cond.selects RJ4 yJ5_newCapacity_0f7a4 yJ5_newCapacity_0f7a4, Cond.selects RJ4 yJ5_putStringAt_47b60 yJ5_putStringAt_47b60, Cond.selects RJ4 yJ5_inflateIfNeededFor_a7421 yJ5_inflateIfNeededFor_a7421]
/-- the words of the tables that calls may lean on, and what a StringBuilder runs where AbstractStringBuilder's private methods are called -/
def TMW : List Cond := (lw_tbl ++ tm_sb).filter goodWord
theorem tm_inB (k : Nat) {w : Cond} (h : tm_sb[k]? = some w) (hg : goodWord w = true) : w ∈ TMW := List.mem_filter.mpr ⟨List.mem_append_right _ (List.mem_of_getElem? h), hg⟩
theorem tm_in (k : Nat) {w : Cond} (h : lw_tbl[k]? = some w) (hg : goodWord w = true) : w ∈ TMW := List.mem_filter.mpr ⟨List.mem_append_left _ (List.mem_of_getElem? h), hg⟩
theorem tm_us {ws : List Cond} (ps : List Nat) (h : ws = ps.filterMap (fun i => lw_tbl[i]?)) (hg : ws.all goodWord = true) : ∀ w ∈ ws, w ∈ TMW := by
  intro w hw
  refine List.mem_filter.mpr ⟨?_, List.all_eq_true.mp hg w hw⟩
  rw [h] at hw
  obtain ⟨i, -, hi⟩ := List.mem_filterMap.mp hw
  exact List.mem_append_left _ (List.mem_of_getElem? hi)
theorem tm_gl {ws : List Cond} (h : ∀ w ∈ ws, w ∈ TMW) : GoodIn TMW ws := fun w hw => ⟨h w hw, good_of_word (List.mem_filter.mp (h w hw)).2⟩
theorem tm_gc {w : Cond} (h : w ∈ TMW) : GoodIn TMW (w :: TMW) := tm_gl (fun x hx => (List.mem_cons.mp hx).elim (fun e => e ▸ h) id)
theorem tm_gV {own C : String} {idx : Nat} {y : MethodName} {w : Cond} (h1 : Cond.methodLink own idx y ∈ TMW) (h2 : Cond.instanceMethod y ∈ TMW) (h3 : Cond.selects C y y ∈ TMW) (h4 : Cond.initialized C ∈ TMW) (h5 : w ∈ TMW) : GoodIn TMW (wsV own idx C y (w :: TMW)) := tm_gl (fun x hx => by
  unfold wsV at hx
  simp only [List.cons_append, List.nil_append, List.mem_cons] at hx
  rcases hx with rfl | rfl | rfl | rfl | rfl | hx
  · exact h1
  · exact h2
  · exact h3
  · exact h4
  · exact h5
  · exact hx)
theorem tm_gS {own : String} {idx : Nat} {y : MethodName} {w : Cond} (h1 : Cond.methodLink own idx y ∈ TMW) (h2 : Cond.static y ∈ TMW) (h4 : Cond.initialized own ∈ TMW) (h5 : w ∈ TMW) : GoodIn TMW (wsS own idx y (w :: TMW)) := tm_gl (fun x hx => by
  unfold wsS at hx
  simp only [List.cons_append, List.nil_append, List.mem_cons] at hx
  rcases hx with rfl | rfl | rfl | rfl | hx
  · exact h1
  · exact h2
  · exact h4
  · exact h5
  · exact hx)
/-! the words of nest mates, all of the class -/
def tm_NWC : List Cond := [.methodLinkNest RX7 11 yX4_init RX7,
  .fieldLinkNest RX7 102 RX5 "form" "I" RX7,
  .fieldLinkNest RX7 107 RX5 "amount" "I" RX7,
  .fieldLinkNest RX4 82 RX5 "cells" "[[I" RX7,
  .fieldLinkNest RX7 126 RX5 "cells" "[[I" RX7,
  .methodLinkNest RX4 27 yX2_init RX7,
  .fieldLinkNest RX7 205 RX2 "keys" "[I" RX7,
  .fieldLinkNest RX4 213 RX2 "keys" "[I" RX7,
  .fieldLinkNest RX7 149 RX2 "length" "I" RX7,
  .fieldLinkNest RX4 130 RX2 "length" "I" RX7,
  .methodLinkNest RX4 34 yX1_init RX7,
  .fieldLinkNest RX7 217 RX1 "kinds" "[I" RX7,
  .fieldLinkNest RX7 220 RX1 "numbers" "[I" RX7,
  .fieldLinkNest RX7 168 RX1 "kept" "I" RX7,
  .methodLinkNest RX4 41 yX6_init RX7,
  .fieldLinkNest RX7 225 RX6 "facts" "[[I" RX7,
  .fieldLinkNest RX7 159 RX6 "all" "I" RX7,
  .fieldLinkNest RX7 92 RX4 "phase" "I" RX7,
  .fieldLinkNest RX7 117 RX4 "up" "I" RX7,
  .fieldLinkNest RX7 134 RX4 "copied" "I" RX7,
  .fieldLinkNest RX7 142 RX4 "checked" "I" RX7,
  .fieldLinkNest RX7 152 RX4 "switched" "I" RX7,
  .fieldLinkNest RX7 98 RX4 "tables" "LTableMove$Tables;" RX7,
  .fieldLinkNest RX7 145 RX4 "queue" "LTableMove$Queue;" RX7,
  .fieldLinkNest RX7 164 RX4 "events" "LTableMove$EventLog;" RX7,
  .fieldLinkNest RX7 155 RX4 "writes" "LTableMove$WriteLog;" RX7,
  .fieldLinkNest RX7 258 RX4 "written" "[I" RX7,
  .methodLinkNest RX7 29 yX3_init RX7,
  .fieldLinkNest RX7 49 RX3 "text" "[C" RX7,
  .fieldLinkNest RX7 41 RX3 "length" "I" RX7,
  .fieldLinkNest RX7 65 RX3 "acts" "[I" RX7,
  .fieldLinkNest RX7 68 RX3 "firsts" "[I" RX7,
  .fieldLinkNest RX7 71 RX3 "seconds" "[I" RX7,
  .fieldLinkNest RX7 62 RX3 "commands" "I" RX7,
  .fieldLinkNest RX7 59 RX3 "errorCode" "I" RX7,
  .fieldLinkNest RX7 85 RX3 "errorPosition" "I" RX7,
  .fieldLinkNest RX3 96 RX7 "COMMANDS" "[LTableMove$Command;" RX7,
  .methodLinkNest RX4 78 yX7_has RX7,
  .methodLinkNest RX5 44 yX7_firstKey RX7,
  .methodLinkNest RX5 47 yX7_lastKey RX7,
  .methodLinkNest RX4 207 yX7_firstKey RX7,
  .methodLinkNest RX4 210 yX7_lastKey RX7,
  .methodLinkNest RX4 142 yX7_lowestMissing RX7,
  .fieldLinkNest RX3 100 RX0 "word" "Ljava/lang/String;" RX7,
  .fieldLinkNest RX3 55 RX0 "numbers" "I" RX7,
  .fieldLinkNest RX3 60 RX0 "least" "I" RX7,
  .fieldLinkNest RX3 63 RX0 "greatest" "I" RX7,
  .fieldLinkNest RX3 70 RX0 "act" "I" RX7,
  .castable "[B" "java/lang/Cloneable",
  .castable "java/lang/ArrayIndexOutOfBoundsException" "java/lang/ArrayIndexOutOfBoundsException",
  .castable "java/lang/ArrayIndexOutOfBoundsException" "java/lang/IndexOutOfBoundsException",
  .castable "java/lang/IllegalArgumentException" "java/lang/IllegalArgumentException",
  .castable "java/lang/IllegalStateException" "java/lang/IllegalStateException",
  .castable "java/lang/IndexOutOfBoundsException" "java/lang/IndexOutOfBoundsException",
  .castable "java/lang/StringIndexOutOfBoundsException" "java/lang/IndexOutOfBoundsException",
  .declares ⟨"java/lang/Exception", "<init>", "()V"⟩,
  .declares ⟨"java/lang/Exception", "<init>", "(Ljava/lang/String;)V"⟩,
  .declares ⟨"java/lang/IndexOutOfBoundsException", "<init>", "()V"⟩,
  .declares ⟨"java/lang/IndexOutOfBoundsException", "<init>", "(Ljava/lang/String;)V"⟩,
  .declares ⟨"java/lang/RuntimeException", "<init>", "()V"⟩,
  .declares ⟨"java/lang/RuntimeException", "<init>", "(Ljava/lang/String;)V"⟩,
  .declares ⟨"java/lang/Throwable", "<init>", "()V"⟩,
  .declares ⟨"java/lang/Throwable", "<init>", "(Ljava/lang/String;)V"⟩]
theorem tm_NWC_ok : tm_NWC.all tm_isN = true := by decide +kernel
def tm_NWR : List Cond := []
theorem tm_NWR_ok : tm_NWR.all tm_isN = true := rfl
theorem tm_nwC_X7_11 : Cond.methodLinkNest RX7 11 yX4_init RX7 ∈ tm_NWC := List.mem_of_getElem? (i := 0) rfl
theorem tm_nwC_X7_102 : Cond.fieldLinkNest RX7 102 RX5 (TX5 0).2.1 (TX5 0).2.2.1 RX7 ∈ tm_NWC := List.mem_of_getElem? (i := 1) rfl
theorem tm_nwC_X7_107 : Cond.fieldLinkNest RX7 107 RX5 (TX5 1).2.1 (TX5 1).2.2.1 RX7 ∈ tm_NWC := List.mem_of_getElem? (i := 2) rfl
theorem tm_nwC_X4_82 : Cond.fieldLinkNest RX4 82 RX5 (TX5 2).2.1 (TX5 2).2.2.1 RX7 ∈ tm_NWC := List.mem_of_getElem? (i := 3) rfl
theorem tm_nwC_X7_126 : Cond.fieldLinkNest RX7 126 RX5 (TX5 2).2.1 (TX5 2).2.2.1 RX7 ∈ tm_NWC := List.mem_of_getElem? (i := 4) rfl
theorem tm_nwC_X4_27 : Cond.methodLinkNest RX4 27 yX2_init RX7 ∈ tm_NWC := List.mem_of_getElem? (i := 5) rfl
theorem tm_nwC_X7_205 : Cond.fieldLinkNest RX7 205 RX2 (TX2 0).2.1 (TX2 0).2.2.1 RX7 ∈ tm_NWC := List.mem_of_getElem? (i := 6) rfl
theorem tm_nwC_X4_213 : Cond.fieldLinkNest RX4 213 RX2 (TX2 0).2.1 (TX2 0).2.2.1 RX7 ∈ tm_NWC := List.mem_of_getElem? (i := 7) rfl
theorem tm_nwC_X7_149 : Cond.fieldLinkNest RX7 149 RX2 (TX2 1).2.1 (TX2 1).2.2.1 RX7 ∈ tm_NWC := List.mem_of_getElem? (i := 8) rfl
theorem tm_nwC_X4_130 : Cond.fieldLinkNest RX4 130 RX2 (TX2 1).2.1 (TX2 1).2.2.1 RX7 ∈ tm_NWC := List.mem_of_getElem? (i := 9) rfl
theorem tm_nwC_X4_34 : Cond.methodLinkNest RX4 34 yX1_init RX7 ∈ tm_NWC := List.mem_of_getElem? (i := 10) rfl
theorem tm_nwC_X7_217 : Cond.fieldLinkNest RX7 217 RX1 (TX1 0).2.1 (TX1 0).2.2.1 RX7 ∈ tm_NWC := List.mem_of_getElem? (i := 11) rfl
theorem tm_nwC_X7_220 : Cond.fieldLinkNest RX7 220 RX1 (TX1 1).2.1 (TX1 1).2.2.1 RX7 ∈ tm_NWC := List.mem_of_getElem? (i := 12) rfl
theorem tm_nwC_X7_168 : Cond.fieldLinkNest RX7 168 RX1 (TX1 2).2.1 (TX1 2).2.2.1 RX7 ∈ tm_NWC := List.mem_of_getElem? (i := 13) rfl
theorem tm_nwC_X4_41 : Cond.methodLinkNest RX4 41 yX6_init RX7 ∈ tm_NWC := List.mem_of_getElem? (i := 14) rfl
theorem tm_nwC_X7_225 : Cond.fieldLinkNest RX7 225 RX6 (TX6 0).2.1 (TX6 0).2.2.1 RX7 ∈ tm_NWC := List.mem_of_getElem? (i := 15) rfl
theorem tm_nwC_X7_159 : Cond.fieldLinkNest RX7 159 RX6 (TX6 1).2.1 (TX6 1).2.2.1 RX7 ∈ tm_NWC := List.mem_of_getElem? (i := 16) rfl
theorem tm_nwC_X7_92 : Cond.fieldLinkNest RX7 92 RX4 (TX4 0).2.1 (TX4 0).2.2.1 RX7 ∈ tm_NWC := List.mem_of_getElem? (i := 17) rfl
theorem tm_nwC_X7_117 : Cond.fieldLinkNest RX7 117 RX4 (TX4 1).2.1 (TX4 1).2.2.1 RX7 ∈ tm_NWC := List.mem_of_getElem? (i := 18) rfl
theorem tm_nwC_X7_134 : Cond.fieldLinkNest RX7 134 RX4 (TX4 2).2.1 (TX4 2).2.2.1 RX7 ∈ tm_NWC := List.mem_of_getElem? (i := 19) rfl
theorem tm_nwC_X7_142 : Cond.fieldLinkNest RX7 142 RX4 (TX4 3).2.1 (TX4 3).2.2.1 RX7 ∈ tm_NWC := List.mem_of_getElem? (i := 20) rfl
theorem tm_nwC_X7_152 : Cond.fieldLinkNest RX7 152 RX4 (TX4 4).2.1 (TX4 4).2.2.1 RX7 ∈ tm_NWC := List.mem_of_getElem? (i := 21) rfl
theorem tm_nwC_X7_98 : Cond.fieldLinkNest RX7 98 RX4 (TX4 5).2.1 (TX4 5).2.2.1 RX7 ∈ tm_NWC := List.mem_of_getElem? (i := 22) rfl
theorem tm_nwC_X7_145 : Cond.fieldLinkNest RX7 145 RX4 (TX4 6).2.1 (TX4 6).2.2.1 RX7 ∈ tm_NWC := List.mem_of_getElem? (i := 23) rfl
theorem tm_nwC_X7_164 : Cond.fieldLinkNest RX7 164 RX4 (TX4 7).2.1 (TX4 7).2.2.1 RX7 ∈ tm_NWC := List.mem_of_getElem? (i := 24) rfl
theorem tm_nwC_X7_155 : Cond.fieldLinkNest RX7 155 RX4 (TX4 8).2.1 (TX4 8).2.2.1 RX7 ∈ tm_NWC := List.mem_of_getElem? (i := 25) rfl
theorem tm_nwC_X7_258 : Cond.fieldLinkNest RX7 258 RX4 (TX4 9).2.1 (TX4 9).2.2.1 RX7 ∈ tm_NWC := List.mem_of_getElem? (i := 26) rfl
theorem tm_nwC_X7_29 : Cond.methodLinkNest RX7 29 yX3_init RX7 ∈ tm_NWC := List.mem_of_getElem? (i := 27) rfl
theorem tm_nwC_X7_49 : Cond.fieldLinkNest RX7 49 RX3 (TX3 0).2.1 (TX3 0).2.2.1 RX7 ∈ tm_NWC := List.mem_of_getElem? (i := 28) rfl
theorem tm_nwC_X7_41 : Cond.fieldLinkNest RX7 41 RX3 (TX3 1).2.1 (TX3 1).2.2.1 RX7 ∈ tm_NWC := List.mem_of_getElem? (i := 29) rfl
theorem tm_nwC_X7_65 : Cond.fieldLinkNest RX7 65 RX3 (TX3 2).2.1 (TX3 2).2.2.1 RX7 ∈ tm_NWC := List.mem_of_getElem? (i := 30) rfl
theorem tm_nwC_X7_68 : Cond.fieldLinkNest RX7 68 RX3 (TX3 3).2.1 (TX3 3).2.2.1 RX7 ∈ tm_NWC := List.mem_of_getElem? (i := 31) rfl
theorem tm_nwC_X7_71 : Cond.fieldLinkNest RX7 71 RX3 (TX3 4).2.1 (TX3 4).2.2.1 RX7 ∈ tm_NWC := List.mem_of_getElem? (i := 32) rfl
theorem tm_nwC_X7_62 : Cond.fieldLinkNest RX7 62 RX3 (TX3 5).2.1 (TX3 5).2.2.1 RX7 ∈ tm_NWC := List.mem_of_getElem? (i := 33) rfl
theorem tm_nwC_X7_59 : Cond.fieldLinkNest RX7 59 RX3 (TX3 6).2.1 (TX3 6).2.2.1 RX7 ∈ tm_NWC := List.mem_of_getElem? (i := 34) rfl
theorem tm_nwC_X7_85 : Cond.fieldLinkNest RX7 85 RX3 (TX3 7).2.1 (TX3 7).2.2.1 RX7 ∈ tm_NWC := List.mem_of_getElem? (i := 35) rfl
theorem tm_nwC_X3_96 : Cond.fieldLinkNest RX3 96 RX7 "COMMANDS" "[LTableMove$Command;" RX7 ∈ tm_NWC := List.mem_of_getElem? (i := 36) rfl
theorem tm_nwC_X4_78 : Cond.methodLinkNest RX4 78 yX7_has RX7 ∈ tm_NWC := List.mem_of_getElem? (i := 37) rfl
theorem tm_nwC_X5_44 : Cond.methodLinkNest RX5 44 yX7_firstKey RX7 ∈ tm_NWC := List.mem_of_getElem? (i := 38) rfl
theorem tm_nwC_X5_47 : Cond.methodLinkNest RX5 47 yX7_lastKey RX7 ∈ tm_NWC := List.mem_of_getElem? (i := 39) rfl
theorem tm_nwC_X4_207 : Cond.methodLinkNest RX4 207 yX7_firstKey RX7 ∈ tm_NWC := List.mem_of_getElem? (i := 40) rfl
theorem tm_nwC_X4_210 : Cond.methodLinkNest RX4 210 yX7_lastKey RX7 ∈ tm_NWC := List.mem_of_getElem? (i := 41) rfl
theorem tm_nwC_X4_142 : Cond.methodLinkNest RX4 142 yX7_lowestMissing RX7 ∈ tm_NWC := List.mem_of_getElem? (i := 42) rfl
theorem tm_nwC_X3_100 : Cond.fieldLinkNest RX3 100 RX0 "word" "Ljava/lang/String;" RX7 ∈ tm_NWC := List.mem_of_getElem? (i := 43) rfl
theorem tm_nwC_X3_55 : Cond.fieldLinkNest RX3 55 RX0 "numbers" "I" RX7 ∈ tm_NWC := List.mem_of_getElem? (i := 44) rfl
theorem tm_nwC_X3_60 : Cond.fieldLinkNest RX3 60 RX0 "least" "I" RX7 ∈ tm_NWC := List.mem_of_getElem? (i := 45) rfl
theorem tm_nwC_X3_63 : Cond.fieldLinkNest RX3 63 RX0 "greatest" "I" RX7 ∈ tm_NWC := List.mem_of_getElem? (i := 46) rfl
theorem tm_nwC_X3_70 : Cond.fieldLinkNest RX3 70 RX0 "act" "I" RX7 ∈ tm_NWC := List.mem_of_getElem? (i := 47) rfl
