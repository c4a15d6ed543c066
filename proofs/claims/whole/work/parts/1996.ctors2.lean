set_option maxRecDepth 512
-- ----- J4_init
theorem dJ5_init_d00df_0 : decode cJ5_init_d00df 0 = .ok (.aload_n 0, 1) := by decide +kernel
theorem dJ5_init_d00df_1 : decode cJ5_init_d00df 1 = .ok (.invokespecial 3, 3) := by decide +kernel
theorem dJ5_init_d00df_4 : decode cJ5_init_d00df 4 = .ok (.getstatic 18, 3) := by decide +kernel
theorem dJ5_init_d00df_7 : decode cJ5_init_d00df 7 = .ok (.ifCond .eq 18, 3) := by decide +kernel
theorem dJ5_init_d00df_10 : decode cJ5_init_d00df 10 = .ok (.aload_n 0, 1) := by decide +kernel
theorem dJ5_init_d00df_11 : decode cJ5_init_d00df 11 = .ok (.iload_n 1, 1) := by decide +kernel
theorem dJ5_init_d00df_12 : decode cJ5_init_d00df 12 = .ok (.newarray .byte, 2) := by decide +kernel
theorem dJ5_init_d00df_14 : decode cJ5_init_d00df 14 = .ok (.putfield 15, 3) := by decide +kernel
theorem dJ5_init_d00df_17 : decode cJ5_init_d00df 17 = .ok (.aload_n 0, 1) := by decide +kernel
theorem dJ5_init_d00df_18 : decode cJ5_init_d00df 18 = .ok (.iconst 0, 1) := by decide +kernel
theorem dJ5_init_d00df_19 : decode cJ5_init_d00df 19 = .ok (.putfield 22, 3) := by decide +kernel
theorem dJ5_init_d00df_22 : decode cJ5_init_d00df 22 = .ok (.goto 16, 3) := by decide +kernel
theorem dJ5_init_d00df_38 : decode cJ5_init_d00df 38 = .ok (.return_, 1) := by decide +kernel
theorem tl_J5_3 : Cond.methodLink RJ5 3 Lib.objectInit ∈ TMW := tm_in 328 (by decide +kernel) (by decide +kernel)
def k0_J4 (h0 : Nat) : va_W := [(h0, .inr (1, [.null, .int 0, .int 0, .int 0]))]
def k1_J4 (cy : Nat → ClassId) (h0 : Nat) (u : Nat → Nat) : va_W := [(h0, .inr (1, [.ref (u 1), .int 0, .int 0, .int 0])), (u 1, .inl (cy 2, 16, .inl (fun _ => 0)))]
set_option maxRecDepth 100000 in
theorem w_J5_init_d00df {p : Program} {l : Launch} {e : Env} {s : State} {m : MethodId} {args : Array Value} {below : List Frame} {meth : Method} {c : Code} {D : va_G} {cy : Nat → ClassId} {A : Nat → Prop} {adK adV adE : Nat → Nat} {tC h0 : Nat} (C0 : tmC p s m args meth c cJ5_init_d00df 2 none RJ5 TMW tm_NWC D cy tm_s0 tm_a0 0 (k0_J4 h0) A) (hE : tnE adK adV adE tC A s s.heap) : tmG p l e ({ frames := 1, cells := 1, slots := 16, locals := 12 }) s m args below meth c 0 0 (MQ below (va_Qv (fun _ : Nat → Nat => True) (fun u t => va_P D vwCl (k1_J4 cy h0 u) t.heap ∧ va_D A (k1_J4 cy h0 u)) A) args s 1 16 A) 2 D cy tm_s0 tm_a0 0 (k0_J4 h0) A () 0 [(0, .ref h0), (1, .int 16)] [] tm_v0 (some ()) := by
  refine tg_aload_n 0 C0 dJ5_init_d00df_0 rfl rfl ?_
  refine tn_obj C0 dJ5_init_d00df_1 tl_J5_3 ti_obj tc_obj (Nat.le_of_ble_eq_true rfl) (Nat.le_of_ble_eq_true rfl) ?_
  refine ty_ogs C0 dJ5_init_d00df_4 hE.1.2.1 tf_J5_18 rfl ?_
  refine tg_eq (r := if (1 : Int32) = 0 then some () else some ()) (by split <;> rfl) ?_
  refine tg_if_eq 25 C0 dJ5_init_d00df_7 (by decide) (fun h => absurd h (by decide)) (fun _ => ?_)
  refine tg_aload_n 0 C0 dJ5_init_d00df_10 rfl rfl ?_
  refine tg_iload_n 1 C0 dJ5_init_d00df_11 rfl rfl ?_
  refine tn_newi 2 16 C0 dJ5_init_d00df_12 (by decide) rfl tac8 rfl (by decide) (by decide) ⟨Nat.le_of_ble_eq_true rfl, Nat.le_of_ble_eq_true rfl⟩ (fun q1 C0 => ?_)
  refine tn_put (X' := [(h0, .inr (1, [.ref q1, .int 0, .int 0, .int 0])), (q1, .inl (cy 2, 16, .inl (fun _ => 0)))]) 0 0 C0 dJ5_init_d00df_14 rfl rfl tu_J4 tyJ4_ok nmJ4 (by decide) tf_J5_15 rfl rfl rfl rfl rfl (Nat.le_of_ble_eq_true rfl) rfl (fun C0 => ?_)
  refine tg_aload_n 0 C0 dJ5_init_d00df_17 rfl rfl ?_
  refine tg_iconst (x := 0) C0 dJ5_init_d00df_18 (by decide) ?_
  refine tn_put (X' := [(h0, .inr (1, [.ref q1, .int 0, .int 0, .int 0])), (q1, .inl (cy 2, 16, .inl (fun _ => 0)))]) 0 1 C0 dJ5_init_d00df_19 rfl rfl tu_J4 tyJ4_ok nmJ4 (by decide) tf_J5_22 rfl rfl rfl rfl rfl (Nat.le_of_ble_eq_true rfl) rfl (fun C0 => ?_)
  refine tg_goto 38 C0 dJ5_init_d00df_22 (by decide) ?_
  exact tn_vret (fun k => ([h0, q1] : List Nat).getD k 0) C0 rfl dJ5_init_d00df_38 ⟨Nat.le_of_ble_eq_true rfl, Nat.le_of_ble_eq_true rfl⟩
theorem c_J5_init_d00df (l : Launch) {adK adV adE : Nat → Nat} {tC : Nat} : tnK tm_NWC l adK adV adE tC yJ5_init_d00df (Cond.code yJ5_init_d00df cJ5_init_d00df 2 none :: TMW) ({ frames := 1, cells := 1, slots := 16, locals := 12 }) [.int 16] k0_J4 k1_J4 1 16 :=
  tnK.of (by decide +kernel) rfl tm_NWC_ok (fun _ => Nat.le_of_ble_eq_true rfl) (fun p e s m args below meth c A D cy h0 C0 hE hin => w_J5_init_d00df C0 hE)
theorem dJ4_init_da8c8_0 : decode cJ4_init_da8c8 0 = .ok (.aload_n 0, 1) := by decide +kernel
theorem dJ4_init_da8c8_1 : decode cJ4_init_da8c8 1 = .ok (.bipush 16, 2) := by decide +kernel
theorem dJ4_init_da8c8_3 : decode cJ4_init_da8c8 3 = .ok (.invokespecial 1, 3) := by decide +kernel
theorem dJ4_init_da8c8_6 : decode cJ4_init_da8c8 6 = .ok (.return_, 1) := by decide +kernel
theorem tl_J4_1 : Cond.methodLink RJ4 1 yJ5_init_d00df ∈ TMW := tm_in 325 (by decide +kernel) (by decide +kernel)
theorem tc_J5_init_d00df : Cond.code yJ5_init_d00df cJ5_init_d00df 2 none ∈ TMW := tm_in 327 (by decide +kernel) (by decide +kernel)
theorem ti_J5_init_d00df : Cond.instanceMethod yJ5_init_d00df ∈ TMW := tm_in 326 (by decide +kernel) (by decide +kernel)
set_option maxRecDepth 100000 in
theorem w_J4_init_da8c8 {p : Program} {l : Launch} {e : Env} {s : State} {m : MethodId} {args : Array Value} {below : List Frame} {meth : Method} {c : Code} {D : va_G} {cy : Nat → ClassId} {A : Nat → Prop} {adK adV adE : Nat → Nat} {tC h0 : Nat} (C0 : tmC p s m args meth c cJ4_init_da8c8 1 none RJ4 TMW tm_NWC D cy tm_s0 tm_a0 0 (k0_J4 h0) A) (hE : tnE adK adV adE tC A s s.heap) : tmG p l e ({ frames := 2, cells := 1, slots := 16, locals := 33 }) s m args below meth c 0 0 (MQ below (va_Qv (fun _ : Nat → Nat => True) (fun u t => va_P D vwCl (k1_J4 cy h0 u) t.heap ∧ va_D A (k1_J4 cy h0 u)) A) args s 1 16 A) 1 D cy tm_s0 tm_a0 0 (k0_J4 h0) A () 0 [(0, .ref h0)] [] tm_v0 (some ()) := by
  refine tg_aload_n 0 C0 dJ4_init_da8c8_0 rfl rfl ?_
  refine tg_bipush (x := 16) C0 dJ4_init_da8c8_1 (by decide) ?_
  refine tn_call (Y := []) (w0 := k0_J4) (w1 := k1_J4) (b := h0) (As := [.int 16]) 1 C0 hE dJ4_init_da8c8_3 (c_J5_init_d00df l) rfl rfl (tm_gc tc_J5_init_d00df) tl_J4_1 tn_J5 ti_J5_init_d00df rfl rfl rfl rfl (by decide +kernel) ⟨Nat.le_of_ble_eq_true rfl, Nat.le_of_ble_eq_true rfl⟩ (Nat.le_of_ble_eq_true rfl) ⟨Nat.le_of_ble_eq_true rfl, Nat.le_of_ble_eq_true rfl⟩ (fun u C0 => ?_)
  exact tn_vret u C0 rfl dJ4_init_da8c8_6 ⟨Nat.le_of_ble_eq_true rfl, Nat.le_of_ble_eq_true rfl⟩
theorem c_J4_init_da8c8 (l : Launch) {adK adV adE : Nat → Nat} {tC : Nat} : tnK tm_NWC l adK adV adE tC yJ4_init_da8c8 (Cond.code yJ4_init_da8c8 cJ4_init_da8c8 1 none :: TMW) ({ frames := 2, cells := 1, slots := 16, locals := 33 }) [] k0_J4 k1_J4 1 16 :=
  tnK.of (by decide +kernel) rfl tm_NWC_ok (fun _ => Nat.le_of_ble_eq_true rfl) (fun p e s m args below meth c A D cy h0 C0 hE hin => w_J4_init_da8c8 C0 hE)
-- ----- X7_init
theorem dX7_init_0 : decode cX7_init 0 = .ok (.aload_n 0, 1) := by decide +kernel
theorem dX7_init_1 : decode cX7_init 1 = .ok (.invokespecial 3, 3) := by decide +kernel
theorem dX7_init_4 : decode cX7_init 4 = .ok (.aload_n 0, 1) := by decide +kernel
theorem dX7_init_5 : decode cX7_init 5 = .ok (.new 9, 3) := by decide +kernel
theorem dX7_init_8 : decode cX7_init 8 = .ok (.dup, 1) := by decide +kernel
theorem dX7_init_9 : decode cX7_init 9 = .ok (.invokespecial 11, 3) := by decide +kernel
theorem dX7_init_12 : decode cX7_init 12 = .ok (.putfield 12, 3) := by decide +kernel
theorem dX7_init_15 : decode cX7_init 15 = .ok (.aload_n 0, 1) := by decide +kernel
theorem dX7_init_16 : decode cX7_init 16 = .ok (.bipush 10, 2) := by decide +kernel
theorem dX7_init_18 : decode cX7_init 18 = .ok (.anewarray 9, 3) := by decide +kernel
theorem dX7_init_21 : decode cX7_init 21 = .ok (.putfield 16, 3) := by decide +kernel
theorem dX7_init_24 : decode cX7_init 24 = .ok (.aload_n 0, 1) := by decide +kernel
theorem dX7_init_25 : decode cX7_init 25 = .ok (.iconst 2, 1) := by decide +kernel
theorem dX7_init_26 : decode cX7_init 26 = .ok (.anewarray 9, 3) := by decide +kernel
theorem dX7_init_29 : decode cX7_init 29 = .ok (.putfield 20, 3) := by decide +kernel
theorem dX7_init_32 : decode cX7_init 32 = .ok (.aload_n 0, 1) := by decide +kernel
theorem dX7_init_33 : decode cX7_init 33 = .ok (.bipush 10, 2) := by decide +kernel
theorem dX7_init_35 : decode cX7_init 35 = .ok (.newarray .int, 2) := by decide +kernel
theorem dX7_init_37 : decode cX7_init 37 = .ok (.putfield 23, 3) := by decide +kernel
theorem dX7_init_40 : decode cX7_init 40 = .ok (.aload_n 0, 1) := by decide +kernel
theorem dX7_init_41 : decode cX7_init 41 = .ok (.new 27, 3) := by decide +kernel
theorem dX7_init_44 : decode cX7_init 44 = .ok (.dup, 1) := by decide +kernel
theorem dX7_init_45 : decode cX7_init 45 = .ok (.invokespecial 29, 3) := by decide +kernel
theorem dX7_init_48 : decode cX7_init 48 = .ok (.putfield 30, 3) := by decide +kernel
theorem dX7_init_51 : decode cX7_init 51 = .ok (.aload_n 0, 1) := by decide +kernel
theorem dX7_init_52 : decode cX7_init 52 = .ok (.new 34, 3) := by decide +kernel
theorem dX7_init_55 : decode cX7_init 55 = .ok (.dup, 1) := by decide +kernel
theorem dX7_init_56 : decode cX7_init 56 = .ok (.invokespecial 36, 3) := by decide +kernel
theorem dX7_init_59 : decode cX7_init 59 = .ok (.putfield 37, 3) := by decide +kernel
theorem dX7_init_62 : decode cX7_init 62 = .ok (.iconst 0, 1) := by decide +kernel
theorem dX7_init_63 : decode cX7_init 63 = .ok (.istore_n 1, 1) := by decide +kernel
theorem dX7_init_64 : decode cX7_init 64 = .ok (.iload_n 1, 1) := by decide +kernel
theorem dX7_init_65 : decode cX7_init 65 = .ok (.bipush 10, 2) := by decide +kernel
theorem dX7_init_67 : decode cX7_init 67 = .ok (.if_icmp .ge 22, 3) := by decide +kernel
theorem dX7_init_70 : decode cX7_init 70 = .ok (.aload_n 0, 1) := by decide +kernel
theorem dX7_init_71 : decode cX7_init 71 = .ok (.getfield 16, 3) := by decide +kernel
theorem dX7_init_74 : decode cX7_init 74 = .ok (.iload_n 1, 1) := by decide +kernel
theorem dX7_init_75 : decode cX7_init 75 = .ok (.new 9, 3) := by decide +kernel
theorem dX7_init_78 : decode cX7_init 78 = .ok (.dup, 1) := by decide +kernel
theorem dX7_init_79 : decode cX7_init 79 = .ok (.invokespecial 11, 3) := by decide +kernel
theorem dX7_init_82 : decode cX7_init 82 = .ok (.aastore, 1) := by decide +kernel
theorem dX7_init_83 : decode cX7_init 83 = .ok (.iinc 1 1, 3) := by decide +kernel
theorem dX7_init_86 : decode cX7_init 86 = .ok (.goto (-22), 3) := by decide +kernel
theorem dX7_init_89 : decode cX7_init 89 = .ok (.iconst 0, 1) := by decide +kernel
theorem dX7_init_90 : decode cX7_init 90 = .ok (.istore_n 1, 1) := by decide +kernel
theorem dX7_init_91 : decode cX7_init 91 = .ok (.iload_n 1, 1) := by decide +kernel
theorem dX7_init_92 : decode cX7_init 92 = .ok (.iconst 2, 1) := by decide +kernel
theorem dX7_init_93 : decode cX7_init 93 = .ok (.if_icmp .ge 22, 3) := by decide +kernel
theorem dX7_init_96 : decode cX7_init 96 = .ok (.aload_n 0, 1) := by decide +kernel
theorem dX7_init_97 : decode cX7_init 97 = .ok (.getfield 20, 3) := by decide +kernel
theorem dX7_init_100 : decode cX7_init 100 = .ok (.iload_n 1, 1) := by decide +kernel
theorem dX7_init_101 : decode cX7_init 101 = .ok (.new 9, 3) := by decide +kernel
theorem dX7_init_104 : decode cX7_init 104 = .ok (.dup, 1) := by decide +kernel
theorem dX7_init_105 : decode cX7_init 105 = .ok (.invokespecial 11, 3) := by decide +kernel
theorem dX7_init_108 : decode cX7_init 108 = .ok (.aastore, 1) := by decide +kernel
theorem dX7_init_109 : decode cX7_init 109 = .ok (.iinc 1 1, 3) := by decide +kernel
theorem dX7_init_112 : decode cX7_init 112 = .ok (.goto (-21), 3) := by decide +kernel
theorem dX7_init_115 : decode cX7_init 115 = .ok (.return_, 1) := by decide +kernel
theorem tl_X7_3 : Cond.methodLink RX7 3 Lib.objectInit ∈ TMW := tm_in 142 (by decide +kernel) (by decide +kernel)
theorem tcl_X7_9 : Cond.classLink RX7 9 RX4 ∈ TMW := tm_in 145 (by decide +kernel) (by decide +kernel)
theorem tin_X4 : Cond.instantiable RX4 10 ∈ TMW := tm_in 146 (by decide +kernel) (by decide +kernel)
theorem tc_X4_init : Cond.code yX4_init cX4_init 1 none ∈ TMW := tm_in 149 (by decide +kernel) (by decide +kernel)
theorem ti_X4_init : Cond.instanceMethod yX4_init ∈ TMW := tm_in 148 (by decide +kernel) (by decide +kernel)
theorem tcl_X7_27 : Cond.classLink RX7 27 RX3 ∈ TMW := tm_in 271 (by decide +kernel) (by decide +kernel)
theorem tin_X3 : Cond.instantiable RX3 11 ∈ TMW := tm_in 272 (by decide +kernel) (by decide +kernel)
theorem tc_X3_init : Cond.code yX3_init cX3_init 1 none ∈ TMW := tm_in 275 (by decide +kernel) (by decide +kernel)
theorem ti_X3_init : Cond.instanceMethod yX3_init ∈ TMW := tm_in 274 (by decide +kernel) (by decide +kernel)
theorem tcl_X7_34 : Cond.classLink RX7 34 RJ4 ∈ TMW := tm_in 320 (by decide +kernel) (by decide +kernel)
theorem tin_J4 : Cond.instantiable RJ4 4 ∈ TMW := tm_in 321 (by decide +kernel) (by decide +kernel)
theorem tc_J4_init_da8c8 : Cond.code yJ4_init_da8c8 cJ4_init_da8c8 1 none ∈ TMW := tm_in 324 (by decide +kernel) (by decide +kernel)
theorem tl_X7_36 : Cond.methodLink RX7 36 yJ4_init_da8c8 ∈ TMW := tm_in 322 (by decide +kernel) (by decide +kernel)
theorem ti_J4_init_da8c8 : Cond.instanceMethod yJ4_init_da8c8 ∈ TMW := tm_in 323 (by decide +kernel) (by decide +kernel)
def tn_u0 (h0 : Nat) (u : Nat → Nat) : Nat → Nat := fun k => match k with
  | 0 => h0
  | k + 1 => u (k + 1)
def tn_st (cy : Nat → ClassId) (u : Nat → Nat) : va_W := k1_X4 cy (u 0) u
theorem tn_st0 (cy : Nat → ClassId) (b : Nat) (u : Nat → Nat) : k1_X4 cy b u = tn_st cy (tn_u0 b u) := rfl
def tn_bl (cy : Nat → ClassId) : List (Nat → Nat) → va_W
  | [] => []
  | u :: us => tn_st cy u ++ tn_bl cy us
theorem tn_bl_app (cy : Nat → ClassId) (u : Nat → Nat) : ∀ us : List (Nat → Nat), tn_bl cy (us ++ [u]) = tn_bl cy us ++ tn_st cy u
  | [] => by show tn_st cy u ++ [] = [] ++ tn_st cy u; rw [List.append_nil, List.nil_append]
  | w :: us => by show tn_st cy w ++ tn_bl cy (us ++ [u]) = (tn_st cy w ++ tn_bl cy us) ++ tn_st cy u; rw [tn_bl_app cy u us, List.append_assoc]
theorem tn_st_len (cy : Nat → ClassId) (u : Nat → Nat) : (tn_st cy u).length = 19 := rfl
theorem tn_bl_len (cy : Nat → ClassId) : ∀ us : List (Nat → Nat), (tn_bl cy us).length = 19 * us.length
  | [] => rfl
  | u :: us => by show (tn_st cy u ++ tn_bl cy us).length = 19 * (us.length + 1); rw [List.length_append, tn_bl_len cy us, tn_st_len]; omega
theorem tn_bl_get (cy : Nat → ClassId) : ∀ (us : List (Nat → Nat)) (i c : Nat) (u : Nat → Nat), us[i]? = some u → c < 19 → (tn_bl cy us)[19 * i + c]? = (tn_st cy u)[c]?
  | [], i, c, u, h, _ => by simp at h
  | w :: us, 0, c, u, h, hc => by
    rw [List.getElem?_cons_zero] at h
    cases h
    show (tn_st cy w ++ tn_bl cy us)[19 * 0 + c]? = _
    rw [List.getElem?_append_left (by rw [tn_st_len]; omega)]
    congr 1
    omega
  | w :: us, i + 1, c, u, h, hc => by
    rw [List.getElem?_cons_succ] at h
    show (tn_st cy w ++ tn_bl cy us)[19 * (i + 1) + c]? = _
    rw [List.getElem?_append_right (by rw [tn_st_len]; omega), tn_st_len, show 19 * (i + 1) + c - 19 = 19 * i + c by omega]
    exact tn_bl_get cy us i c u h hc
/-- the numbers of a fresh State, and of the whole fresh system -/
def tm_vS (c : Nat) : Nat → Int32 := match c with
  | 0 => fun j => if j = 1 then 3 else 0
  | 3 => tn_m1 60
  | 4 => tn_m1 60
  | 6 => tn_m1 60
  | 7 => tn_m1 60
  | _ => fun _ => 0
def tm_vG (k : Nat) : Nat → Int32 := match k with
  | 251 => fun j => if j = 7 then -1 else 0
  | _ => fun _ => 0
def tm_vC0 (k : Nat) : Nat → Int32 := match Nat.ble 247 k with
  | true => tm_vG k
  | false => tm_vS (k % 19)
theorem tn_m2 (ad u : Nat → Nat) (k c1 c2 : Nat) (h1 : ad (k + c1) = u c1) (h2 : ad (k + c2) = u c2) : (fun j : Nat => (([k + c1, k + c2] : List Nat)[j]?).map ad) = fun j => ([u c1, u c2] : List Nat)[j]? := by
  funext j
  match j with
  | 0 => exact congrArg some h1
  | 1 => exact congrArg some h2
  | _ + 2 => rfl
theorem tn_m3 (ad u : Nat → Nat) (k c1 c2 c3 : Nat) (h1 : ad (k + c1) = u c1) (h2 : ad (k + c2) = u c2) (h3 : ad (k + c3) = u c3) : (fun j : Nat => (([k + c1, k + c2, k + c3] : List Nat)[j]?).map ad) = fun j => ([u c1, u c2, u c3] : List Nat)[j]? := by
  funext j
  match j with
  | 0 => exact congrArg some h1
  | 1 => exact congrArg some h2
  | 2 => exact congrArg some h3
  | _ + 3 => rfl
theorem tn_blk (cy : Nat → ClassId) (k : Nat) (hk : tm_isS k) (ad u : Nat → Nat) (h : ∀ c, c < 19 → ad (k + c) = u c) : ∀ c, c < 19 → (tn_st cy u)[c]? = some (ad (k + c), tm_ce cy ad (tm_shC (k + c)) (tm_vC0 (k + c))) := by
  intro c hc
  have hv : tm_vC0 (k + c) = tm_vS c := by
    have h1 := hk.1
    have h2 := hk.2
    have e3 : Nat.ble 247 (k + c) = false := by
      cases hb : Nat.ble 247 (k + c) with
      | false => rfl
      | true => exact absurd (Nat.le_of_ble_eq_true hb) (by omega)
    unfold tm_vC0
    rw [e3, show (k + c) % 19 = c by omega]
  rw [tm_S c hc hk, h c hc, hv]
  match c, hc with
  | 0, _ =>
    show some (u 0, _) = some (u 0, (Sum.inr (7, [.int 0, .int 3, .int 0, .int 0, .int 0, .ref (ad (k + 1)), .ref (ad (k + 8)), .ref (ad (k + 10)), .ref (ad (k + 13)), .ref (ad (k + 18))]) : va_E))
    rw [h 1 (by decide), h 8 (by decide), h 10 (by decide), h 13 (by decide), h 18 (by decide)]
  | 1, _ =>
    show some (u 1, _) = some (u 1, (Sum.inr (8, [.int 0, .int 0, .ref (ad (k + 2)), .ref (ad (k + 5))]) : va_E))
    rw [h 2 (by decide), h 5 (by decide)]
  | 2, _ =>
    show some (u 2, _) = some (u 2, (Sum.inl (cy 5, 2, .inr (.inr (.inr (.inr (fun j : Nat => (([k + 3, k + 4] : List Nat)[j]?).map ad))))) : va_E))
    rw [tn_m2 ad u k 3 4 (h 3 (by decide)) (h 4 (by decide))]
  | 3, _ => rfl
  | 4, _ => rfl
  | 5, _ =>
    show some (u 5, _) = some (u 5, (Sum.inl (cy 5, 2, .inr (.inr (.inr (.inr (fun j : Nat => (([k + 6, k + 7] : List Nat)[j]?).map ad))))) : va_E))
    rw [tn_m2 ad u k 6 7 (h 6 (by decide)) (h 7 (by decide))]
  | 6, _ => rfl
  | 7, _ => rfl
  | 8, _ =>
    show some (u 8, _) = some (u 8, (Sum.inr (5, [.ref (ad (k + 9)), .int 0]) : va_E))
    rw [h 9 (by decide)]
  | 9, _ => rfl
  | 10, _ =>
    show some (u 10, _) = some (u 10, (Sum.inr (4, [.ref (ad (k + 11)), .ref (ad (k + 12)), .int 0]) : va_E))
    rw [h 11 (by decide), h 12 (by decide)]
  | 11, _ => rfl
  | 12, _ => rfl
  | 13, _ =>
    show some (u 13, _) = some (u 13, (Sum.inr (9, [.ref (ad (k + 14)), .int 0]) : va_E))
    rw [h 14 (by decide)]
  | 14, _ =>
    show some (u 14, _) = some (u 14, (Sum.inl (cy 5, 3, .inr (.inr (.inr (.inr (fun j : Nat => (([k + 15, k + 16, k + 17] : List Nat)[j]?).map ad))))) : va_E))
    rw [tn_m3 ad u k 15 16 17 (h 15 (by decide)) (h 16 (by decide)) (h 17 (by decide))]
  | 15, _ => rfl
  | 16, _ => rfl
  | 17, _ => rfl
  | 18, _ => rfl
  | _ + 19, hc => omega

def k0_X7 (h0 : Nat) : va_W := [(h0, .inr (10, [.null, .null, .int 0, .int 0, .null, .int 0, .null, .null, .null]))]
def tn_F (cy : Nat → ClassId) (h0 q1 q2 q3 q4 q5 q6 : Nat) (uq1 uq5 uq6 : Nat → Nat) (hs ss : Nat → Option Nat) : va_W := (([(h0, .inr (10, [.ref q1, .ref q2, .int 0, .int 0, .ref q3, .int 0, .ref q4, .ref q5, .ref q6]))] : va_W) ++ k1_X4 cy q1 uq1 ++ [(q2, .inl (cy 4, 10, .inr (.inr (.inr (.inr (hs)))))), (q3, .inl (cy 4, 2, .inr (.inr (.inr (.inr (ss)))))), (q4, .inl (cy 0, 10, .inl (fun _ => 0)))] ++ k1_X3 cy q5 uq5 ++ k1_J4 cy q6 uq6)
theorem tn_up (l : List Nat) (i b : Nat) (hi : l.length = i) (h2 : i < 100) : va_up (fun j => l[j]?) (nI i).toNatClampNeg (some b) = fun j => (l ++ [b])[j]? := by
  rw [nI_clamp (by omega)]
  funext j
  show (if j = i then some b else l[j]?) = _
  by_cases h : j = i
  · rw [if_pos h, h, ← hi, List.getElem?_append_right (Nat.le_refl _), Nat.sub_self]
    rfl
  · rw [if_neg h]
    by_cases h3 : j < i
    · rw [List.getElem?_append_left (by omega)]
    · rw [List.getElem?_eq_none (by omega), List.getElem?_eq_none (by rw [List.length_append, hi]; show i + 1 ≤ j; omega)]
set_option maxRecDepth 100000 in
theorem tn_X7_loop1 {p : Program} {l : Launch} {e : Env} {s : State} {m : MethodId} {args : Array Value} {below : List Frame} {meth : Method} {c : Code} {D : va_G} {cy : Nat → ClassId} {A : Nat → Prop} {adK adV adE : Nat → Nat} {tC h0 q1 q2 q3 q4 q5 q6 : Nat} {uq1 uq5 uq6 : Nat → Nat} {Q : State → Prop} {ss : Nat → Option Nat} (hE : tnE adK adV adE tC A s s.heap) (hk : ∀ Us : List (Nat → Nat), Us.length = 10 → tmC p s m args meth c cX7_init 2 none RX7 TMW tm_NWC D cy tm_s0 tm_a0 0 (tn_F cy h0 q1 q2 q3 q4 q5 q6 uq1 uq5 uq6 (fun j => (Us.map (fun u => u 0))[j]?) (ss) ++ tn_bl cy Us) A → tmG p l e ({ frames := 3, cells := 257, slots := 7347, locals := 54 }) s m args below meth c (29 + 19 * (10)) (1251 + 508 * (10)) Q 2 D cy tm_s0 tm_a0 0 (tn_F cy h0 q1 q2 q3 q4 q5 q6 uq1 uq5 uq6 (fun j => (Us.map (fun u => u 0))[j]?) (ss) ++ tn_bl cy Us) A () 89 [(1, .int (nI 10)), (0, .ref h0)] [] tm_v0 (some ())) : ∀ (d i : Nat) (Us : List (Nat → Nat)), d + i = 10 → Us.length = i → tmC p s m args meth c cX7_init 2 none RX7 TMW tm_NWC D cy tm_s0 tm_a0 0 (tn_F cy h0 q1 q2 q3 q4 q5 q6 uq1 uq5 uq6 (fun j => (Us.map (fun u => u 0))[j]?) (ss) ++ tn_bl cy Us) A → tmG p l e ({ frames := 3, cells := 257, slots := 7347, locals := 54 }) s m args below meth c (29 + 19 * (i)) (1251 + 508 * (i)) Q 2 D cy tm_s0 tm_a0 0 (tn_F cy h0 q1 q2 q3 q4 q5 q6 uq1 uq5 uq6 (fun j => (Us.map (fun u => u 0))[j]?) (ss) ++ tn_bl cy Us) A () 64 [(1, .int (nI i)), (0, .ref h0)] [] tm_v0 (some ()) := by
  intro d
  induction d with
  | zero =>
    intro i Us hd hl C0
    rw [show i = 10 by omega] at hl ⊢
    refine tg_iload_n 0 C0 dX7_init_64 rfl rfl ?_
    refine tg_bipush (x := 10) C0 dX7_init_65 (by decide) ?_
    refine tg_eq (r := if (10 : Int32) ≤ nI 10 then some () else some ()) (by split <;> rfl) ?_
    exact tg_icmp_ge 89 C0 dX7_init_67 (by decide) (fun _ => hk Us hl C0) (fun h => absurd (by decide : (10 : Int32) ≤ nI 10) h)
  | succ d ih =>
    intro i Us hd hl C0
    have hi : tm_ix (nI i) 10 = true := decide_eq_true (by rw [nI_clamp (by omega)]; exact fun h => h.elim (fun h => nI_pos (by omega) h) (fun h => by omega))
    refine tg_iload_n 0 C0 dX7_init_64 rfl rfl ?_
    refine tg_bipush (x := 10) C0 dX7_init_65 (by decide) ?_
    refine tg_eq (r := if (10 : Int32) ≤ nI i then some () else some ()) (by split <;> rfl) ?_
    refine tg_icmp_ge 89 C0 dX7_init_67 (by decide) (fun h => absurd (show nI 10 ≤ nI i from h) (Int32.not_le.mpr (nI_lt (a := i) (b := 10) (by omega) (by omega)))) (fun _ => ?_)
    refine tg_aload_n 1 C0 dX7_init_70 rfl rfl ?_
    refine tn_get 0 1 C0 dX7_init_71 rfl rfl tu_X7 (by decide) tf_X7_16 rfl rfl ?_
    refine tg_iload_n 0 C0 dX7_init_74 rfl rfl ?_
    refine tn_new (ci := 7) (fs := [.int 0, .int 0, .int 0, .int 0, .int 0, .null, .null, .null, .null, .null]) C0 dX7_init_75 rfl tu_X4 tyX4_ok tcl_X7_9 tin_X4 tn_X4 (fun j hj => by rcases (show j = 0 ∨ j = 1 ∨ j = 2 ∨ j = 3 ∨ j = 4 ∨ j = 5 ∨ j = 6 ∨ j = 7 ∨ j = 8 ∨ j = 9 by omega) with rfl | rfl | rfl | rfl | rfl | rfl | rfl | rfl | rfl | rfl <;> rfl) ⟨by show _ ≤ 257; omega, by show _ ≤ 7347; omega⟩ (fun qn C0 => ?_)
    refine tg_dup C0 dX7_init_78 rfl ?_
    refine tn_callN (Y := tn_F cy h0 q1 q2 q3 q4 q5 q6 uq1 uq5 uq6 (fun j => (Us.map (fun u => u 0))[j]?) (ss) ++ tn_bl cy Us) (w0 := k0_X4) (w1 := k1_X4) (b := qn) 0 C0 hE dX7_init_79 (c_X4_init l) rfl rfl (tm_gc tc_X4_init) tm_nwC_X7_11 tn_X4 ti_X4_init rfl rfl rfl rfl (by decide +kernel) ⟨Nat.le_of_ble_eq_true rfl, Nat.le_of_ble_eq_true rfl⟩ (Nat.le_of_ble_eq_true rfl) ⟨by show _ ≤ 257; omega, by show _ ≤ 7347; omega⟩ (fun u C0 => ?_)
    have hX : (tn_F cy h0 q1 q2 q3 q4 q5 q6 uq1 uq5 uq6 (fun j => (Us.map (fun u => u 0))[j]?) (ss) ++ tn_bl cy Us ++ k1_X4 cy qn u).set 20 (q2, .inl (cy 4, 10, .inr (.inr (.inr (.inr (va_up (fun j => (Us.map (fun u => u 0))[j]?) (nI i).toNatClampNeg (some qn))))))) = tn_F cy h0 q1 q2 q3 q4 q5 q6 uq1 uq5 uq6 (fun j => (((Us ++ [tn_u0 qn u])).map (fun u => u 0))[j]?) (ss) ++ tn_bl cy (Us ++ [tn_u0 qn u]) := by
      rw [tn_up (Us.map (fun u => u 0)) i qn (by rw [List.length_map]; exact hl) (by omega), tn_st0, List.map_append, tn_bl_app, ← List.append_assoc]
      rfl
    refine tn_aast (r := (RX4, TX4, 10)) (vs := [.int 0, .int 3, .int 0, .int 0, .int 0, .ref (u 1), .ref (u 8), .ref (u 10), .ref (u 13), .ref (u 18)]) 20 4 (30 + 19 * i) 7 C0 dX7_init_82 rfl (by decide) rfl (by
      rw [List.getElem?_append_right (by rw [List.length_append, tn_bl_len]; show 30 + _ ≤ _; omega), List.length_append, tn_bl_len]
      show (k1_X4 cy qn u)[30 + 19 * i - (30 + _)]? = _
      rw [show 30 + 19 * i - (30 + 19 * (Us.length)) = 0 by omega]
      rfl) rfl hi hX (fun C0 => ?_)
    refine tg_iinc [(1, .int (nI (i + 1))), (0, .ref h0)] 0 C0 dX7_init_83 rfl (nI_succ i).symm (by decide) rfl ?_
    refine tg_goto 64 C0 dX7_init_86 (by decide) ?_
    refine tn_widen (c2 := 29 + 19 * (i + 1)) (s2 := 1251 + 508 * (i + 1)) (by omega) (by omega) ?_
    exact ih (i + 1) _ (by omega) (by rw [List.length_append, hl]; rfl) C0
set_option maxRecDepth 100000 in
theorem tn_X7_loop2 {p : Program} {l : Launch} {e : Env} {s : State} {m : MethodId} {args : Array Value} {below : List Frame} {meth : Method} {c : Code} {D : va_G} {cy : Nat → ClassId} {A : Nat → Prop} {adK adV adE : Nat → Nat} {tC h0 q1 q2 q3 q4 q5 q6 : Nat} {uq1 uq5 uq6 : Nat → Nat} {Q : State → Prop} {hs : Nat → Option Nat} (U1 : List (Nat → Nat)) (hU : U1.length = 10) (hE : tnE adK adV adE tC A s s.heap) (hk : ∀ Us : List (Nat → Nat), Us.length = 2 → tmC p s m args meth c cX7_init 2 none RX7 TMW tm_NWC D cy tm_s0 tm_a0 0 (tn_F cy h0 q1 q2 q3 q4 q5 q6 uq1 uq5 uq6 (hs) (fun j => (Us.map (fun u => u 0))[j]?) ++ tn_bl cy (U1 ++ Us)) A → tmG p l e ({ frames := 3, cells := 257, slots := 7347, locals := 54 }) s m args below meth c (219 + 19 * (2)) (6331 + 508 * (2)) Q 2 D cy tm_s0 tm_a0 0 (tn_F cy h0 q1 q2 q3 q4 q5 q6 uq1 uq5 uq6 (hs) (fun j => (Us.map (fun u => u 0))[j]?) ++ tn_bl cy (U1 ++ Us)) A () 115 [(1, .int (nI 2)), (0, .ref h0)] [] tm_v0 (some ())) : ∀ (d i : Nat) (Us : List (Nat → Nat)), d + i = 2 → Us.length = i → tmC p s m args meth c cX7_init 2 none RX7 TMW tm_NWC D cy tm_s0 tm_a0 0 (tn_F cy h0 q1 q2 q3 q4 q5 q6 uq1 uq5 uq6 (hs) (fun j => (Us.map (fun u => u 0))[j]?) ++ tn_bl cy (U1 ++ Us)) A → tmG p l e ({ frames := 3, cells := 257, slots := 7347, locals := 54 }) s m args below meth c (219 + 19 * (i)) (6331 + 508 * (i)) Q 2 D cy tm_s0 tm_a0 0 (tn_F cy h0 q1 q2 q3 q4 q5 q6 uq1 uq5 uq6 (hs) (fun j => (Us.map (fun u => u 0))[j]?) ++ tn_bl cy (U1 ++ Us)) A () 91 [(1, .int (nI i)), (0, .ref h0)] [] tm_v0 (some ()) := by
  intro d
  induction d with
  | zero =>
    intro i Us hd hl C0
    rw [show i = 2 by omega] at hl ⊢
    refine tg_iload_n 0 C0 dX7_init_91 rfl rfl ?_
    refine tg_iconst (x := 2) C0 dX7_init_92 (by decide) ?_
    refine tg_eq (r := if (2 : Int32) ≤ nI 2 then some () else some ()) (by split <;> rfl) ?_
    exact tg_icmp_ge 115 C0 dX7_init_93 (by decide) (fun _ => hk Us hl C0) (fun h => absurd (by decide : (2 : Int32) ≤ nI 2) h)
  | succ d ih =>
    intro i Us hd hl C0
    have hi : tm_ix (nI i) 2 = true := decide_eq_true (by rw [nI_clamp (by omega)]; exact fun h => h.elim (fun h => nI_pos (by omega) h) (fun h => by omega))
    refine tg_iload_n 0 C0 dX7_init_91 rfl rfl ?_
    refine tg_iconst (x := 2) C0 dX7_init_92 (by decide) ?_
    refine tg_eq (r := if (2 : Int32) ≤ nI i then some () else some ()) (by split <;> rfl) ?_
    refine tg_icmp_ge 115 C0 dX7_init_93 (by decide) (fun h => absurd (show nI 2 ≤ nI i from h) (Int32.not_le.mpr (nI_lt (a := i) (b := 2) (by omega) (by omega)))) (fun _ => ?_)
    refine tg_aload_n 1 C0 dX7_init_96 rfl rfl ?_
    refine tn_get 0 4 C0 dX7_init_97 rfl rfl tu_X7 (by decide) tf_X7_20 rfl rfl ?_
    refine tg_iload_n 0 C0 dX7_init_100 rfl rfl ?_
    refine tn_new (ci := 7) (fs := [.int 0, .int 0, .int 0, .int 0, .int 0, .null, .null, .null, .null, .null]) C0 dX7_init_101 rfl tu_X4 tyX4_ok tcl_X7_9 tin_X4 tn_X4 (fun j hj => by rcases (show j = 0 ∨ j = 1 ∨ j = 2 ∨ j = 3 ∨ j = 4 ∨ j = 5 ∨ j = 6 ∨ j = 7 ∨ j = 8 ∨ j = 9 by omega) with rfl | rfl | rfl | rfl | rfl | rfl | rfl | rfl | rfl | rfl <;> rfl) ⟨by show _ ≤ 257; omega, by show _ ≤ 7347; omega⟩ (fun qn C0 => ?_)
    refine tg_dup C0 dX7_init_104 rfl ?_
    refine tn_callN (Y := tn_F cy h0 q1 q2 q3 q4 q5 q6 uq1 uq5 uq6 (hs) (fun j => (Us.map (fun u => u 0))[j]?) ++ tn_bl cy (U1 ++ Us)) (w0 := k0_X4) (w1 := k1_X4) (b := qn) 0 C0 hE dX7_init_105 (c_X4_init l) rfl rfl (tm_gc tc_X4_init) tm_nwC_X7_11 tn_X4 ti_X4_init rfl rfl rfl rfl (by decide +kernel) ⟨Nat.le_of_ble_eq_true rfl, Nat.le_of_ble_eq_true rfl⟩ (Nat.le_of_ble_eq_true rfl) ⟨by show _ ≤ 257; omega, by show _ ≤ 7347; omega⟩ (fun u C0 => ?_)
    have hX : (tn_F cy h0 q1 q2 q3 q4 q5 q6 uq1 uq5 uq6 (hs) (fun j => (Us.map (fun u => u 0))[j]?) ++ tn_bl cy (U1 ++ Us) ++ k1_X4 cy qn u).set 21 (q3, .inl (cy 4, 2, .inr (.inr (.inr (.inr (va_up (fun j => (Us.map (fun u => u 0))[j]?) (nI i).toNatClampNeg (some qn))))))) = tn_F cy h0 q1 q2 q3 q4 q5 q6 uq1 uq5 uq6 (hs) (fun j => (((Us ++ [tn_u0 qn u])).map (fun u => u 0))[j]?) ++ tn_bl cy (U1 ++ (Us ++ [tn_u0 qn u])) := by
      rw [tn_up (Us.map (fun u => u 0)) i qn (by rw [List.length_map]; exact hl) (by omega), tn_st0, List.map_append, ← List.append_assoc U1, tn_bl_app, ← List.append_assoc]
      rfl
    refine tn_aast (r := (RX4, TX4, 10)) (vs := [.int 0, .int 3, .int 0, .int 0, .int 0, .ref (u 1), .ref (u 8), .ref (u 10), .ref (u 13), .ref (u 18)]) 21 4 (220 + 19 * i) 7 C0 dX7_init_108 rfl (by decide) rfl (by
      rw [List.getElem?_append_right (by rw [List.length_append, tn_bl_len]; show 30 + _ ≤ _; rw [List.length_append]; omega), List.length_append, tn_bl_len]
      show (k1_X4 cy qn u)[220 + 19 * i - (30 + _)]? = _
      rw [show 220 + 19 * i - (30 + 19 * ((U1 ++ Us).length)) = 0 by rw [List.length_append]; omega]
      rfl) rfl hi hX (fun C0 => ?_)
    refine tg_iinc [(1, .int (nI (i + 1))), (0, .ref h0)] 0 C0 dX7_init_109 rfl (nI_succ i).symm (by decide) rfl ?_
    refine tg_goto 91 C0 dX7_init_112 (by decide) ?_
    refine tn_widen (c2 := 219 + 19 * (i + 1)) (s2 := 6331 + 508 * (i + 1)) (by omega) (by omega) ?_
    exact ih (i + 1) _ (by omega) (by rw [List.length_append, hl]; rfl) C0
def tn_ad (h0 : Nat) (u : Nat → Nat) : Nat → Nat := fun k => if k = 247 then h0 else u k
/-- the fresh system: the class's 256 cells and its text -/
def k1_X7 (cy : Nat → ClassId) (h0 : Nat) (u : Nat → Nat) : va_W := tm_w cy tm_shC (tn_ad h0 u) 256 tm_vC0 ++ tmXB cy (tn_ad h0 u 256) 16 (u 257) (fun _ _ => 0)
theorem tn_perm {X Y : va_W} (f : Nat → Nat) (hf : ∀ i, i < Y.length → X[f i]? = Y[i]?) (hinj : ∀ i j, i < Y.length → j < Y.length → f i = f j → i = j) : (∀ (D : va_G) (H : Heap), va_P D vwCl X H → va_P D vwCl Y H) ∧ (∀ A : Nat → Prop, va_D A X → va_D A Y) := by
  have key : ∀ (k : Nat) (q : Nat × va_E), Y[k]? = some q → k < Y.length ∧ X[f k]? = some q := fun k q hk => by
    have hl := (List.getElem?_eq_some_iff.mp hk).1
    exact ⟨hl, (hf k hl).trans hk⟩
  refine ⟨fun D H hP k q hk => hP (f k) q (key k q hk).2, fun A hD => ⟨fun i j p q hi hj e => ?_, fun k q hk => hD.2 (f k) q (key k q hk).2⟩⟩
  have hi2 := key i p hi
  have hj2 := key j q hj
  exact hinj i j hi2.1 hj2.1 (hD.1 (f i) (f j) p q hi2.2 hj2.2 e)
def tn_uF (Us : List (Nat → Nat)) (g : List Nat) : Nat → Nat := fun k => if k < 247 then ((Us[k / 19]?).getD (fun _ => 0)) (k % 19) else g.getD (k - 247) 0
theorem tn_xb {cy : Nat → ClassId} {sh : Nat → tmE} {ad : Nat → Nat} {v : tmM} {X : va_W} (j : Nat) : (tm_w cy sh ad 256 v ++ X)[256 + j]? = X[j]? := by
  rw [List.getElem?_append_right (by rw [tm_wlen]; omega), tm_wlen, Nat.add_sub_cancel_left]
def tn_f7 (i : Nat) : Nat := if i < 19 then 1 + i else if i < 247 then i + 11 else if i = 247 then 0 else i - 228
theorem tn_F_len (cy : Nat → ClassId) (h0 q1 q2 q3 q4 q5 q6 : Nat) (uq1 uq5 uq6 : Nat → Nat) (hs ss : Nat → Option Nat) : (tn_F cy h0 q1 q2 q3 q4 q5 q6 uq1 uq5 uq6 hs ss).length = 30 := rfl
theorem tn_hs (ad : Nat → Nat) : ∀ (us : List (Nat → Nat)) (ks : List Nat), us.map (fun u => u 0) = ks.map ad → (fun j : Nat => (us.map (fun u => u 0))[j]?) = fun j => (ks[j]?).map ad := fun us ks h => by
  funext j
  rw [h, List.getElem?_map]
set_option maxRecDepth 100000 in
theorem tn_k1 (cy : Nat → ClassId) (h0 q1 q2 q3 q4 q5 q6 : Nat) (uq1 uq5 uq6 : Nat → Nat) (U1 U2 : List (Nat → Nat)) (h1 : U1.length = 10) (h2 : U2.length = 2) : ∃ u : Nat → Nat, (∀ (D : va_G) (H : Heap), va_P D vwCl (tn_F cy h0 q1 q2 q3 q4 q5 q6 uq1 uq5 uq6 (fun j => (U1.map (fun u => u 0))[j]?) (fun j => (U2.map (fun u => u 0))[j]?) ++ tn_bl cy (U1 ++ U2)) H → va_P D vwCl (k1_X7 cy h0 u) H) ∧ (∀ A : Nat → Prop, va_D A (tn_F cy h0 q1 q2 q3 q4 q5 q6 uq1 uq5 uq6 (fun j => (U1.map (fun u => u 0))[j]?) (fun j => (U2.map (fun u => u 0))[j]?) ++ tn_bl cy (U1 ++ U2)) → va_D A (k1_X7 cy h0 u)) := by
  obtain ⟨a0, a1, a2, a3, a4, a5, a6, a7, a8, a9, rfl⟩ : ∃ a0 a1 a2 a3 a4 a5 a6 a7 a8 a9, U1 = [a0, a1, a2, a3, a4, a5, a6, a7, a8, a9] := by
    match U1, h1 with
    | [a0, a1, a2, a3, a4, a5, a6, a7, a8, a9], _ => exact ⟨a0, a1, a2, a3, a4, a5, a6, a7, a8, a9, rfl⟩
  obtain ⟨b0, b1, rfl⟩ : ∃ b0 b1, U2 = [b0, b1] := by
    match U2, h2 with
    | [b0, b1], _ => exact ⟨b0, b1, rfl⟩
  refine ⟨tn_uF [tn_u0 q1 uq1, a0, a1, a2, a3, a4, a5, a6, a7, a8, a9, b0, b1] [h0, q2, q3, q4, q5, uq5 1, uq5 2, uq5 3, uq5 4, q6, uq6 1], ?_⟩
  generalize hu : tn_uF [tn_u0 q1 uq1, a0, a1, a2, a3, a4, a5, a6, a7, a8, a9, b0, b1] [h0, q2, q3, q4, q5, uq5 1, uq5 2, uq5 3, uq5 4, q6, uq6 1] = u
  have hs : ∀ (m : Nat) (w : Nat → Nat), ([tn_u0 q1 uq1, a0, a1, a2, a3, a4, a5, a6, a7, a8, a9, b0, b1] : List (Nat → Nat))[m]? = some w → m < 13 → ∀ c, c < 19 → tn_ad h0 u (19 * m + c) = w c := by
    intro m w hw hm c hc
    unfold tn_ad
    rw [if_neg (by omega), ← hu]
    unfold tn_uF
    rw [if_pos (by omega), show (19 * m + c) / 19 = m by omega, show (19 * m + c) % 19 = c by omega, hw]
    rfl
  have hg : ∀ j, j < 11 → tn_ad h0 u (247 + j) = ([h0, q2, q3, q4, q5, uq5 1, uq5 2, uq5 3, uq5 4, q6, uq6 1] : List Nat).getD j 0 := by
    intro j hj
    unfold tn_ad
    by_cases h : j = 0
    · rw [h]; rfl
    · rw [if_neg (by omega), ← hu]
      unfold tn_uF
      rw [if_neg (by omega), show 247 + j - 247 = j by omega]
  have hlen : (k1_X7 cy h0 u).length = 258 := by unfold k1_X7; rw [List.length_append, tm_wlen]; rfl
  refine tn_perm tn_f7 (fun i hi => ?_) (fun i j hi hj e => by rw [hlen] at hi hj; unfold tn_f7 at e; split at e <;> split at e <;> (try split at e) <;> (try split at e) <;> (try split at e) <;> (try split at e) <;> omega)
  rw [hlen] at hi
  by_cases h247 : i < 247
  · obtain ⟨m, c, rfl, hc, hm⟩ : ∃ m c, i = 19 * m + c ∧ c < 19 ∧ m < 13 := ⟨i / 19, i % 19, by omega, by omega, by omega⟩
    unfold k1_X7
    rw [tm_wget (by omega)]
    cases m with
    | zero =>
      rw [← tn_blk cy (19 * 0) ⟨rfl, by decide⟩ (tn_ad h0 u) (tn_u0 q1 uq1) (fun c hc => hs 0 _ rfl (by decide) c hc) c hc]
      have ef : tn_f7 (19 * 0 + c) = 1 + c := by unfold tn_f7; rw [if_pos (by omega)]; omega
      rw [ef, List.getElem?_append_left (by rw [tn_F_len]; omega)]
      show (([_] ++ k1_X4 cy q1 uq1 ++ [_, _, _] ++ k1_X3 cy q5 uq5 ++ k1_J4 cy q6 uq6 : va_W))[1 + c]? = _
      rw [List.append_assoc, List.append_assoc, List.append_assoc, List.getElem?_append_right (by show 1 ≤ _; omega), List.getElem?_append_left (by show 1 + c - 1 < 19; omega)]
      rw [show 1 + c - ([_] : va_W).length = c from (by show 1 + c - 1 = c; omega), tn_st0]
    | succ m =>
      have hw : ∃ w, ([a0, a1, a2, a3, a4, a5, a6, a7, a8, a9, b0, b1] : List (Nat → Nat))[m]? = some w := ⟨_, List.getElem?_eq_getElem (by show m < 12; omega)⟩
      obtain ⟨w, hw⟩ := hw
      rw [← tn_blk cy (19 * (m + 1)) ⟨by omega, by omega⟩ (tn_ad h0 u) w (fun c hc => hs (m + 1) w (by rw [List.getElem?_cons_succ]; exact hw) (by omega) c hc) c hc]
      have ef : tn_f7 (19 * (m + 1) + c) = 30 + (19 * m + c) := by unfold tn_f7; rw [if_neg (by omega), if_pos (by omega)]; omega
      rw [ef, List.getElem?_append_right (by rw [tn_F_len]; omega), tn_F_len, show 30 + (19 * m + c) - 30 = 19 * m + c by omega]
      exact tn_bl_get cy _ m c w hw hc
  · obtain ⟨j, rfl, hj⟩ : ∃ j, i = 247 + j ∧ j < 11 := ⟨i - 247, by omega, by omega⟩
    unfold k1_X7
    have hg1 := hg 1 (by decide)
    have hg2 := hg 2 (by decide)
    have hg3 := hg 3 (by decide)
    have hg4 := hg 4 (by decide)
    have hg5 := hg 5 (by decide)
    have hg6 := hg 6 (by decide)
    have hg7 := hg 7 (by decide)
    have hg8 := hg 8 (by decide)
    have hg9 := hg 9 (by decide)
    have hg0 : tn_ad h0 u 247 = h0 := hg 0 (by decide)
    have hz : tn_ad h0 u 0 = q1 := hs 0 _ rfl (by decide) 0 (by decide)
    have hu257 : u 257 = uq6 1 := by rw [← hu]; rfl
    match j, hj with
    | 0, _ =>
      rw [tm_wget (by decide)]
      show some (h0, (Sum.inr (10, [.ref q1, .ref q2, .int 0, .int 0, .ref q3, .int 0, .ref q4, .ref q5, .ref q6]) : va_E)) = some (tn_ad h0 u 247, Sum.inr (10, [.ref (tn_ad h0 u 0), .ref (tn_ad h0 u 248), .int 0, .int 0, .ref (tn_ad h0 u 249), .int 0, .ref (tn_ad h0 u 250), .ref (tn_ad h0 u 251), .ref (tn_ad h0 u 256)]))
      rw [hg0, hz, show tn_ad h0 u 248 = q2 from hg1, show tn_ad h0 u 249 = q3 from hg2, show tn_ad h0 u 250 = q4 from hg3, show tn_ad h0 u 251 = q5 from hg4, show tn_ad h0 u 256 = q6 from hg9]
    | 1, _ =>
      rw [tm_wget (by decide)]
      show some (q2, (Sum.inl (cy 4, 10, .inr (.inr (.inr (.inr (fun j => ([a0, a1, a2, a3, a4, a5, a6, a7, a8, a9].map (fun u => u 0))[j]?))))) : va_E)) = some (tn_ad h0 u 248, Sum.inl (cy 4, 10, .inr (.inr (.inr (.inr (fun j => (([19, 38, 57, 76, 95, 114, 133, 152, 171, 190] : List Nat)[j]?).map (tn_ad h0 u)))))))
      rw [show tn_ad h0 u 248 = q2 from hg1, tn_hs (tn_ad h0 u) [a0, a1, a2, a3, a4, a5, a6, a7, a8, a9] [19, 38, 57, 76, 95, 114, 133, 152, 171, 190] (by
        show [a0 0, a1 0, a2 0, a3 0, a4 0, a5 0, a6 0, a7 0, a8 0, a9 0] = [tn_ad h0 u 19, tn_ad h0 u 38, tn_ad h0 u 57, tn_ad h0 u 76, tn_ad h0 u 95, tn_ad h0 u 114, tn_ad h0 u 133, tn_ad h0 u 152, tn_ad h0 u 171, tn_ad h0 u 190]
        rw [show tn_ad h0 u 19 = a0 0 from hs 1 a0 rfl (by decide) 0 (by decide), show tn_ad h0 u 38 = a1 0 from hs 2 a1 rfl (by decide) 0 (by decide), show tn_ad h0 u 57 = a2 0 from hs 3 a2 rfl (by decide) 0 (by decide), show tn_ad h0 u 76 = a3 0 from hs 4 a3 rfl (by decide) 0 (by decide), show tn_ad h0 u 95 = a4 0 from hs 5 a4 rfl (by decide) 0 (by decide), show tn_ad h0 u 114 = a5 0 from hs 6 a5 rfl (by decide) 0 (by decide), show tn_ad h0 u 133 = a6 0 from hs 7 a6 rfl (by decide) 0 (by decide), show tn_ad h0 u 152 = a7 0 from hs 8 a7 rfl (by decide) 0 (by decide), show tn_ad h0 u 171 = a8 0 from hs 9 a8 rfl (by decide) 0 (by decide), show tn_ad h0 u 190 = a9 0 from hs 10 a9 rfl (by decide) 0 (by decide)])]
    | 2, _ =>
      rw [tm_wget (by decide)]
      show some (q3, (Sum.inl (cy 4, 2, .inr (.inr (.inr (.inr (fun j => ([b0, b1].map (fun u => u 0))[j]?))))) : va_E)) = some (tn_ad h0 u 249, Sum.inl (cy 4, 2, .inr (.inr (.inr (.inr (fun j => (([209, 228] : List Nat)[j]?).map (tn_ad h0 u)))))))
      rw [show tn_ad h0 u 249 = q3 from hg2, tn_hs (tn_ad h0 u) [b0, b1] [209, 228] (by
        show [b0 0, b1 0] = [tn_ad h0 u 209, tn_ad h0 u 228]
        rw [show tn_ad h0 u 209 = b0 0 from hs 11 b0 rfl (by decide) 0 (by decide), show tn_ad h0 u 228 = b1 0 from hs 12 b1 rfl (by decide) 0 (by decide)])]
    | 3, _ =>
      rw [tm_wget (by decide), show tn_ad h0 u (247 + 3) = q4 from hg3]
      rfl
    | 4, _ =>
      rw [tm_wget (by decide)]
      show some (q5, (Sum.inr (6, [.ref (uq5 1), .int 0, .ref (uq5 2), .ref (uq5 3), .ref (uq5 4), .int 0, .int 0, .int (-1), .int 0, .int 0, .int 0]) : va_E)) = some (tn_ad h0 u 251, Sum.inr (6, [.ref (tn_ad h0 u 252), .int 0, .ref (tn_ad h0 u 253), .ref (tn_ad h0 u 254), .ref (tn_ad h0 u 255), .int 0, .int 0, .int (-1), .int 0, .int 0, .int 0]))
      rw [show tn_ad h0 u 251 = q5 from hg4, show tn_ad h0 u 252 = uq5 1 from hg5, show tn_ad h0 u 253 = uq5 2 from hg6, show tn_ad h0 u 254 = uq5 3 from hg7, show tn_ad h0 u 255 = uq5 4 from hg8]
    | 5, _ =>
      rw [tm_wget (by decide), show tn_ad h0 u (247 + 5) = uq5 1 from hg5]
      rfl
    | 6, _ =>
      rw [tm_wget (by decide), show tn_ad h0 u (247 + 6) = uq5 2 from hg6]
      rfl
    | 7, _ =>
      rw [tm_wget (by decide), show tn_ad h0 u (247 + 7) = uq5 3 from hg7]
      rfl
    | 8, _ =>
      rw [tm_wget (by decide), show tn_ad h0 u (247 + 8) = uq5 4 from hg8]
      rfl
    | 9, _ =>
      rw [show 247 + 9 = 256 + 0 from rfl, tn_xb, show tn_ad h0 u 256 = q6 from hg9, hu257]
      rfl
    | 10, _ =>
      rw [show 247 + 10 = 256 + 1 from rfl, tn_xb, hu257]
      rfl
    | _ + 11, hj => exact absurd hj (by omega)
set_option maxRecDepth 100000 in
theorem w_X7_init {p : Program} {l : Launch} {e : Env} {s : State} {m : MethodId} {args : Array Value} {below : List Frame} {meth : Method} {c : Code} {D : va_G} {cy : Nat → ClassId} {A : Nat → Prop} {adK adV adE : Nat → Nat} {tC h0 : Nat} (C0 : tmC p s m args meth c cX7_init 2 none RX7 TMW tm_NWC D cy tm_s0 tm_a0 0 (k0_X7 h0) A) (hE : tnE adK adV adE tC A s s.heap) (hin : meth.name = "<init>") : tmG p l e ({ frames := 3, cells := 257, slots := 7347, locals := 54 }) s m args below meth c 0 0 (MQ below (va_Qv (fun _ : Nat → Nat => True) (fun u t => va_P D vwCl (k1_X7 cy h0 u) t.heap ∧ va_D A (k1_X7 cy h0 u)) A) args s 257 7347 A) 2 D cy tm_s0 tm_a0 0 (k0_X7 h0) A () 0 [(0, .ref h0)] [] tm_v0 (some ()) := by
  refine tg_aload_n 0 C0 dX7_init_0 rfl rfl ?_
  refine tn_obj C0 dX7_init_1 tl_X7_3 ti_obj tc_obj (Nat.le_of_ble_eq_true rfl) (Nat.le_of_ble_eq_true rfl) ?_
  refine tg_aload_n 0 C0 dX7_init_4 rfl rfl ?_
  refine tn_new (ci := 7) (fs := [.int 0, .int 0, .int 0, .int 0, .int 0, .null, .null, .null, .null, .null]) C0 dX7_init_5 rfl tu_X4 tyX4_ok tcl_X7_9 tin_X4 tn_X4 (fun j hj => by rcases (show j = 0 ∨ j = 1 ∨ j = 2 ∨ j = 3 ∨ j = 4 ∨ j = 5 ∨ j = 6 ∨ j = 7 ∨ j = 8 ∨ j = 9 by omega) with rfl | rfl | rfl | rfl | rfl | rfl | rfl | rfl | rfl | rfl <;> rfl) ⟨Nat.le_of_ble_eq_true rfl, Nat.le_of_ble_eq_true rfl⟩ (fun q1 C0 => ?_)
  refine tg_dup C0 dX7_init_8 rfl ?_
  have C1 : tmC p s m args meth c cX7_init 2 none RX7 TMW tm_NWC D cy tm_s0 tm_a0 0 (([(h0, .inr (10, [.null, .null, .int 0, .int 0, .null, .int 0, .null, .null, .null]))] : va_W) ++ k0_X4 q1) A := C0
  refine tn_X (X' := ([(h0, .inr (10, [.null, .null, .int 0, .int 0, .null, .int 0, .null, .null, .null]))] : va_W) ++ k0_X4 q1) rfl ?_
  refine tn_callN (w0 := k0_X4) (w1 := k1_X4) (b := q1) 0 C1 hE dX7_init_9 (c_X4_init l) rfl rfl (tm_gc tc_X4_init) tm_nwC_X7_11 tn_X4 ti_X4_init rfl rfl rfl rfl (by decide +kernel) ⟨Nat.le_of_ble_eq_true rfl, Nat.le_of_ble_eq_true rfl⟩ (Nat.le_of_ble_eq_true rfl) ⟨Nat.le_of_ble_eq_true rfl, Nat.le_of_ble_eq_true rfl⟩ (fun uq1 C0 => ?_)
  refine tn_putF (X' := (([(h0, .inr (10, [.ref q1, .null, .int 0, .int 0, .null, .int 0, .null, .null, .null]))] : va_W) ++ k1_X4 cy q1 uq1)) 0 0 C0 dX7_init_12 hin rfl rfl tu_X7 tyX7_ok nmX7 (by decide) tf_X7_12 rfl rfl rfl rfl rfl rfl (Nat.le_of_ble_eq_true rfl) rfl (fun C0 => ?_)
  refine tg_aload_n 0 C0 dX7_init_15 rfl rfl ?_
  refine tg_bipush (x := 10) C0 dX7_init_16 (by decide) ?_
  refine tn_anew (C := RX4) (t := 4) 10 C0 hE.2.2 dX7_init_18 tcl_X7_9 (by decide) rfl rfl (by decide) (by decide) ⟨Nat.le_of_ble_eq_true rfl, Nat.le_of_ble_eq_true rfl⟩ (fun q2 C0 => ?_)
  refine tn_putF (X' := (([(h0, .inr (10, [.ref q1, .ref q2, .int 0, .int 0, .null, .int 0, .null, .null, .null]))] : va_W) ++ k1_X4 cy q1 uq1 ++ [(q2, .inl (cy 4, 10, .inr (.inr (.inr (.inr (fun _ => none))))))])) 0 1 C0 dX7_init_21 hin rfl rfl tu_X7 tyX7_ok nmX7 (by decide) tf_X7_16 rfl rfl rfl rfl rfl rfl (Nat.le_of_ble_eq_true rfl) rfl (fun C0 => ?_)
  refine tg_aload_n 0 C0 dX7_init_24 rfl rfl ?_
  refine tg_iconst (x := 2) C0 dX7_init_25 (by decide) ?_
  refine tn_anew (C := RX4) (t := 4) 2 C0 hE.2.2 dX7_init_26 tcl_X7_9 (by decide) rfl rfl (by decide) (by decide) ⟨Nat.le_of_ble_eq_true rfl, Nat.le_of_ble_eq_true rfl⟩ (fun q3 C0 => ?_)
  refine tn_putF (X' := (([(h0, .inr (10, [.ref q1, .ref q2, .int 0, .int 0, .ref q3, .int 0, .null, .null, .null]))] : va_W) ++ k1_X4 cy q1 uq1 ++ [(q2, .inl (cy 4, 10, .inr (.inr (.inr (.inr (fun _ => none)))))), (q3, .inl (cy 4, 2, .inr (.inr (.inr (.inr (fun _ => none))))))])) 0 4 C0 dX7_init_29 hin rfl rfl tu_X7 tyX7_ok nmX7 (by decide) tf_X7_20 rfl rfl rfl rfl rfl rfl (Nat.le_of_ble_eq_true rfl) rfl (fun C0 => ?_)
  refine tg_aload_n 0 C0 dX7_init_32 rfl rfl ?_
  refine tg_bipush (x := 10) C0 dX7_init_33 (by decide) ?_
  refine tn_newi 0 10 C0 dX7_init_35 (by decide) rfl tac0 rfl (by decide) (by decide) ⟨Nat.le_of_ble_eq_true rfl, Nat.le_of_ble_eq_true rfl⟩ (fun q4 C0 => ?_)
  refine tn_putF (X' := (([(h0, .inr (10, [.ref q1, .ref q2, .int 0, .int 0, .ref q3, .int 0, .ref q4, .null, .null]))] : va_W) ++ k1_X4 cy q1 uq1 ++ [(q2, .inl (cy 4, 10, .inr (.inr (.inr (.inr (fun _ => none)))))), (q3, .inl (cy 4, 2, .inr (.inr (.inr (.inr (fun _ => none)))))), (q4, .inl (cy 0, 10, .inl (fun _ => 0)))])) 0 6 C0 dX7_init_37 hin rfl rfl tu_X7 tyX7_ok nmX7 (by decide) tf_X7_23 rfl rfl rfl rfl rfl rfl (Nat.le_of_ble_eq_true rfl) rfl (fun C0 => ?_)
  refine tg_aload_n 0 C0 dX7_init_40 rfl rfl ?_
  refine tn_new (ci := 6) (fs := [.null, .int 0, .null, .null, .null, .int 0, .int 0, .int 0, .int 0, .int 0, .int 0]) C0 dX7_init_41 rfl tu_X3 tyX3_ok tcl_X7_27 tin_X3 tn_X3 (fun j hj => by rcases (show j = 0 ∨ j = 1 ∨ j = 2 ∨ j = 3 ∨ j = 4 ∨ j = 5 ∨ j = 6 ∨ j = 7 ∨ j = 8 ∨ j = 9 ∨ j = 10 by omega) with rfl | rfl | rfl | rfl | rfl | rfl | rfl | rfl | rfl | rfl | rfl <;> rfl) ⟨Nat.le_of_ble_eq_true rfl, Nat.le_of_ble_eq_true rfl⟩ (fun q5 C0 => ?_)
  refine tg_dup C0 dX7_init_44 rfl ?_
  have C1 : tmC p s m args meth c cX7_init 2 none RX7 TMW tm_NWC D cy tm_s0 tm_a0 0 ((([(h0, .inr (10, [.ref q1, .ref q2, .int 0, .int 0, .ref q3, .int 0, .ref q4, .null, .null]))] : va_W) ++ k1_X4 cy q1 uq1 ++ [(q2, .inl (cy 4, 10, .inr (.inr (.inr (.inr (fun _ => none)))))), (q3, .inl (cy 4, 2, .inr (.inr (.inr (.inr (fun _ => none)))))), (q4, .inl (cy 0, 10, .inl (fun _ => 0)))]) ++ k0_X3 q5) A := C0
  refine tn_X (X' := (([(h0, .inr (10, [.ref q1, .ref q2, .int 0, .int 0, .ref q3, .int 0, .ref q4, .null, .null]))] : va_W) ++ k1_X4 cy q1 uq1 ++ [(q2, .inl (cy 4, 10, .inr (.inr (.inr (.inr (fun _ => none)))))), (q3, .inl (cy 4, 2, .inr (.inr (.inr (.inr (fun _ => none)))))), (q4, .inl (cy 0, 10, .inl (fun _ => 0)))]) ++ k0_X3 q5) rfl ?_
  refine tn_callN (w0 := k0_X3) (w1 := k1_X3) (b := q5) 0 C1 hE dX7_init_45 (c_X3_init l) rfl rfl (tm_gc tc_X3_init) tm_nwC_X7_29 tn_X3 ti_X3_init rfl rfl rfl rfl (by decide +kernel) ⟨Nat.le_of_ble_eq_true rfl, Nat.le_of_ble_eq_true rfl⟩ (Nat.le_of_ble_eq_true rfl) ⟨Nat.le_of_ble_eq_true rfl, Nat.le_of_ble_eq_true rfl⟩ (fun uq5 C0 => ?_)
  refine tn_putF (X' := (([(h0, .inr (10, [.ref q1, .ref q2, .int 0, .int 0, .ref q3, .int 0, .ref q4, .ref q5, .null]))] : va_W) ++ k1_X4 cy q1 uq1 ++ [(q2, .inl (cy 4, 10, .inr (.inr (.inr (.inr (fun _ => none)))))), (q3, .inl (cy 4, 2, .inr (.inr (.inr (.inr (fun _ => none)))))), (q4, .inl (cy 0, 10, .inl (fun _ => 0)))] ++ k1_X3 cy q5 uq5)) 0 7 C0 dX7_init_48 hin rfl rfl tu_X7 tyX7_ok nmX7 (by decide) tf_X7_30 rfl rfl rfl rfl rfl rfl (Nat.le_of_ble_eq_true rfl) rfl (fun C0 => ?_)
  refine tg_aload_n 0 C0 dX7_init_51 rfl rfl ?_
  refine tn_new (ci := 1) (fs := [.null, .int 0, .int 0, .int 0]) C0 dX7_init_52 rfl tu_J4 tyJ4_ok tcl_X7_34 tin_J4 tn_J4 (fun j hj => by rcases (show j = 0 ∨ j = 1 ∨ j = 2 ∨ j = 3 by omega) with rfl | rfl | rfl | rfl <;> rfl) ⟨Nat.le_of_ble_eq_true rfl, Nat.le_of_ble_eq_true rfl⟩ (fun q6 C0 => ?_)
  refine tg_dup C0 dX7_init_55 rfl ?_
  have C1 : tmC p s m args meth c cX7_init 2 none RX7 TMW tm_NWC D cy tm_s0 tm_a0 0 ((([(h0, .inr (10, [.ref q1, .ref q2, .int 0, .int 0, .ref q3, .int 0, .ref q4, .ref q5, .null]))] : va_W) ++ k1_X4 cy q1 uq1 ++ [(q2, .inl (cy 4, 10, .inr (.inr (.inr (.inr (fun _ => none)))))), (q3, .inl (cy 4, 2, .inr (.inr (.inr (.inr (fun _ => none)))))), (q4, .inl (cy 0, 10, .inl (fun _ => 0)))] ++ k1_X3 cy q5 uq5) ++ k0_J4 q6) A := C0
  refine tn_X (X' := (([(h0, .inr (10, [.ref q1, .ref q2, .int 0, .int 0, .ref q3, .int 0, .ref q4, .ref q5, .null]))] : va_W) ++ k1_X4 cy q1 uq1 ++ [(q2, .inl (cy 4, 10, .inr (.inr (.inr (.inr (fun _ => none)))))), (q3, .inl (cy 4, 2, .inr (.inr (.inr (.inr (fun _ => none)))))), (q4, .inl (cy 0, 10, .inl (fun _ => 0)))] ++ k1_X3 cy q5 uq5) ++ k0_J4 q6) rfl ?_
  refine tn_call (w0 := k0_J4) (w1 := k1_J4) (b := q6) 0 C1 hE dX7_init_56 (c_J4_init_da8c8 l) rfl rfl (tm_gc tc_J4_init_da8c8) tl_X7_36 tn_J4 ti_J4_init_da8c8 rfl rfl rfl rfl (by decide +kernel) ⟨Nat.le_of_ble_eq_true rfl, Nat.le_of_ble_eq_true rfl⟩ (Nat.le_of_ble_eq_true rfl) ⟨Nat.le_of_ble_eq_true rfl, Nat.le_of_ble_eq_true rfl⟩ (fun uq6 C0 => ?_)
  refine tn_putF (X' := (([(h0, .inr (10, [.ref q1, .ref q2, .int 0, .int 0, .ref q3, .int 0, .ref q4, .ref q5, .ref q6]))] : va_W) ++ k1_X4 cy q1 uq1 ++ [(q2, .inl (cy 4, 10, .inr (.inr (.inr (.inr (fun _ => none)))))), (q3, .inl (cy 4, 2, .inr (.inr (.inr (.inr (fun _ => none)))))), (q4, .inl (cy 0, 10, .inl (fun _ => 0)))] ++ k1_X3 cy q5 uq5 ++ k1_J4 cy q6 uq6)) 0 8 C0 dX7_init_59 hin rfl rfl tu_X7 tyX7_ok nmX7 (by decide) tf_X7_37 rfl rfl rfl rfl rfl rfl (Nat.le_of_ble_eq_true rfl) rfl (fun C0 => ?_)
  refine tg_iconst (x := 0) C0 dX7_init_62 (by decide) ?_
  refine tg_istore_n [(1, .int (nI 0)), (0, .ref h0)] C0 dX7_init_63 rfl (by decide) rfl ?_
  have eX : (([(h0, .inr (10, [.ref q1, .ref q2, .int 0, .int 0, .ref q3, .int 0, .ref q4, .ref q5, .ref q6]))] : va_W) ++ k1_X4 cy q1 uq1 ++ [(q2, .inl (cy 4, 10, .inr (.inr (.inr (.inr (fun _ => none)))))), (q3, .inl (cy 4, 2, .inr (.inr (.inr (.inr (fun _ => none)))))), (q4, .inl (cy 0, 10, .inl (fun _ => 0)))] ++ k1_X3 cy q5 uq5 ++ k1_J4 cy q6 uq6) = tn_F cy h0 q1 q2 q3 q4 q5 q6 uq1 uq5 uq6 (fun j => (([] : List (Nat → Nat)).map (fun u => u 0))[j]?) (fun j => (([] : List (Nat → Nat)).map (fun u => u 0))[j]?) ++ tn_bl cy ([] : List (Nat → Nat)) := by
    rw [show (fun j => (([] : List (Nat → Nat)).map (fun u => u 0))[j]?) = fun _ => (none : Option Nat) from funext fun _ => rfl]
    exact (List.append_nil _).symm
  rw [eX] at C0
  refine tn_X (X' := tn_F cy h0 q1 q2 q3 q4 q5 q6 uq1 uq5 uq6 (fun j => (([] : List (Nat → Nat)).map (fun u => u 0))[j]?) (fun j => (([] : List (Nat → Nat)).map (fun u => u 0))[j]?) ++ tn_bl cy ([] : List (Nat → Nat))) eX ?_
  refine tn_X7_loop1 (l := l) (ss := fun j => (([] : List (Nat → Nat)).map (fun u => u 0))[j]?) hE (fun U1 h1 C0 => ?_) 10 0 [] rfl rfl C0
  refine tg_iconst (x := 0) C0 dX7_init_89 (by decide) ?_
  refine tg_istore_n [(1, .int (nI 0)), (0, .ref h0)] C0 dX7_init_90 rfl (by decide) rfl ?_
  rw [show tn_bl cy U1 = tn_bl cy (U1 ++ []) by rw [List.append_nil]] at C0
  refine tn_X (X' := tn_F cy h0 q1 q2 q3 q4 q5 q6 uq1 uq5 uq6 (fun j => (U1.map (fun u => u 0))[j]?) (fun j => (([] : List (Nat → Nat)).map (fun u => u 0))[j]?) ++ tn_bl cy (U1 ++ [])) (by rw [List.append_nil]) ?_
  refine tn_widen (c2 := 219 + 19 * 0) (s2 := 6331 + 508 * 0) (Nat.le_of_ble_eq_true rfl) (Nat.le_of_ble_eq_true rfl) ?_
  have h := @tn_X7_loop2 p l e s m args below meth c D cy A adK adV adE tC h0 q1 q2 q3 q4 q5 q6 uq1 uq5 uq6 (MQ below (va_Qv (fun _ : Nat → Nat => True) (fun u t => va_P D vwCl (k1_X7 cy h0 u) t.heap ∧ va_D A (k1_X7 cy h0 u)) A) args s 257 7347 A) (fun j => (U1.map (fun u => u 0))[j]?) U1 h1 hE
  have h3 := fun hk => h hk 2 0 ([] : List (Nat → Nat)) rfl rfl
  refine h3 (fun U2 h2 C0 => ?_) C0
  clear h3 h
  obtain ⟨u, k1, k2⟩ := tn_k1 cy h0 q1 q2 q3 q4 q5 q6 uq1 uq5 uq6 U1 U2 h1 h2
  intro hz H locs ls hP hS hL
  exact W.widen (Nat.le_of_ble_eq_true rfl) (Nat.le_of_ble_eq_true rfl) (W.vret C0.1 C0.2.1 C0.2.2.2.1 (fun t ht hW => ⟨⟨u, rfl, trivial, by rw [ht]; exact k1 D H hP, k2 A (C0.dd (v := tm_v0))⟩, hS.F ht⟩) hS.2.2 dX7_init_115 C0.2.2.2.2.1)
theorem c_X7_init (l : Launch) {adK adV adE : Nat → Nat} {tC : Nat} : tnK tm_NWC l adK adV adE tC yX7_init (Cond.code yX7_init cX7_init 2 none :: TMW) ({ frames := 3, cells := 257, slots := 7347, locals := 54 }) [] k0_X7 k1_X7 257 7347 :=
  tnK.of (by decide +kernel) rfl tm_NWC_ok (fun _ => Nat.le_of_ble_eq_true rfl) (fun p e s m args below meth c A D cy h0 C0 hE hin => w_X7_init C0 hE hin)
