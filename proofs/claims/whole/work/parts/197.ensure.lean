theorem dJ7_copyOf_9075b_0 : decode cJ7_copyOf_9075b 0 = .ok (.iload_n 1, 1) := by decide +kernel
theorem dJ7_copyOf_9075b_1 : decode cJ7_copyOf_9075b 1 = .ok (.aload_n 0, 1) := by decide +kernel
theorem dJ7_copyOf_9075b_2 : decode cJ7_copyOf_9075b 2 = .ok (.arraylength, 1) := by decide +kernel
theorem dJ7_copyOf_9075b_3 : decode cJ7_copyOf_9075b 3 = .ok (.if_icmp .ne 11, 3) := by decide +kernel
theorem dJ7_copyOf_9075b_14 : decode cJ7_copyOf_9075b 14 = .ok (.iload_n 1, 1) := by decide +kernel
theorem dJ7_copyOf_9075b_15 : decode cJ7_copyOf_9075b 15 = .ok (.newarray .byte, 2) := by decide +kernel
theorem dJ7_copyOf_9075b_17 : decode cJ7_copyOf_9075b 17 = .ok (.astore_n 2, 1) := by decide +kernel
theorem dJ7_copyOf_9075b_18 : decode cJ7_copyOf_9075b 18 = .ok (.aload_n 0, 1) := by decide +kernel
theorem dJ7_copyOf_9075b_19 : decode cJ7_copyOf_9075b 19 = .ok (.iconst 0, 1) := by decide +kernel
theorem dJ7_copyOf_9075b_20 : decode cJ7_copyOf_9075b 20 = .ok (.aload_n 2, 1) := by decide +kernel
theorem dJ7_copyOf_9075b_21 : decode cJ7_copyOf_9075b 21 = .ok (.iconst 0, 1) := by decide +kernel
theorem dJ7_copyOf_9075b_22 : decode cJ7_copyOf_9075b 22 = .ok (.aload_n 0, 1) := by decide +kernel
theorem dJ7_copyOf_9075b_23 : decode cJ7_copyOf_9075b 23 = .ok (.arraylength, 1) := by decide +kernel
theorem dJ7_copyOf_9075b_24 : decode cJ7_copyOf_9075b 24 = .ok (.iload_n 1, 1) := by decide +kernel
theorem dJ7_copyOf_9075b_25 : decode cJ7_copyOf_9075b 25 = .ok (.invokestatic 304, 3) := by decide +kernel
theorem dJ7_copyOf_9075b_28 : decode cJ7_copyOf_9075b 28 = .ok (.invokestatic 150, 3) := by decide +kernel
theorem dJ7_copyOf_9075b_31 : decode cJ7_copyOf_9075b 31 = .ok (.aload_n 2, 1) := by decide +kernel
theorem dJ7_copyOf_9075b_32 : decode cJ7_copyOf_9075b 32 = .ok (.areturn, 1) := by decide +kernel
theorem dJ5_ensureCapacityInternal_d00df_0 : decode cJ5_ensureCapacityInternal_d00df 0 = .ok (.aload_n 0, 1) := by decide +kernel
theorem dJ5_ensureCapacityInternal_d00df_1 : decode cJ5_ensureCapacityInternal_d00df 1 = .ok (.getfield 15, 3) := by decide +kernel
theorem dJ5_ensureCapacityInternal_d00df_4 : decode cJ5_ensureCapacityInternal_d00df 4 = .ok (.arraylength, 1) := by decide +kernel
theorem dJ5_ensureCapacityInternal_d00df_5 : decode cJ5_ensureCapacityInternal_d00df 5 = .ok (.aload_n 0, 1) := by decide +kernel
theorem dJ5_ensureCapacityInternal_d00df_6 : decode cJ5_ensureCapacityInternal_d00df 6 = .ok (.getfield 22, 3) := by decide +kernel
theorem dJ5_ensureCapacityInternal_d00df_9 : decode cJ5_ensureCapacityInternal_d00df 9 = .ok (.ishr, 1) := by decide +kernel
theorem dJ5_ensureCapacityInternal_d00df_10 : decode cJ5_ensureCapacityInternal_d00df 10 = .ok (.istore_n 2, 1) := by decide +kernel
theorem dJ5_ensureCapacityInternal_d00df_11 : decode cJ5_ensureCapacityInternal_d00df 11 = .ok (.iload_n 1, 1) := by decide +kernel
theorem dJ5_ensureCapacityInternal_d00df_12 : decode cJ5_ensureCapacityInternal_d00df 12 = .ok (.iload_n 2, 1) := by decide +kernel
theorem dJ5_ensureCapacityInternal_d00df_13 : decode cJ5_ensureCapacityInternal_d00df 13 = .ok (.isub, 1) := by decide +kernel
theorem dJ5_ensureCapacityInternal_d00df_14 : decode cJ5_ensureCapacityInternal_d00df 14 = .ok (.ifCond .le 24, 3) := by decide +kernel
theorem dJ5_ensureCapacityInternal_d00df_17 : decode cJ5_ensureCapacityInternal_d00df 17 = .ok (.aload_n 0, 1) := by decide +kernel
theorem dJ5_ensureCapacityInternal_d00df_18 : decode cJ5_ensureCapacityInternal_d00df 18 = .ok (.aload_n 0, 1) := by decide +kernel
theorem dJ5_ensureCapacityInternal_d00df_19 : decode cJ5_ensureCapacityInternal_d00df 19 = .ok (.getfield 15, 3) := by decide +kernel
theorem dJ5_ensureCapacityInternal_d00df_22 : decode cJ5_ensureCapacityInternal_d00df 22 = .ok (.aload_n 0, 1) := by decide +kernel
theorem dJ5_ensureCapacityInternal_d00df_23 : decode cJ5_ensureCapacityInternal_d00df 23 = .ok (.iload_n 1, 1) := by decide +kernel
theorem dJ5_ensureCapacityInternal_d00df_24 : decode cJ5_ensureCapacityInternal_d00df 24 = .ok (.invokevirtual 104, 3) := by decide +kernel
theorem dJ5_ensureCapacityInternal_d00df_27 : decode cJ5_ensureCapacityInternal_d00df 27 = .ok (.aload_n 0, 1) := by decide +kernel
theorem dJ5_ensureCapacityInternal_d00df_28 : decode cJ5_ensureCapacityInternal_d00df 28 = .ok (.getfield 22, 3) := by decide +kernel
theorem dJ5_ensureCapacityInternal_d00df_31 : decode cJ5_ensureCapacityInternal_d00df 31 = .ok (.ishl, 1) := by decide +kernel
theorem dJ5_ensureCapacityInternal_d00df_32 : decode cJ5_ensureCapacityInternal_d00df 32 = .ok (.invokestatic 108, 3) := by decide +kernel
theorem dJ5_ensureCapacityInternal_d00df_35 : decode cJ5_ensureCapacityInternal_d00df 35 = .ok (.putfield 15, 3) := by decide +kernel
theorem dJ5_ensureCapacityInternal_d00df_38 : decode cJ5_ensureCapacityInternal_d00df 38 = .ok (.return_, 1) := by decide +kernel
theorem tl_J7_150 : Cond.methodLink RJ7 150 arraycopyName ∈ TMW := tm_in 1314 (by decide +kernel) (by decide +kernel)
theorem tl_J7_304 : Cond.methodLink RJ7 304 Lib.Math.min.name ∈ TMW := tm_in 1313 (by decide +kernel) (by decide +kernel)
theorem tac8 : Cond.arrayClass .byte ∈ TMW := tm_in 352 (by decide +kernel) (by decide +kernel)
theorem tc_J7_copyOf_9075b : Cond.code yJ7_copyOf_9075b cJ7_copyOf_9075b 3 (some (.array .byte)) ∈ TMW := tm_in 1305 (by decide +kernel) (by decide +kernel)
theorem tst_J7_copyOf_9075b : Cond.static yJ7_copyOf_9075b ∈ TMW := tm_in 1304 (by decide +kernel) (by decide +kernel)
theorem tc_J5_newCapacity_0f7a4 : Cond.code yJ5_newCapacity_0f7a4 cJ5_newCapacity_0f7a4 6 (some .int) ∈ TMW := tm_in 1293 (by decide +kernel) (by decide +kernel)
theorem tl_J5_104 : Cond.methodLink RJ5 104 yJ5_newCapacity_0f7a4 ∈ TMW := tm_in 1290 (by decide +kernel) (by decide +kernel)
theorem ti_J5_newCapacity_0f7a4 : Cond.instanceMethod yJ5_newCapacity_0f7a4 ∈ TMW := tm_in 1292 (by decide +kernel) (by decide +kernel)
theorem tl_J5_108 : Cond.methodLink RJ5 108 yJ7_copyOf_9075b ∈ TMW := tm_in 1303 (by decide +kernel) (by decide +kernel)
theorem tn_J7 : Cond.initialized RJ7 ∈ TMW := tm_in 135 (by decide +kernel) (by decide +kernel)
def tm_gr (v : tmM) (κ : Nat) : tmM := fun k => match k with
  | 0 => v 0
  | _ => va_cpy (v 1) (fun _ => 0) 0 0 κ
section ENS
variable {p : Program} {l : Launch} {e : Env} {s : State} {m : MethodId} {args : Array Value} {below : List Frame} {meth : Method} {c : Code} {D : va_G} {cy : Nat → ClassId} {A : Nat → Prop} {adK adV adE : Nat → Nat} {tC a0 b0 κ : Nat}
theorem w_J7_copyOf {N : Nat} {v : tmM} (C0 : tmC p s m args meth c cJ7_copyOf_9075b 3 (some (.array .byte)) RJ7 TMW tm_NWC D cy (tm_shB κ) (tm_aB a0 b0) 2 [] A) (h : κ < N ∧ N ≤ 70) (hf : ∀ i, i < κ → fits .byte (.int (v 1 i)) = true) : tmG p l e ({ frames := 1, cells := 1, slots := 70, locals := 60 } : Room) s m args below meth c 0 0 (MQ below (va_Qr (fun _ : Unit => True) (fun _ a t => tmAt (tm_sh3 κ N) 3 D cy (tm_a3 a0 b0 a) A (tm_v3 v (va_cpy (v 1) (fun _ => 0) 0 0 κ)) t) A) args s 1 70 A) 3 D cy (tm_shB κ) (tm_aB a0 b0) 2 [] A () 0 [(0, .ref b0), (1, .int (nI N))] [] v (some ()) := by
  have e1 : ¬ nI N = Int32.ofNat κ := fun q => by have := (nI_eq (by omega) (by omega)).mp (show nI N = nI κ from q); omega
  have e2 : (if nI N < Int32.ofNat κ then nI N else Int32.ofNat κ) = nI κ := if_neg (nI_nlt (a := N) (b := κ) (by omega) (by omega))
  refine tg_iload_n 1 C0 dJ7_copyOf_9075b_0 rfl rfl ?_
  refine tg_aload_n 0 C0 dJ7_copyOf_9075b_1 rfl rfl ?_
  refine tg_alen (x := Int32.ofNat κ) 1 C0 dJ7_copyOf_9075b_2 (by decide) rfl (by decide) rfl ?_
  refine tg_eq (r := if nI N = Int32.ofNat κ then some () else some ()) (by split <;> rfl) ?_
  refine tg_icmp_ne 14 C0 dJ7_copyOf_9075b_3 (by decide) (fun _ => ?_) (fun q => absurd q e1)
  refine tg_iload_n 1 C0 dJ7_copyOf_9075b_14 rfl rfl ?_
  refine tb_new8 N C0 dJ7_copyOf_9075b_15 tac8 h.2 ⟨by decide, by decide⟩ (fun g0 C0 => ?_)
  refine tg_astore_n [(2, .ref g0), (0, .ref b0), (1, .int (nI N))] C0 dJ7_copyOf_9075b_17 rfl (by decide) rfl ?_
  refine tg_aload_n 1 C0 dJ7_copyOf_9075b_18 rfl rfl ?_
  refine tg_iconst (x := 0) C0 dJ7_copyOf_9075b_19 (by decide) ?_
  refine tg_aload_n 0 C0 dJ7_copyOf_9075b_20 rfl rfl ?_
  refine tg_iconst (x := 0) C0 dJ7_copyOf_9075b_21 (by decide) ?_
  refine tg_aload_n 1 C0 dJ7_copyOf_9075b_22 rfl rfl ?_
  refine tg_alen (x := Int32.ofNat κ) 1 C0 dJ7_copyOf_9075b_23 (by decide) rfl (by decide) rfl ?_
  refine tg_iload_n 2 C0 dJ7_copyOf_9075b_24 rfl rfl ?_
  refine tg_mmin C0 dJ7_copyOf_9075b_25 tl_J7_304 tmminst tmath tmminco (by decide) (Nat.le_of_ble_eq_true rfl) ⟨Nat.le_refl _, by show 0 + N ≤ 70; omega⟩ ?_
  rw [e2]
  have e3 : (nI κ).toNatClampNeg = κ := nI_clamp (by omega)
  refine tg_copy8 1 2 C0 dJ7_copyOf_9075b_28 (by decide) (by decide) rfl rfl tl_J7_150 tnat tsta tsys (decide_eq_true ⟨by decide, by decide, nI_pos (by omega), by rw [e3]; show 0 + κ ≤ κ; omega, by rw [e3]; show 0 + κ ≤ N; omega⟩) (fun i hi => by rw [e3] at hi; show fits .byte (.int (v 1 (0 + i))) = true; rw [Nat.zero_add]; exact hf i hi) (by decide) (Nat.le_of_ble_eq_true rfl) ?_
  refine tg_aload_n 0 C0 dJ7_copyOf_9075b_31 rfl rfl ?_
  intro hz H locs ls hP hS hL
  refine W.widen (Nat.le_refl _) (by show 0 + N ≤ 70; omega) (W.aret C0.1 C0.2.1 C0.2.2.2.1 (Or.inr ⟨_, rfl⟩) (Or.inr ⟨_, rfl⟩) (fun t ht hW => ⟨⟨(), g0, rfl, trivial, ?_, tm_Dleft C0.dd⟩, hS.F ht⟩) hS.2.2 dJ7_copyOf_9075b_32 C0.2.2.2.2.1)
  rw [ht]
  have e4 : tm_set (tm_v3 v fun _ => 0) 2 (va_cpy (tm_v3 v (fun _ => 0) 1) (tm_v3 v (fun _ => 0) 2) (0 : Int32).toNatClampNeg (0 : Int32).toNatClampNeg (nI κ).toNatClampNeg) = tm_v3 v (va_cpy (v 1) (fun _ => 0) 0 0 κ) := by
    rw [e3]
    funext k
    match k with
    | 0 => rfl
    | 1 => rfl
    | 2 => rfl
    | k + 3 => rfl
  rw [← e4]
  exact tm_Pleft hP
theorem c_J7_copyOf (l : Launch) {N : Nat} {v : tmM} (h : κ < N ∧ N ≤ 70) (hf : ∀ i, i < κ → fits .byte (.int (v 1 i)) = true) (sz : Nat) : Met l yJ7_copyOf_9075b (Cond.code yJ7_copyOf_9075b cJ7_copyOf_9075b 3 (some (.array .byte)) :: TMW) ({ frames := 1, cells := 1, slots := 70, locals := 60 } : Room) (va_Pc [.ref b0, .int (nI N)] (tmPre tm_NWC (tm_shB κ) 2 D cy (tm_aB a0 b0) sz v)) (va_Qr (fun _ : Unit => True) (fun _ a t => tmAt (tm_sh3 κ N) 3 D cy (tm_a3 a0 b0 a) (va_A (tm_w cy (tm_shB κ) (tm_aB a0 b0) 2 v) sz) (tm_v3 v (va_cpy (v 1) (fun _ => 0) 0 0 κ)) t) (va_A (tm_w cy (tm_shB κ) (tm_aB a0 b0) 2 v) sz)) 1 70 (va_A (tm_w cy (tm_shB κ) (tm_aB a0 b0) 2 v) sz) := by
  refine Met.ofW (cc := cJ7_copyOf_9075b) (maxL := 3) (ret := some (.array .byte)) (by decide +kernel) rfl ?_
  intro p e s m args below meth c s₁ B hml hv
  obtain ⟨rfl, hsz, hP, hK, hN, hD0⟩ := hv
  have hx := B.exec
  have hb := B.bytes
  have hr := B.returns
  have hts : ∀ w ∈ TMW, w.before _ s = true := fun w h => atoms_spec (ws := Cond.code yJ7_copyOf_9075b cJ7_copyOf_9075b 3 (some (.array .byte)) :: TMW) B.pre w (List.mem_cons_of_mem _ h)
  have hown : s.vm.findClass RJ7 = some m.cls := findClass_of_methodNamed B.named
  have hlocks := B.notSynchronized
  subst hsz
  have hD := hD0.self (sz := s.heap.size)
  generalize hAe : va_A (tm_w cy (tm_shB κ) (tm_aB a0 b0) 2 v) s.heap.size = A at hD ⊢
  have hA : ∀ q : Nat, s.heap.size ≤ q → A q := fun q h => by rw [← hAe]; exact Or.inr h
  have hl := lv_entry [.ref b0, .int (nI N)] (n := 3) (Nat.le_of_ble_eq_true rfl)
  rw [lg_entry_eq]
  exact w_J7_copyOf (l := l) (e := e) (below := below) (v := v) (N := N) (κ := κ) ⟨hx, hb, hml, hr, hlocks, hown, hts, hK, hN, tm_NWC_ok, by rw [List.append_nil]; exact tm_Dw hD, hA⟩ h hf rfl s.heap [] _ (by rw [List.append_nil]; exact hP) va_S.rf hl

def tm_enG (gr κ : Nat) (q : Int32) (v : tmM) : Bool := decide (gr = 1 ∧ (q = nI q.toNatClampNeg ∧ κ < q.toNatClampNeg ∧ q.toNatClampNeg ≤ 70) ∧ ∀ i, i < κ → fits .byte (.int (v 1 i)) = true)
def f_J5_ensureCapacityInternal_d00df (gr : Nat) (κ : Nat) (x1 : Int32) (v : tmM) : Option (Unit × (Nat × tmM)) := tm_lt (Int32.ofNat κ >>> ((v 0 1) &&& 31)) fun y1 => (if x1 - y1 ≤ 0 then some ((), (κ, v)) else tm_cl (f_J5_newCapacity_0f7a4 κ x1 v) fun r2 v2 => tm_lt (r2 <<< ((v2 0 1) &&& 31)) fun y3 => tm_g (tm_enG gr κ y3 v2) (some ((), (y3.toNatClampNeg, tm_gr v2 κ))))
set_option maxRecDepth 100000 in
theorem w_J5_ensureCapacityInternal_d00df {z : Unit × (Nat × tmM)} {gr : Nat} (C0 : tmC p s m args meth c cJ5_ensureCapacityInternal_d00df 3 none RJ5 TMW tm_NWC D cy (tm_shB κ) (tm_aB a0 b0) 2 [] A) (hE : tmSc adK adV adE tC A s s.heap) (x1 : Int32) (v : tmM) : tmG p l e ({ frames := 3, cells := gr, slots := 70 * gr, locals := 88 } : Room) s m args below meth c 0 0 (MQ below (va_Qv (fun u => z = ((), u)) (tmBt D cy a0 A) A) args s gr (70 * gr) A) 3 D cy (tm_shB κ) (tm_aB a0 b0) 2 [] A z 0 [(0, .ref a0), (1, .int x1)] [] v (f_J5_ensureCapacityInternal_d00df gr κ x1 v) := by
  unfold f_J5_ensureCapacityInternal_d00df
  refine tg_aload_n 0 C0 dJ5_ensureCapacityInternal_d00df_0 rfl rfl ?_
  refine tg_get 0 0 C0 dJ5_ensureCapacityInternal_d00df_1 (by decide) rfl rfl tu_J4 (by decide) tf_J5_15 rfl rfl rfl ?_
  refine tg_alen (x := Int32.ofNat κ) 1 C0 dJ5_ensureCapacityInternal_d00df_4 (by decide) rfl (by decide) rfl ?_
  refine tg_aload_n 0 C0 dJ5_ensureCapacityInternal_d00df_5 rfl rfl ?_
  refine tg_get 0 1 C0 dJ5_ensureCapacityInternal_d00df_6 (by decide) rfl rfl tu_J4 (by decide) tf_J5_22 rfl rfl rfl ?_
  refine tg_ishr C0 dJ5_ensureCapacityInternal_d00df_9 ?_
  refine tg_leti (fun y1 _ => ?_)
  refine tg_istore_n [(2, .int y1), (0, .ref a0), (1, .int x1)] C0 dJ5_ensureCapacityInternal_d00df_10 rfl (by decide) rfl ?_
  refine tg_iload_n 2 C0 dJ5_ensureCapacityInternal_d00df_11 rfl rfl ?_
  refine tg_iload_n 0 C0 dJ5_ensureCapacityInternal_d00df_12 rfl rfl ?_
  refine tg_isub C0 dJ5_ensureCapacityInternal_d00df_13 ?_
  refine tg_if_le 38 C0 dJ5_ensureCapacityInternal_d00df_14 (by decide) (fun _ => ?_) (fun _ => ?_)
  · exact tb_vret C0 dJ5_ensureCapacityInternal_d00df_38 ⟨Nat.zero_le _, Nat.zero_le _⟩
  · refine tg_aload_n 1 C0 dJ5_ensureCapacityInternal_d00df_17 rfl rfl ?_
    refine tg_aload_n 1 C0 dJ5_ensureCapacityInternal_d00df_18 rfl rfl ?_
    refine tg_get 0 0 C0 dJ5_ensureCapacityInternal_d00df_19 (by decide) rfl rfl tu_J4 (by decide) tf_J5_15 rfl rfl rfl ?_
    refine tg_aload_n 1 C0 dJ5_ensureCapacityInternal_d00df_22 rfl rfl ?_
    refine tg_iload_n 2 C0 dJ5_ensureCapacityInternal_d00df_23 rfl rfl ?_
    refine tp_callPi (As := [.int x1]) 1 C0 hE dJ5_ensureCapacityInternal_d00df_24 (c_J5_newCapacity_0f7a4 l κ x1 v) rfl rfl (tm_gc tc_J5_newCapacity_0f7a4) tl_J5_104 tn_J5 ti_J5_newCapacity_0f7a4 (fun hts => hts _ (tm_inB 1 rfl (by decide +kernel))) rfl rfl rfl rfl ⟨by decide, by decide, by decide +kernel⟩ ⟨Nat.le_of_ble_eq_true rfl, Nat.le_of_ble_eq_true rfl⟩ (Nat.le_of_ble_eq_true rfl) ⟨Nat.zero_le _, Nat.zero_le _⟩ (fun r2 v2 _ => ?_)
    refine tg_aload_n 1 C0 dJ5_ensureCapacityInternal_d00df_27 rfl rfl ?_
    refine tg_get 0 1 C0 dJ5_ensureCapacityInternal_d00df_28 (by decide) rfl rfl tu_J4 (by decide) tf_J5_22 rfl rfl rfl ?_
    refine tg_ishl C0 dJ5_ensureCapacityInternal_d00df_31 ?_
    refine tg_leti (fun y3 _ => ?_)
    refine tg_g (fun hg => ?_)
    obtain ⟨hgr, ⟨hq, hN⟩, hf⟩ := of_decide_eq_true hg
    subst hgr
    generalize hy : y3.toNatClampNeg = N at hq hN
    subst hq
    intro hz H locs ls hP hS hL
    have hts := C0.2.2.2.2.2.2.1
    have hF := tm_free (w1 := tm_w cy (tm_shB κ) (tm_aB a0 b0) 2 v2) (w2 := []) C0.dd hS C0.2.2.2.2.2.2.2.2.2.2.2
    refine va_callr (va_runS (As := [.ref b0, .int (nI N)]) (rest := [.ref a0]) (n := 2) ⟨C0.1, C0.2.1, C0.2.2.1, C0.2.2.2.2.2.1, hts⟩ (c_J7_copyOf (D := D) (cy := cy) (a0 := a0) l hN hf H.size) ⟨callB_of 2 hts (tm_gc tc_J7_copyOf_9075b) rfl rfl rfl (hts _ tn_J7) (hts _ tl_J5_108) ⟨by decide, by decide, by decide +kernel⟩ ⟨by decide, by decide⟩, hts _ tst_J7_copyOf_9075b⟩ ⟨tmPre.blind tm_NWC_ok _, fun U hU hW => ⟨rfl, by rw [hU], by rw [hU]; exact tm_Pleft hP, va_K.moved hW.alike C0.2.2.2.2.2.2.2.1, tmNs.warm tm_NWC_ok hW C0.2.2.2.2.2.2.2.2.1, (tm_Dleft C0.dd).weaken (fun _ _ _ _ => trivial)⟩⟩ rfl rfl hL.1 rfl (lv_room (Nat.le_of_ble_eq_true rfl)) dJ5_ensureCapacityInternal_d00df_32 ⟨by decide, by decide⟩) hS (fun q _ h => hF q h) hF (fun u g0 t H1 locs1 ht hvm _ hB hz1 hk1 hS1 => ?_)
    obtain ⟨hP1, hD1⟩ := hB
    rw [ht] at hP1
    have hj := tm_join hP C0.dd hk1 hF hP1 hD1
    have C3 := C0.ad hj.2
    have ha : (tm_w cy (tm_sh3 κ N) (tm_a3 a0 b0 g0) 3 (tm_v3 v2 (va_cpy (v2 1) (fun _ => 0) 0 0 κ)) ++ [])[0]? = some (a0, .inr (1, [.ref b0, .int (v2 0 1), .int (v2 0 2), .int (v2 0 3)])) := rfl
    refine va_put (ws := tm_w cy (tm_sh3 κ N) (tm_a3 a0 b0 g0) 3 (tm_v3 v2 (va_cpy (v2 1) (fun _ => 0) 0 0 κ)) ++ []) (v := .ref g0) C3.1 C3.2.1 hts tu_J4 tyJ4 tyJ4_ok nmJ4 C3.2.2.2.2.2.1 C3.2.2.2.2.2.2.2.1 hj.1 hj.2 hS1 0 ha (show vwCl[1]? = some (RJ4, TJ4, 4) from rfl) 0 (by decide) (hts _ tf_J5_15) (fun _ h => h) rfl (tyJ4_ok 0 (by decide)) rfl rfl (Nat.zero_lt_succ _) dJ5_ensureCapacityInternal_d00df_35 (fun H2 locs2 hP2 hD2 hS2 => ?_)
    have hP4 := hP2.sub (ws' := tm_w cy (tm_shB N) (tm_aB a0 g0) 2 (tm_gr v2 κ) ++ []) [0, 2] rfl
    have hD4 := hD2.sub (ws' := tm_w cy (tm_shB N) (tm_aB a0 g0) 2 (tm_gr v2 κ) ++ []) [0, 2] rfl rfl
    exact tb_vret (cells := 0 + 1) (slots := 0 + 70) (lv := [(2, .int y1), (0, .ref a0), (1, .int x1)]) (C0.ad hD4) dJ5_ensureCapacityInternal_d00df_38 ⟨by decide, by decide⟩ hz H2 locs2 ls hP4 hS2 hL
theorem c_J5_ensureCapacityInternal_d00df (l : Launch) {adK adV adE : Nat → Nat} {tC : Nat} (gr : Nat) (κ : Nat) (x1 : Int32) (v : tmM) : tmBv tm_NWC l adK adV adE tC yJ5_ensureCapacityInternal_d00df (Cond.code yJ5_ensureCapacityInternal_d00df cJ5_ensureCapacityInternal_d00df 3 none :: TMW) ({ frames := 3, cells := gr, slots := 70 * gr, locals := 88 } : Room) (fun a0 b0 => [.ref a0, .int x1]) κ v gr (70 * gr) (f_J5_ensureCapacityInternal_d00df gr κ x1 v) :=
  tmBv.of (cc := cJ5_ensureCapacityInternal_d00df) (nL := 3) (by decide +kernel) rfl tm_NWC_ok (fun _ _ => Nat.le_of_ble_eq_true rfl) (fun p e s m args below meth c A D cy a0 b0 z C0 hE => w_J5_ensureCapacityInternal_d00df C0 hE x1 v)
end ENS

