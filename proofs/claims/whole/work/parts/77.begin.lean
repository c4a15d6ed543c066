/-! ===== the fresh object and the fresh reference are related; the claim's start ===== -/
theorem zc_r11 {k : Nat} (hk : k < 60) : tm_vR1 1 (11 + k) = -1 := by
  show (if 11 + k = 6 then (3 : Int32) else if 11 ≤ 11 + k ∧ 11 + k < 131 then -1 else 0) = -1
  rw [if_neg (by omega), if_pos (by omega)]
theorem zc_r71 {k : Nat} (hk : k < 60) : tm_vR1 1 (71 + k) = -1 := by
  show (if 71 + k = 6 then (3 : Int32) else if 11 ≤ 71 + k ∧ 71 + k < 131 then -1 else 0) = -1
  rw [if_neg (by omega), if_pos (by omega)]
theorem zc_r431 {k : Nat} (hk : k < 60) : tm_vR1 1 (431 + k) = 0 := by
  show (if 431 + k = 6 then (3 : Int32) else if 11 ≤ 431 + k ∧ 431 + k < 131 then -1 else 0) = 0
  rw [if_neg (by omega), if_neg (by omega)]
theorem zc_v3 {k : Nat} (hk : k < 60) : tm_vC0 3 k = -1 := by
  show (if k < 60 then (-1 : Int32) else 0) = -1
  rw [if_pos hk]
theorem zc_v4 {k : Nat} (hk : k < 60) : tm_vC0 4 k = -1 := by
  show (if k < 60 then (-1 : Int32) else 0) = -1
  rw [if_pos hk]
theorem zc_rP0 : rP 0 tm_vC0 (tm_vR1 1) :=
  ⟨⟨rfl, rfl, rfl, rfl, rfl, rfl, rfl⟩, ⟨fun k hk => (zc_v3 hk).trans (zc_r11 hk).symm, fun k hk => (zc_v4 hk).trans (zc_r71 hk).symm, fun k hk => (show tm_vC0 18 k = 0 from rfl).trans (zc_r431 hk).symm⟩, fun q => absurd q (by decide), ⟨0, by decide, rfl, rfl, fun i hi => absurd hi (by omega), fun i hi => absurd hi (by omega), fun i j hi => absurd hi (by omega)⟩, ⟨0, by decide, rfl, rfl, fun i hi => absurd hi (by omega)⟩, fun q => absurd q (by decide), ⟨Or.inl rfl, ⟨3, by decide, rfl⟩, ⟨0, by decide, rfl⟩, ⟨0, by decide, rfl⟩, ⟨0, by decide, rfl⟩, Or.inl ⟨rfl, rfl⟩, fun k hk => Or.inl (zc_r11 hk), fun _ => ⟨rfl, rfl, rfl⟩⟩⟩
theorem zc_m0 : ∀ s, s < 2 → mHas (nI 0) (nI s) = 0 := by decide
theorem mG_fresh : mG 0 tm_vC0 [] tm_vR1 := by
  refine ⟨zc_rP0, ⟨0, 0, by decide, by decide, rfl, rfl, rfl, fun i hi => absurd hi (by omega)⟩, ⟨0, by decide, rfl, fun s hs => ⟨(zc_m0 s hs).symm, fun q => ?_⟩⟩, fun i hi => rfl, ⟨⟨0, by decide, rfl, rfl, fun i hi => absurd hi (by omega)⟩, rfl, rfl⟩, ⟨rfl, by decide, fun i hi => absurd hi (by show ¬ i < 0; omega)⟩, ⟨fun i hi => rfl, fun i hi => rfl⟩⟩
  rw [zc_m0 s hs] at q
  exact absurd q (by decide)
theorem whole_start {p : Program} {e : Env} {s : State} {m : MethodId} {below : List Frame} {meth : Method} {c : Code} (l : Launch) (hflags : l.flags = flags0) {b L : Nat} {xs : Nat → Int32} (hL : L ≤ 2560) (C0 : lw_At p s m meth c b L xs) : W p l e room_1 s m #[Value.ref b] below meth c s.heap [] 0 0 (lw_Z below #[Value.ref b] s) (entryFrame m ([Value.ref b] : List Value).toArray 10) := law_start (Rl := fun k => mG (1800 * k)) (fun k hk => zc_all (by omega) (by omega)) mG_fresh l hflags hL C0
