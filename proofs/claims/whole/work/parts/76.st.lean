/-! the law's start -/
theorem inv_new {g : XH} (C : CI g O0 M0 (V0 10) O0 M0 (V0 45) false T0 (fun _ => S0s)) (E : g = mh g nw0 (fun _ => 0) (fun _ => 0) (fun _ => 0) (fun _ => 0) (fun _ => 0) (fun _ => 0) (cp (fun _ => -1) (fun _ => 0) 4) (fun _ => 0) (fun _ => 0) (fun _ => 0) 0 0 false 0 0 false) : INV g := by
  have hRO : RO O0 nw0 := ⟨rfl, rfl, Nat.zero_le _, Nat.zero_le _, rfl, rfl, ⟨5, by decide, by decide, rfl⟩, ⟨1, by decide, rfl⟩, fun t ht => absurd ht (Nat.not_lt_zero _), fun l hl => absurd hl (Nat.not_lt_zero _)⟩
  have hRM : RM O0.nT O0.nL M0 nw0 := ⟨rfl, rfl, rfl, rfl, rfl, fun t ht => absurd ht (Nat.not_lt_zero _), fun l hl => absurd hl (Nat.not_lt_zero _), fun l _ hl => if_pos hl⟩
  refine ⟨O0, M0, V0 10, O0, M0, V0 45, false, T0, fun _ => S0s, nw0, fun _ => 0, fun _ => 0, fun _ => 0, fun _ => 0, fun _ => 0, fun _ => 0, cp (fun _ => -1) (fun _ => 0) 4, fun _ => 0, fun _ => 0, fun _ => 0, 0, 0, false, 0, 0, false, C, E, ⟨hRO, hRM, ⟨0, by decide, rfl⟩, Nat.zero_le _, rfl, fun k hk => absurd hk (Nat.not_lt_zero _)⟩, ⟨rfl, fun z => Bool.noConfusion z⟩, ⟨rfl, Nat.zero_le _, rfl, fun i hi => absurd hi (Nat.not_lt_zero _)⟩, fun s hs => ⟨?_, rfl, Or.inl (if_pos hs), ⟨0, by decide, rfl⟩, fun i _ => rfl⟩⟩
  show (-1 : Int32) = cp (fun _ => -1) (fun _ => 0) 4 s
  rw [cp, if_pos hs]
theorem xfit3 : XFit room_1 3 := ⟨by decide, by decide⟩
theorem xfit1 : XFit room_1 1 := ⟨by decide, by decide⟩
theorem law_X {xs : Nat → Int32} {N : Nat} (hN : N ≤ 384) : X (xScr xs N) mL_law room_1 (0, 0) 0 [some (.ref 1000000), none, none, none] [] (fun _ => none) (fun v h' => v = some (.int (bI true))) := by
  have d0 : XDom (fun _ => none) 0 := fun i => ⟨fun q => absurd q Bool.false_ne_true, fun q => absurd q (Nat.not_lt_zero _)⟩
  refine X.new iL_law_0 d0 (by decide) ⟨by decide, by decide⟩ ?_
  refine X.dupa iL_law_3 ?_
  refine X.callI (S0 := [.ref 0]) iL_law_4 (c_X6_init (d := 0) d0.push (xup_eq _ _ _)) rfl rfl xfit3 (Nat.le_of_ble_eq_true rfl) ⟨by decide, by decide⟩ ?_
  intro v1 g1 hq
  obtain ⟨rfl, C1, d1⟩ := hq
  refine X.astore iL_law_7 rfl rfl ?_
  refine X.new iL_law_8 d1 (by decide) ⟨by decide, by decide⟩ ?_
  refine X.dupa iL_law_11 ?_
  refine X.callI (S0 := [.ref 98]) iL_law_12 (c_X7_init (d := 0) d1.push (xup_eq _ _ _)) rfl rfl xfit1 (Nat.le_of_ble_eq_true rfl) ⟨by decide, by decide⟩ ?_
  intro v2 g2 hq2
  obtain ⟨rfl, E2, s2⟩ := hq2
  refine X.astore iL_law_15 rfl rfl ?_
  refine X.pushi (v := nI 0) iL_law_16 ?_
  refine X.istore iL_law_17 rfl rfl ?_
  have C2 := C1.low (g := g2) (fun i q => by rw [s2 i q.2, xup_ne _ _ (by omega)])
  exact law_loop (κ1 := 110) (κ2 := 1426) ⟨by decide, by decide⟩ hN 64 0 g2 (by omega) (inv_new C2 E2) (by decide)
