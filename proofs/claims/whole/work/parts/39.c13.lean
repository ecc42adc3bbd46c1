/-! the class: trees of a text -/
theorem ct_body {d s o n k p p1 p2 p3 p4 p5 : Nat} {h : XH} {cl : Nat → Int32} {O : Oc} {M : Mo} {v1 v3 v5 f1 f2 f3 f4 f5 : Int32} {Q : Option Value → XH → Prop} (hn : n ≤ 90) (hp : p ≤ n)
    (a1 : nbW cl n (nI 1) (nI 20) p 0 = v1) (b1 : nbP cl n (nI 1) (nI 20) p 0 = p1) (g1 : nbF cl n (nI 1) (nI 20) p 0 = f1) (l1 : p1 ≤ n)
    (b2 : dmP cl n (nI 58) p1 f1 = p2) (g2 : dmF cl n (nI 58) p1 f1 = f2) (l2 : p2 ≤ n)
    (a3 : nbW cl n (nI 0) (nI 99) p2 f2 = v3) (b3 : nbP cl n (nI 0) (nI 99) p2 f2 = p3) (g3 : nbF cl n (nI 0) (nI 99) p2 f2 = f3) (l3 : p3 ≤ n)
    (b4 : dmP cl n (nI 64) p3 f3 = p4) (g4 : dmF cl n (nI 64) p3 f3 = f4) (l4 : p4 ≤ n)
    (a5 : nbW cl n (nI 0) (nI 99) p4 f4 = v5) (b5 : nbP cl n (nI 0) (nI 99) p4 f4 = p5) (g5 : nbF cl n (nI 0) (nI 99) p4 f4 = f5)
    (K : X xT mX5_readTrees (xR (d + 3, 0, 0)) (0, 0) 53 [some (.ref s), some (.ref o), some (.int (nI 1)), some (.int (nI k)), some (.int v1), some (.int v3), some (.int v5)] [] (tpic h s o (Ta.mk cl n p5 f5) O M) Q) :
    X xT mX5_readTrees (xR (d + 3, 0, 0)) (0, 0) 14 [some (.ref s), some (.ref o), some (.int (nI 1)), some (.int (nI k)), none, none, none] [] (tpic h s o (Ta.mk cl n p 0) O M) Q := by
  refine X.aload iX5_readTrees_14 rfl ?_
  refine X.pushi (v := nI 1) iX5_readTrees_15 ?_
  refine X.pushi (v := nI 20) iX5_readTrees_16 ?_
  refine X.callVi iX5_readTrees_18 (c_X5_number (d := d) hn hp) (by first | assumption | exact sT0 _ _ _ | exact sT1 _ _ _ | rfl) rfl rfl (xfit _ _ _) (Nat.le_of_ble_eq_true rfl) ?_
  rw [a1, b1, g1]
  refine X.istore iX5_readTrees_21 rfl rfl ?_
  refine X.aload iX5_readTrees_23 rfl ?_
  refine X.pushi (v := nI 58) iX5_readTrees_24 ?_
  refine X.callVv iX5_readTrees_26 (c_X5_demand (d := d) hn l1) (by first | assumption | exact sT0 _ _ _ | exact sT1 _ _ _ | rfl) rfl rfl (xfit _ _ _) (Nat.le_of_ble_eq_true rfl) ?_
  rw [b2, g2]
  refine X.aload iX5_readTrees_29 rfl ?_
  refine X.pushi (v := nI 0) iX5_readTrees_30 ?_
  refine X.pushi (v := nI 99) iX5_readTrees_31 ?_
  refine X.callVi iX5_readTrees_33 (c_X5_number (d := d) hn l2) (by first | assumption | exact sT0 _ _ _ | exact sT1 _ _ _ | rfl) rfl rfl (xfit _ _ _) (Nat.le_of_ble_eq_true rfl) ?_
  rw [a3, b3, g3]
  refine X.istore iX5_readTrees_36 rfl rfl ?_
  refine X.aload iX5_readTrees_38 rfl ?_
  refine X.pushi (v := nI 64) iX5_readTrees_39 ?_
  refine X.callVv iX5_readTrees_41 (c_X5_demand (d := d) hn l3) (by first | assumption | exact sT0 _ _ _ | exact sT1 _ _ _ | rfl) rfl rfl (xfit _ _ _) (Nat.le_of_ble_eq_true rfl) ?_
  rw [b4, g4]
  refine X.aload iX5_readTrees_44 rfl ?_
  refine X.pushi (v := nI 0) iX5_readTrees_45 ?_
  refine X.pushi (v := nI 99) iX5_readTrees_46 ?_
  refine X.callVi iX5_readTrees_48 (c_X5_number (d := d) hn l4) (by first | assumption | exact sT0 _ _ _ | exact sT1 _ _ _ | rfl) rfl rfl (xfit _ _ _) (Nat.le_of_ble_eq_true rfl) ?_
  rw [a5, b5, g5]
  refine X.istore iX5_readTrees_51 rfl rfl ?_
  exact K
theorem ct_end {d s o n j p : Nat} {h : XH} {cl : Nat → Int32} {O : Oc} {M : Mo} {f : Int32} (hj : j ≤ 6) : X xT mX5_readTrees (xR (d + 3, 0, 0)) (0, 0) 4 [some (.ref s), some (.ref o), some (.int (nI 0)), some (.int (nI j)), none, none, none] [] (tpic h s o (Ta.mk cl n p f) O M) (fun v h' => v = none ∧ h' = tpic h s o (Ta.mk cl n p f) O M) := by
  refine X.iload iX5_readTrees_4 rfl ?_
  refine X.pushi (v := nI 6) iX5_readTrees_5 ?_
  refine X.cmge iX5_readTrees_7 (fun c7 => ?_) (fun c7 => ?_)
  · exact X.vret iX5_readTrees_107 ⟨rfl, rfl⟩
  · refine X.iload iX5_readTrees_10 rfl ?_
    refine X.ifeq iX5_readTrees_11 (fun c11 => ?_) (fun c11 => ?_)
    · exact X.vret iX5_readTrees_107 ⟨rfl, rfl⟩
    · exact absurd rfl c11
def ctL (cl : Nat → Int32) (n : Nat) : Nat → Nat → Nat → Oc → Mo → Nat × Int32 × Oc × Mo
  | 0, _, p, O, M => (p, 0, O, M)
  | g + 1, k, p, O, M =>
    if (cT5 cl n p).2.2 = 0 then
      (if k + 1 < 6 then
        (if nxt cl n (cT5 cl n p).2.1 = nI 44 then ctL cl n g (k + 1) (psP cl n (cT5 cl n p).2.1 (nI 44)) (plO O (cT1 cl n p).1 (cT5 cl n p).1) (plM O M (cT3 cl n p).1)
        else (psP cl n (cT5 cl n p).2.1 (nI 44), 0, plO O (cT1 cl n p).1 (cT5 cl n p).1, plM O M (cT3 cl n p).1))
      else ((cT5 cl n p).2.1, 0, plO O (cT1 cl n p).1 (cT5 cl n p).1, plM O M (cT3 cl n p).1))
    else ((cT5 cl n p).2.1, (cT5 cl n p).2.2, O, M)
theorem e1a (cl : Nat → Int32) (n p : Nat) : nbW cl n (nI 1) (nI 20) p 0 = (cT1 cl n p).1 := by rw [cT1]
theorem e1b (cl : Nat → Int32) (n p : Nat) : nbP cl n (nI 1) (nI 20) p 0 = (cT1 cl n p).2.1 := by rw [cT1]
theorem e1g (cl : Nat → Int32) (n p : Nat) : nbF cl n (nI 1) (nI 20) p 0 = (cT1 cl n p).2.2 := by rw [cT1]
theorem e2b (cl : Nat → Int32) (n p : Nat) : dmP cl n (nI 58) (cT1 cl n p).2.1 (cT1 cl n p).2.2 = (cT2 cl n p).1 := by rw [cT2]
theorem e2g (cl : Nat → Int32) (n p : Nat) : dmF cl n (nI 58) (cT1 cl n p).2.1 (cT1 cl n p).2.2 = (cT2 cl n p).2 := by rw [cT2]
theorem e3a (cl : Nat → Int32) (n p : Nat) : nbW cl n (nI 0) (nI 99) (cT2 cl n p).1 (cT2 cl n p).2 = (cT3 cl n p).1 := by rw [cT3]
theorem e3b (cl : Nat → Int32) (n p : Nat) : nbP cl n (nI 0) (nI 99) (cT2 cl n p).1 (cT2 cl n p).2 = (cT3 cl n p).2.1 := by rw [cT3]
theorem e3g (cl : Nat → Int32) (n p : Nat) : nbF cl n (nI 0) (nI 99) (cT2 cl n p).1 (cT2 cl n p).2 = (cT3 cl n p).2.2 := by rw [cT3]
theorem e4b (cl : Nat → Int32) (n p : Nat) : dmP cl n (nI 64) (cT3 cl n p).2.1 (cT3 cl n p).2.2 = (cT4 cl n p).1 := by rw [cT4]
theorem e4g (cl : Nat → Int32) (n p : Nat) : dmF cl n (nI 64) (cT3 cl n p).2.1 (cT3 cl n p).2.2 = (cT4 cl n p).2 := by rw [cT4]
theorem e5a (cl : Nat → Int32) (n p : Nat) : nbW cl n (nI 0) (nI 99) (cT4 cl n p).1 (cT4 cl n p).2 = (cT5 cl n p).1 := by rw [cT5]
theorem e5b (cl : Nat → Int32) (n p : Nat) : nbP cl n (nI 0) (nI 99) (cT4 cl n p).1 (cT4 cl n p).2 = (cT5 cl n p).2.1 := by rw [cT5]
theorem e5g (cl : Nat → Int32) (n p : Nat) : nbF cl n (nI 0) (nI 99) (cT4 cl n p).1 (cT4 cl n p).2 = (cT5 cl n p).2.2 := by rw [cT5]
theorem ct_loop {d s o n : Nat} {h : XH} {cl : Nat → Int32} (hn : n ≤ 90) (q : s + 1 < o ∨ o + 8 < s) : ∀ g k p O M, g + k = 6 → 0 < g → p ≤ n → Oc.nT O = k → X xT mX5_readTrees (xR (d + 3, 0, 0)) (0, 0) 4 [some (.ref s), some (.ref o), some (.int (nI 1)), some (.int (nI k)), none, none, none] [] (tpic h s o (Ta.mk cl n p 0) O M) (fun v h' => v = none ∧ h' = tpic h s o (Ta.mk cl n (ctL cl n g k p O M).1 (ctL cl n g k p O M).2.1) (ctL cl n g k p O M).2.2.1 (ctL cl n g k p O M).2.2.2) := by
  intro g
  induction g with
  | zero =>
    intro k p O M hk h0
    omega
  | succ g ih =>
    intro k p O M hk h0 hp ek
    rw [ctL]
    have l5 := cT5_le (cl := cl) hp
    have B := fun Q => ct_body (d := d) (s := s) (o := o) (k := k) (h := h) (O := O) (M := M) (Q := Q) hn hp (e1a cl n p) (e1b cl n p) (e1g cl n p) (cT1_le hp) (e2b cl n p) (e2g cl n p) (cT2_le hp) (e3a cl n p) (e3b cl n p) (e3g cl n p) (cT3_le hp) (e4b cl n p) (e4g cl n p) (cT4_le hp) (e5a cl n p) (e5b cl n p) (e5g cl n p)
    generalize (cT1 cl n p).1 = v1 at B ⊢
    generalize (cT3 cl n p).1 = v3 at B ⊢
    generalize cT5 cl n p = z at B l5 ⊢
    obtain ⟨v5, p5, f5⟩ := z
    have l5 : p5 ≤ n := l5
    have GP : MetH mX3_plant (d + 2, 0, 0) [.ref o, .int v1, .int v3, .int v5] (tpic h s o (Ta.mk cl n p5 0) O M) (nI k) (tpic h s o (Ta.mk cl n p5 0) (plO O v1 v5) (plM O M v3)) := by
      have g0 := g_plant (d := d + 2) (h := h) (V := Ta.mk cl n p5 0) (O := O) (M := M) (hi := v1) (fr := v3) (ri := v5) q (by omega)
      rw [if_neg (show ¬ O.nT = 6 by omega), if_neg (show ¬ O.nT = 6 by omega), ek] at g0
      exact g0
    have zo : tpic h s o (Ta.mk cl n p5 0) O M o = some (.inr (3, ocS o O)) := by
      show setT (setA h o O M) s _ o = _
      rw [sTA _ _ _ _ q]
      exact (sA_O _ o O M).1
    have J1 : ∀ W : Nat × Int32 × Oc × Mo, ¬ f5 = 0 → W = (p5, f5, O, M) → X xT mX5_readTrees (xR (d + 3, 0, 0)) (0, 0) 53 [some (.ref s), some (.ref o), some (.int (nI 1)), some (.int (nI k)), some (.int v1), some (.int v3), some (.int v5)] [] (tpic h s o (Ta.mk cl n p5 f5) O M) (fun v h' => v = none ∧ h' = tpic h s o (Ta.mk cl n W.1 W.2.1) W.2.2.1 W.2.2.2) := by
      intro W e w
      subst w
      refine X.aload iX5_readTrees_53 rfl ?_
      refine X.getf iX5_readTrees_54 (by first | assumption | exact sT0 _ _ _ | exact sT1 _ _ _ | rfl) rfl ?_
      refine X.ifne iX5_readTrees_57 (fun c57 => ?_) (fun c57 => ?_)
      · refine X.aload iX5_readTrees_71 rfl ?_
        refine X.getf iX5_readTrees_72 (by first | assumption | exact sT0 _ _ _ | exact sT1 _ _ _ | rfl) rfl ?_
        refine X.ifne iX5_readTrees_75 (fun c75 => ?_) (fun c75 => ?_)
        · refine X.pushi (v := nI 0) iX5_readTrees_99 ?_
          refine X.istore iX5_readTrees_100 rfl rfl ?_
          refine X.iinc iX5_readTrees_101 rfl rfl rfl ?_
          refine X.goto iX5_readTrees_104 ?_
          rw [nI_1]
          exact X.unset 4 rfl (X.unset 5 rfl (X.unset 6 rfl (ct_end (by omega))))
        · exact absurd c75 e
      · exact absurd c57 e
    have J2 : ∀ W : Nat × Int32 × Oc × Mo, f5 = 0 → ¬ k + 1 < 6 → W = (p5, 0, plO O v1 v5, plM O M v3) → X xT mX5_readTrees (xR (d + 3, 0, 0)) (0, 0) 53 [some (.ref s), some (.ref o), some (.int (nI 1)), some (.int (nI k)), some (.int v1), some (.int v3), some (.int v5)] [] (tpic h s o (Ta.mk cl n p5 f5) O M) (fun v h' => v = none ∧ h' = tpic h s o (Ta.mk cl n W.1 W.2.1) W.2.2.1 W.2.2.2) := by
      intro W e hk6 w
      subst w
      subst e
      refine X.aload iX5_readTrees_53 rfl ?_
      refine X.getf iX5_readTrees_54 (by first | assumption | exact sT0 _ _ _ | exact sT1 _ _ _ | rfl) rfl ?_
      refine X.ifne iX5_readTrees_57 (fun c57 => ?_) (fun c57 => ?_)
      · exact absurd rfl c57
      · refine X.aload iX5_readTrees_60 rfl ?_
        refine X.iload iX5_readTrees_61 rfl ?_
        refine X.iload iX5_readTrees_63 rfl ?_
        refine X.iload iX5_readTrees_65 rfl ?_
        refine X.callVi iX5_readTrees_67 GP zo rfl rfl (xfit _ _ _) (Nat.le_of_ble_eq_true rfl) ?_
        refine X.popi iX5_readTrees_70 ?_
        refine X.aload iX5_readTrees_71 rfl ?_
        refine X.getf iX5_readTrees_72 (by first | assumption | exact sT0 _ _ _ | exact sT1 _ _ _ | rfl) rfl ?_
        refine X.ifne iX5_readTrees_75 (fun c75 => ?_) (fun c75 => ?_)
        · exact absurd rfl c75
        · refine X.iload iX5_readTrees_78 rfl ?_
          refine X.pushi (v := nI 1) iX5_readTrees_79 ?_
          refine X.iadd iX5_readTrees_80 ?_
          refine X.pushi (v := nI 6) iX5_readTrees_81 ?_
          rw [nI_add]
          refine X.cmge iX5_readTrees_83 (fun c83 => ?_) (fun c83 => ?_)
          · refine X.pushi (v := nI 0) iX5_readTrees_99 ?_
            refine X.istore iX5_readTrees_100 rfl rfl ?_
            refine X.iinc iX5_readTrees_101 rfl rfl rfl ?_
            refine X.goto iX5_readTrees_104 ?_
            rw [nI_1]
            exact X.unset 4 rfl (X.unset 5 rfl (X.unset 6 rfl (ct_end (by omega))))
          · exact absurd (nI_le (show 6 ≤ k + 1 by omega) (show k + 1 < 2 ^ 31 by omega)) c83
    have J3 : ∀ W : Nat × Int32 × Oc × Mo, f5 = 0 → k + 1 < 6 → W = (if nxt cl n p5 = nI 44 then ctL cl n g (k + 1) (psP cl n p5 (nI 44)) (plO O v1 v5) (plM O M v3) else (psP cl n p5 (nI 44), 0, plO O v1 v5, plM O M v3)) → X xT mX5_readTrees (xR (d + 3, 0, 0)) (0, 0) 53 [some (.ref s), some (.ref o), some (.int (nI 1)), some (.int (nI k)), some (.int v1), some (.int v3), some (.int v5)] [] (tpic h s o (Ta.mk cl n p5 f5) O M) (fun v h' => v = none ∧ h' = tpic h s o (Ta.mk cl n W.1 W.2.1) W.2.2.1 W.2.2.2) := by
      intro W e hk6 w
      subst e
      have ih := ih (k + 1) (psP cl n p5 (nI 44)) (plO O v1 v5) (plM O M v3) (by omega) (by omega) (psP_le (by decide) l5) (show O.nT + 1 = k + 1 by omega)
      refine X.aload iX5_readTrees_53 rfl ?_
      refine X.getf iX5_readTrees_54 (by first | assumption | exact sT0 _ _ _ | exact sT1 _ _ _ | rfl) rfl ?_
      refine X.ifne iX5_readTrees_57 (fun c57 => ?_) (fun c57 => ?_)
      · exact absurd rfl c57
      · refine X.aload iX5_readTrees_60 rfl ?_
        refine X.iload iX5_readTrees_61 rfl ?_
        refine X.iload iX5_readTrees_63 rfl ?_
        refine X.iload iX5_readTrees_65 rfl ?_
        refine X.callVi iX5_readTrees_67 GP zo rfl rfl (xfit _ _ _) (Nat.le_of_ble_eq_true rfl) ?_
        refine X.popi iX5_readTrees_70 ?_
        refine X.aload iX5_readTrees_71 rfl ?_
        refine X.getf iX5_readTrees_72 (by first | assumption | exact sT0 _ _ _ | exact sT1 _ _ _ | rfl) rfl ?_
        refine X.ifne iX5_readTrees_75 (fun c75 => ?_) (fun c75 => ?_)
        · exact absurd rfl c75
        · refine X.iload iX5_readTrees_78 rfl ?_
          refine X.pushi (v := nI 1) iX5_readTrees_79 ?_
          refine X.iadd iX5_readTrees_80 ?_
          refine X.pushi (v := nI 6) iX5_readTrees_81 ?_
          rw [nI_add]
          refine X.cmge iX5_readTrees_83 (fun c83 => ?_) (fun c83 => ?_)
          · exact absurd c83 (nI_ge hk6 (by decide))
          · refine X.aload iX5_readTrees_86 rfl ?_
            refine X.pushi (v := nI 44) iX5_readTrees_87 ?_
            refine X.callVi iX5_readTrees_89 (c_X5_passes (d := d + 1) (V := Ta.mk cl n p5 0) (c := nI 44) hn l5) (by first | assumption | exact sT0 _ _ _ | exact sT1 _ _ _ | rfl) rfl rfl (xfit _ _ _) (Nat.le_of_ble_eq_true rfl) ?_
            refine X.ifeqB iX5_readTrees_92 (fun c92 => ?_) (fun c92 => ?_)
            · refine X.pushi (v := nI 0) iX5_readTrees_99 ?_
              refine X.istore iX5_readTrees_100 rfl rfl ?_
              refine X.iinc iX5_readTrees_101 rfl rfl rfl ?_
              refine X.goto iX5_readTrees_104 ?_
              rw [nI_1]
              first
              | (rw [if_pos (of_decide_eq_true c92)] at w; subst w; exact X.unset 4 rfl (X.unset 5 rfl (X.unset 6 rfl ih)))
              | (rw [if_neg (of_decide_eq_false c92)] at w; subst w; exact X.unset 4 rfl (X.unset 5 rfl (X.unset 6 rfl (ct_end (by omega)))))
            · refine X.pushi (v := nI 1) iX5_readTrees_95 ?_
              refine X.goto iX5_readTrees_96 ?_
              refine X.istore iX5_readTrees_100 rfl rfl ?_
              refine X.iinc iX5_readTrees_101 rfl rfl rfl ?_
              refine X.goto iX5_readTrees_104 ?_
              rw [nI_1]
              first
              | (rw [if_pos (of_decide_eq_true c92)] at w; subst w; exact X.unset 4 rfl (X.unset 5 rfl (X.unset 6 rfl ih)))
              | (rw [if_neg (of_decide_eq_false c92)] at w; subst w; exact X.unset 4 rfl (X.unset 5 rfl (X.unset 6 rfl (ct_end (by omega)))))
    refine X.iload iX5_readTrees_4 rfl ?_
    refine X.pushi (v := nI 6) iX5_readTrees_5 ?_
    refine X.cmge iX5_readTrees_7 (fun c7 => ?_) (fun c7 => ?_)
    · exact absurd c7 (nI_ge (show k < 6 by omega) (by decide))
    · refine X.iload iX5_readTrees_10 rfl ?_
      refine X.ifeq iX5_readTrees_11 (fun c11 => ?_) (fun c11 => ?_)
      · exact absurd c11 (by decide)
      · refine B _ ?_
        by_cases e : f5 = 0
        · by_cases e6 : k + 1 < 6
          · exact J3 _ e e6 (by rw [if_pos e, if_pos e6])
          · exact J2 _ e e6 (by rw [if_pos e, if_neg e6])
        · exact J1 _ e (by rw [if_neg e])
theorem c_X5_readTrees {d s o n : Nat} {h : XH} {cl : Nat → Int32} {O : Oc} {M : Mo} (hn : n ≤ 90) (q : s + 1 < o ∨ o + 8 < s) (e0 : O.nT = 0) : MetV mX5_readTrees (d + 3, 0, 0) [.ref s, .ref o] (tpic h s o (Ta.mk cl n 0 0) O M) (tpic h s o (Ta.mk cl n (ctL cl n 6 0 0 O M).1 (ctL cl n 6 0 0 O M).2.1) (ctL cl n 6 0 0 O M).2.2.1 (ctL cl n 6 0 0 O M).2.2.2) := by
  refine MetX.of (by decide) rfl (Nat.le_of_ble_eq_true rfl) ?_
  refine X.pushi (v := nI 1) iX5_readTrees_0 ?_
  refine X.istore iX5_readTrees_1 rfl rfl ?_
  refine X.pushi (v := nI 0) iX5_readTrees_2 ?_
  refine X.istore iX5_readTrees_3 rfl rfl ?_
  exact ct_loop hn q 6 0 0 O M rfl (by decide) (Nat.zero_le _) e0
