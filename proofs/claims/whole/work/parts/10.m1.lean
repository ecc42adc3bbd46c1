/-! the reference, its small methods. Its object is cell 98, its rows 99 .. 109 -/
abbrev mfs (ty pl : Int32) (fa : Bool) (un ku : Int32) (ik : Bool) : List Value := [.ref 99, .ref 100, .int ty, .int pl, .int (bI fa), .ref 101, .ref 102, .ref 103, .int un, .ref 104, .ref 105, .int ku, .int (bI ik), .ref 106, .ref 107, .ref 108, .ref 109]
def MO (h : XH) (nw : Nat → Int32) : Prop := (∃ (ty pl : Int32) (fa : Bool) (un ku : Int32) (ik : Bool), h 98 = some (.inr (7, mfs ty pl fa un ku ik))) ∧ h 99 = some (IA 43 nw)
theorem MO.up {h : XH} {nw : Nat → Int32} (H : MO h nw) (nw' : Nat → Int32) : MO (xup h 99 (IA 43 nw')) nw' := by
  obtain ⟨⟨ty, pl, fa, un, ku, ik, h1⟩, h2⟩ := H
  exact ⟨⟨ty, pl, fa, un, ku, ik, by rw [xup_ne _ _ (by decide)]; exact h1⟩, xup_eq _ _ _⟩
theorem MO.off {h : XH} {nw : Nat → Int32} (H : MO h nw) {a : Nat} (c : XC) (h1 : a ≠ 98) (h2 : a ≠ 99) : MO (xup h a c) nw := by
  obtain ⟨⟨ty, pl, fa, un, ku, ik, g1⟩, g2⟩ := H
  exact ⟨⟨ty, pl, fa, un, ku, ik, by rw [xup_ne _ _ (Ne.symm h1)]; exact g1⟩, by rw [xup_ne _ _ (Ne.symm h2)]; exact g2⟩
theorem c_X7_in (d : Nat) (h : XH) (x a b : Int64) : MetI mX7_in (d, 0, 0) [.long x, .long a, .long b] h (bI (decide (a ≤ x ∧ x ≤ b))) := by
  refine MetX.of (by decide) rfl (Nat.le_of_ble_eq_true rfl) ?_
  refine X.lload iX7_in_0 rfl ?_
  refine X.lload iX7_in_1 rfl ?_
  refine X.lcmp iX7_in_2 ?_
  refine X.iflt iX7_in_3 (fun c3 => ?_) (fun c3 => ?_)
  · refine X.pushi (v := nI 0) iX7_in_17 ?_
    first
    | (refine X.zret (x := true) iX7_in_18 ⟨?_, rfl⟩; rw [decide_eq_true]; exact ⟨Int64.not_lt.mp (fun q => c3 ((lg_cmp_lt _ _).mpr q)), Int64.not_lt.mp (fun q => c10 ((lg_cmp_gt _ _).mpr q))⟩)
    | (refine X.zret (x := false) iX7_in_18 ⟨?_, rfl⟩; rw [decide_eq_false]; exact fun q => Int64.not_lt.mpr q.1 ((lg_cmp_lt _ _).mp c3))
    | (refine X.zret (x := false) iX7_in_18 ⟨?_, rfl⟩; rw [decide_eq_false]; exact fun q => Int64.not_lt.mpr q.2 ((lg_cmp_gt _ _).mp c10))
  · refine X.lload iX7_in_6 rfl ?_
    refine X.lload iX7_in_7 rfl ?_
    refine X.lcmp iX7_in_9 ?_
    refine X.ifgt iX7_in_10 (fun c10 => ?_) (fun c10 => ?_)
    · refine X.pushi (v := nI 0) iX7_in_17 ?_
      first
      | (refine X.zret (x := true) iX7_in_18 ⟨?_, rfl⟩; rw [decide_eq_true]; exact ⟨Int64.not_lt.mp (fun q => c3 ((lg_cmp_lt _ _).mpr q)), Int64.not_lt.mp (fun q => c10 ((lg_cmp_gt _ _).mpr q))⟩)
      | (refine X.zret (x := false) iX7_in_18 ⟨?_, rfl⟩; rw [decide_eq_false]; exact fun q => Int64.not_lt.mpr q.1 ((lg_cmp_lt _ _).mp c3))
      | (refine X.zret (x := false) iX7_in_18 ⟨?_, rfl⟩; rw [decide_eq_false]; exact fun q => Int64.not_lt.mpr q.2 ((lg_cmp_gt _ _).mp c10))
    · refine X.pushi (v := nI 1) iX7_in_13 ?_
      refine X.goto iX7_in_14 ?_
      first
      | (refine X.zret (x := true) iX7_in_18 ⟨?_, rfl⟩; rw [decide_eq_true]; exact ⟨Int64.not_lt.mp (fun q => c3 ((lg_cmp_lt _ _).mpr q)), Int64.not_lt.mp (fun q => c10 ((lg_cmp_gt _ _).mpr q))⟩)
      | (refine X.zret (x := false) iX7_in_18 ⟨?_, rfl⟩; rw [decide_eq_false]; exact fun q => Int64.not_lt.mpr q.1 ((lg_cmp_lt _ _).mp c3))
      | (refine X.zret (x := false) iX7_in_18 ⟨?_, rfl⟩; rw [decide_eq_false]; exact fun q => Int64.not_lt.mpr q.2 ((lg_cmp_gt _ _).mp c10))
/-- the same, with ints -/
theorem c7_in (d : Nat) (h : XH) (x a b : Int32) {a' b' : Int64} (ea : a' = a.toInt64) (eb : b' = b.toInt64) : MetI mX7_in (d, 0, 0) [.long x.toInt64, .long a', .long b'] h (bI (decide (a ≤ x ∧ x ≤ b))) := by
  have := c_X7_in d h x.toInt64 a' b'
  rw [show decide (a ≤ x ∧ x ≤ b) = decide (a' ≤ x.toInt64 ∧ x.toInt64 ≤ b') from by rw [ea, eb]; simp only [wle]]
  exact this
/-- there is such a tree, ladder -/
def isT (nw : Nat → Int32) (t : Int32) : Bool := decide (nI 0 ≤ t ∧ t ≤ nw 0 - nI 1)
def isL (nw : Nat → Int32) (l : Int32) : Bool := decide (nI 0 ≤ l ∧ l ≤ nw 1 - nI 1)
theorem c_X7_isTree {d : Nat} {h : XH} {nw : Nat → Int32} {t : Int32} (H : MO h nw) : MetI mX7_isTree (d + 1, 0, 0) [.ref 98, .int t] h (bI (isT nw t)) := by
  obtain ⟨⟨ty, pl, fa, un, ku, ik, h98⟩, h99⟩ := H
  refine MetX.of (by decide) rfl (Nat.le_of_ble_eq_true rfl) ?_
  refine X.iload iX7_isTree_0 rfl ?_
  refine X.i2l iX7_isTree_1 ?_
  refine X.pushl iX7_isTree_2 ?_
  refine X.aload iX7_isTree_3 rfl ?_
  refine X.getf iX7_isTree_4 (by repeat (first | assumption | exact xup_eq _ _ _ | rw [xup_ne _ _ (by first | decide | omega | assumption)])) rfl ?_
  refine X.pushi (v := nI 0) iX7_isTree_7 ?_
  refine X.ialdN iX7_isTree_8 (by repeat (first | assumption | exact xup_eq _ _ _ | rw [xup_ne _ _ (by first | decide | omega | assumption)])) (by omega) (by decide) ?_
  refine X.pushi (v := nI 1) iX7_isTree_9 ?_
  refine X.isub iX7_isTree_10 ?_
  refine X.i2l iX7_isTree_11 ?_
  refine X.callSi iX7_isTree_12 (c7_in d h t (nI 0) _ (by decide) rfl) rfl rfl (xfit _ _ _) (Nat.le_of_ble_eq_true rfl) ?_
  exact X.zret iX7_isTree_15 ⟨rfl, rfl⟩
theorem c_X7_isLadder {d : Nat} {h : XH} {nw : Nat → Int32} {l : Int32} (H : MO h nw) : MetI mX7_isLadder (d + 1, 0, 0) [.ref 98, .int l] h (bI (isL nw l)) := by
  obtain ⟨⟨ty, pl, fa, un, ku, ik, h98⟩, h99⟩ := H
  refine MetX.of (by decide) rfl (Nat.le_of_ble_eq_true rfl) ?_
  refine X.iload iX7_isLadder_0 rfl ?_
  refine X.i2l iX7_isLadder_1 ?_
  refine X.pushl iX7_isLadder_2 ?_
  refine X.aload iX7_isLadder_3 rfl ?_
  refine X.getf iX7_isLadder_4 (by repeat (first | assumption | exact xup_eq _ _ _ | rw [xup_ne _ _ (by first | decide | omega | assumption)])) rfl ?_
  refine X.pushi (v := nI 1) iX7_isLadder_7 ?_
  refine X.ialdN iX7_isLadder_8 (by repeat (first | assumption | exact xup_eq _ _ _ | rw [xup_ne _ _ (by first | decide | omega | assumption)])) (by omega) (by decide) ?_
  refine X.pushi (v := nI 1) iX7_isLadder_9 ?_
  refine X.isub iX7_isLadder_10 ?_
  refine X.i2l iX7_isLadder_11 ?_
  refine X.callSi iX7_isLadder_12 (c7_in d h l (nI 0) _ (by decide) rfl) rfl rfl (xfit _ _ _) (Nat.le_of_ble_eq_true rfl) ?_
  exact X.zret iX7_isLadder_15 ⟨rfl, rfl⟩
theorem ixT (t w : Nat) : nI 9 + nI 3 * nI t + nI w = nI (9 + 3 * t + w) := by rw [pk_mul, nI_add, nI_add]
theorem ixL (l w : Nat) : nI 27 + nI 4 * nI l + nI w = nI (27 + 4 * l + w) := by rw [pk_mul, nI_add, nI_add]
theorem c_X7_ofTree {d : Nat} {h : XH} {nw : Nat → Int32} {t w : Nat} (H : MO h nw) (ht : 9 + 3 * t + w < 43) : MetI mX7_ofTree (d, 0, 0) [.ref 98, .int (nI t), .int (nI w)] h (nw (9 + 3 * t + w)) := by
  obtain ⟨⟨ty, pl, fa, un, ku, ik, h98⟩, h99⟩ := H
  refine MetX.of (by decide) rfl (Nat.le_of_ble_eq_true rfl) ?_
  refine X.aload iX7_ofTree_0 rfl ?_
  refine X.getf iX7_ofTree_1 (by repeat (first | assumption | exact xup_eq _ _ _ | rw [xup_ne _ _ (by first | decide | omega | assumption)])) rfl ?_
  refine X.pushi (v := nI 9) iX7_ofTree_4 ?_
  refine X.pushi (v := nI 3) iX7_ofTree_6 ?_
  refine X.iload iX7_ofTree_7 rfl ?_
  refine X.imul iX7_ofTree_8 ?_
  refine X.iadd iX7_ofTree_9 ?_
  refine X.iload iX7_ofTree_10 rfl ?_
  refine X.iadd iX7_ofTree_11 ?_
  refine X.ialdE iX7_ofTree_12 (by repeat (first | assumption | exact xup_eq _ _ _ | rw [xup_ne _ _ (by first | decide | omega | assumption)])) (ixT t w) ht (by decide) ?_
  exact X.iret iX7_ofTree_13 ⟨rfl, rfl⟩
theorem c_X7_ofLadder {d : Nat} {h : XH} {nw : Nat → Int32} {l w : Nat} (H : MO h nw) (hl : 27 + 4 * l + w < 43) : MetI mX7_ofLadder (d, 0, 0) [.ref 98, .int (nI l), .int (nI w)] h (nw (27 + 4 * l + w)) := by
  obtain ⟨⟨ty, pl, fa, un, ku, ik, h98⟩, h99⟩ := H
  refine MetX.of (by decide) rfl (Nat.le_of_ble_eq_true rfl) ?_
  refine X.aload iX7_ofLadder_0 rfl ?_
  refine X.getf iX7_ofLadder_1 (by repeat (first | assumption | exact xup_eq _ _ _ | rw [xup_ne _ _ (by first | decide | omega | assumption)])) rfl ?_
  refine X.pushi (v := nI 27) iX7_ofLadder_4 ?_
  refine X.pushi (v := nI 4) iX7_ofLadder_6 ?_
  refine X.iload iX7_ofLadder_7 rfl ?_
  refine X.imul iX7_ofLadder_8 ?_
  refine X.iadd iX7_ofLadder_9 ?_
  refine X.iload iX7_ofLadder_10 rfl ?_
  refine X.iadd iX7_ofLadder_11 ?_
  refine X.ialdE iX7_ofLadder_12 (by repeat (first | assumption | exact xup_eq _ _ _ | rw [xup_ne _ _ (by first | decide | omega | assumption)])) (ixL l w) hl (by decide) ?_
  exact X.iret iX7_ofLadder_13 ⟨rfl, rfl⟩
theorem c_X7_leansAt {d : Nat} {h : XH} {nw : Nat → Int32} {l : Nat} (H : MO h nw) (hl : l < 4) : MetI mX7_leansAt (d + 1, 0, 0) [.ref 98, .int (nI l)] h (nw (30 + 4 * l)) := by
  have e : 30 + 4 * l = 27 + 4 * l + 3 := by omega
  rw [e]
  obtain ⟨ty, pl, fa, un, ku, ik, h98⟩ := H.1
  refine MetX.of (by decide) rfl (Nat.le_of_ble_eq_true rfl) ?_
  refine X.aload iX7_leansAt_0 rfl ?_
  refine X.iload iX7_leansAt_1 rfl ?_
  refine X.pushi (v := nI 3) iX7_leansAt_2 ?_
  refine X.callVi iX7_leansAt_3 (c_X7_ofLadder (d := d) H (by omega)) (by repeat (first | assumption | exact xup_eq _ _ _ | rw [xup_ne _ _ (by first | decide | omega | assumption)])) rfl rfl (xfit _ _ _) (Nat.le_of_ble_eq_true rfl) ?_
  exact X.iret iX7_leansAt_6 ⟨rfl, rfl⟩
/-- how far -/
def dewyI (l day : Int32) : Int32 := if day - day / nI 3 * nI 3 = 0 ∧ nI 2 < l then nI 2 else l
def reachI (k l day : Int32) : Int32 := if k = nI 0 then l else if k = nI 1 then dewyI l day else if k = nI 2 then nI 2 * l else if k = nI 3 then (if nI 3 < l ∧ nI 3 < dewyI l day then nI 3 else dewyI l day) else (if day - day / nI 7 * nI 7 = 0 then nI 0 else nI 2 * l)
theorem tne {x : Int32} (n : Nat) (hn : n < 2 ^ 31) (h : ¬ x = nI n) : x.toInt ≠ (n : Int) := fun q => h (Int32.toInt_inj.mp (by rw [q, nI_toInt hn]))
theorem c_X7_reaches (d : Nat) (h : XH) (k l day : Int32) : MetI mX7_reaches (d, 0, 0) [.int k, .int l, .int day] h (reachI k l day) := by
  have hj : X xT mX7_reaches (xR (d, 0, 0)) (0, 0) 16 [some (.int k), some (.int l), some (.int day), none] [.int (dewyI l day)] h (fun v h' => v = some (.int (reachI k l day)) ∧ h' = h) := by
    refine X.istore iX7_reaches_16 rfl rfl ?_
    refine X.iload iX7_reaches_17 rfl ?_
    by_cases k0 : k = nI 0
    · refine X.tabIn iX7_reaches_18 0 rfl (by rw [k0]; decide) ?_
      refine X.iload iX7_reaches_48 rfl ?_
      exact X.iret iX7_reaches_49 ⟨(by rw [reachI, if_pos k0]), rfl⟩
    by_cases k1 : k = nI 1
    · refine X.tabIn iX7_reaches_18 1 rfl (by rw [k1]; decide) ?_
      refine X.iload iX7_reaches_50 rfl ?_
      exact X.iret iX7_reaches_51 ⟨(by rw [reachI, if_neg k0, if_pos k1]), rfl⟩
    by_cases k2 : k = nI 2
    · refine X.tabIn iX7_reaches_18 2 rfl (by rw [k2]; decide) ?_
      refine X.pushi (v := nI 2) iX7_reaches_52 ?_
      refine X.iload iX7_reaches_53 rfl ?_
      refine X.imul iX7_reaches_54 ?_
      exact X.iret iX7_reaches_55 ⟨(by rw [reachI, if_neg k0, if_neg k1, if_pos k2]), rfl⟩
    by_cases k3 : k = nI 3
    · refine X.tabIn iX7_reaches_18 3 rfl (by rw [k3]; decide) ?_
      refine X.iload iX7_reaches_56 rfl ?_
      refine X.pushi (v := nI 3) iX7_reaches_57 ?_
      refine X.cmle iX7_reaches_58 (fun c58 => ?_) (fun c58 => ?_)
      · refine X.iload iX7_reaches_70 rfl ?_
        first
        | (refine X.iret iX7_reaches_71 ⟨?_, rfl⟩; rw [reachI, if_neg k0, if_neg k1, if_neg k2, if_pos k3, if_pos (And.intro (Int32.not_le.mp c58) (Int32.not_le.mp c63))])
        | (refine X.iret iX7_reaches_71 ⟨?_, rfl⟩; rw [reachI, if_neg k0, if_neg k1, if_neg k2, if_pos k3, if_neg (fun q => Int32.not_le.mpr q.2 c63)])
        | (refine X.iret iX7_reaches_71 ⟨?_, rfl⟩; rw [reachI, if_neg k0, if_neg k1, if_neg k2, if_pos k3, if_neg (fun q => Int32.not_le.mpr q.1 c58)])
      · refine X.iload iX7_reaches_61 rfl ?_
        refine X.pushi (v := nI 3) iX7_reaches_62 ?_
        refine X.cmle iX7_reaches_63 (fun c63 => ?_) (fun c63 => ?_)
        · refine X.iload iX7_reaches_70 rfl ?_
          first
          | (refine X.iret iX7_reaches_71 ⟨?_, rfl⟩; rw [reachI, if_neg k0, if_neg k1, if_neg k2, if_pos k3, if_pos (And.intro (Int32.not_le.mp c58) (Int32.not_le.mp c63))])
          | (refine X.iret iX7_reaches_71 ⟨?_, rfl⟩; rw [reachI, if_neg k0, if_neg k1, if_neg k2, if_pos k3, if_neg (fun q => Int32.not_le.mpr q.2 c63)])
          | (refine X.iret iX7_reaches_71 ⟨?_, rfl⟩; rw [reachI, if_neg k0, if_neg k1, if_neg k2, if_pos k3, if_neg (fun q => Int32.not_le.mpr q.1 c58)])
        · refine X.pushi (v := nI 3) iX7_reaches_66 ?_
          refine X.goto iX7_reaches_67 ?_
          first
          | (refine X.iret iX7_reaches_71 ⟨?_, rfl⟩; rw [reachI, if_neg k0, if_neg k1, if_neg k2, if_pos k3, if_pos (And.intro (Int32.not_le.mp c58) (Int32.not_le.mp c63))])
          | (refine X.iret iX7_reaches_71 ⟨?_, rfl⟩; rw [reachI, if_neg k0, if_neg k1, if_neg k2, if_pos k3, if_neg (fun q => Int32.not_le.mpr q.2 c63)])
          | (refine X.iret iX7_reaches_71 ⟨?_, rfl⟩; rw [reachI, if_neg k0, if_neg k1, if_neg k2, if_pos k3, if_neg (fun q => Int32.not_le.mpr q.1 c58)])
    have q0 := tne 0 (by decide) k0
    have q1 := tne 1 (by decide) k1
    have q2 := tne 2 (by decide) k2
    have q3 := tne 3 (by decide) k3
    refine X.tabOut iX7_reaches_18 (by show k.toInt < 0 ∨ 0 + 4 ≤ k.toInt; omega) ?_
    refine X.iload iX7_reaches_72 rfl ?_
    refine X.pushi (v := nI 7) iX7_reaches_73 ?_
    refine X.irem iX7_reaches_75 (by decide) ?_
    refine X.ifne iX7_reaches_76 (fun c76 => ?_) (fun c76 => ?_)
    · refine X.pushi (v := nI 2) iX7_reaches_83 ?_
      refine X.iload iX7_reaches_84 rfl ?_
      refine X.imul iX7_reaches_85 ?_
      first
      | (refine X.iret iX7_reaches_86 ⟨?_, rfl⟩; rw [reachI, if_neg k0, if_neg k1, if_neg k2, if_neg k3, if_pos c76])
      | (refine X.iret iX7_reaches_86 ⟨?_, rfl⟩; rw [reachI, if_neg k0, if_neg k1, if_neg k2, if_neg k3, if_neg c76])
    · refine X.pushi (v := nI 0) iX7_reaches_79 ?_
      refine X.goto iX7_reaches_80 ?_
      first
      | (refine X.iret iX7_reaches_86 ⟨?_, rfl⟩; rw [reachI, if_neg k0, if_neg k1, if_neg k2, if_neg k3, if_pos c76])
      | (refine X.iret iX7_reaches_86 ⟨?_, rfl⟩; rw [reachI, if_neg k0, if_neg k1, if_neg k2, if_neg k3, if_neg c76])
  refine MetX.of (by decide) rfl (Nat.le_of_ble_eq_true rfl) ?_
  refine X.iload iX7_reaches_0 rfl ?_
  refine X.pushi (v := nI 3) iX7_reaches_1 ?_
  refine X.irem iX7_reaches_2 (by decide) ?_
  refine X.ifne iX7_reaches_3 (fun c3 => ?_) (fun c3 => ?_)
  · refine X.iload iX7_reaches_15 rfl ?_
    first
    | (rw [dewyI, if_pos (And.intro c3 (Int32.not_le.mp c8))] at hj; exact hj)
    | (rw [dewyI, if_neg (fun q => Int32.not_le.mpr q.2 c8)] at hj; exact hj)
    | (rw [dewyI, if_neg (fun q => c3 q.1)] at hj; exact hj)
  · refine X.iload iX7_reaches_6 rfl ?_
    refine X.pushi (v := nI 2) iX7_reaches_7 ?_
    refine X.cmle iX7_reaches_8 (fun c8 => ?_) (fun c8 => ?_)
    · refine X.iload iX7_reaches_15 rfl ?_
      first
      | (rw [dewyI, if_pos (And.intro c3 (Int32.not_le.mp c8))] at hj; exact hj)
      | (rw [dewyI, if_neg (fun q => Int32.not_le.mpr q.2 c8)] at hj; exact hj)
      | (rw [dewyI, if_neg (fun q => c3 q.1)] at hj; exact hj)
    · refine X.pushi (v := nI 2) iX7_reaches_11 ?_
      refine X.goto iX7_reaches_12 ?_
      first
      | (rw [dewyI, if_pos (And.intro c3 (Int32.not_le.mp c8))] at hj; exact hj)
      | (rw [dewyI, if_neg (fun q => Int32.not_le.mpr q.2 c8)] at hj; exact hj)
      | (rw [dewyI, if_neg (fun q => c3 q.1)] at hj; exact hj)
def rcI (nw : Nat → Int32) (l t : Nat) (day : Int32) : Bool := decide (nw (9 + 3 * t) ≤ reachI (nw (27 + 4 * l)) (nw (28 + 4 * l)) day)
theorem c_X7_isReached {d : Nat} {h : XH} {nw : Nat → Int32} {l t : Nat} {day : Int32} (H : MO h nw) (hl : l < 4) (ht : t < 6) : MetI mX7_isReached (d + 1, 0, 0) [.ref 98, .int (nI l), .int (nI t), .int day] h (bI (rcI nw l t day)) := by
  obtain ⟨ty, pl, fa, un, ku, ik, h98⟩ := H.1
  have e : rcI nw l t day = decide (nw (9 + 3 * t + 0) ≤ reachI (nw (27 + 4 * l + 0)) (nw (27 + 4 * l + 1)) day) := by
    have e2 : 28 + 4 * l = 27 + 4 * l + 1 := by omega
    simp only [rcI, e2, Nat.add_zero]
  rw [e]
  refine MetX.of (by decide) rfl (Nat.le_of_ble_eq_true rfl) ?_
  refine X.aload iX7_isReached_0 rfl ?_
  refine X.iload iX7_isReached_1 rfl ?_
  refine X.pushi (v := nI 0) iX7_isReached_2 ?_
  refine X.callVi iX7_isReached_3 (c_X7_ofLadder (d := d) (w := 0) H (by omega)) (by repeat (first | assumption | exact xup_eq _ _ _ | rw [xup_ne _ _ (by first | decide | omega | assumption)])) rfl rfl (xfit _ _ _) (Nat.le_of_ble_eq_true rfl) ?_
  refine X.aload iX7_isReached_6 rfl ?_
  refine X.iload iX7_isReached_7 rfl ?_
  refine X.pushi (v := nI 1) iX7_isReached_8 ?_
  refine X.callVi iX7_isReached_9 (c_X7_ofLadder (d := d) (w := 1) H (by omega)) (by repeat (first | assumption | exact xup_eq _ _ _ | rw [xup_ne _ _ (by first | decide | omega | assumption)])) rfl rfl (xfit _ _ _) (Nat.le_of_ble_eq_true rfl) ?_
  refine X.iload iX7_isReached_12 rfl ?_
  refine X.callSi iX7_isReached_13 (c_X7_reaches d h _ _ day) rfl rfl (xfit _ _ _) (Nat.le_of_ble_eq_true rfl) ?_
  refine X.aload iX7_isReached_16 rfl ?_
  refine X.iload iX7_isReached_17 rfl ?_
  refine X.pushi (v := nI 0) iX7_isReached_18 ?_
  refine X.callVi iX7_isReached_19 (c_X7_ofTree (d := d) (w := 0) H (by omega)) (by repeat (first | assumption | exact xup_eq _ _ _ | rw [xup_ne _ _ (by first | decide | omega | assumption)])) rfl rfl (xfit _ _ _) (Nat.le_of_ble_eq_true rfl) ?_
  refine X.cmlt iX7_isReached_22 (fun c22 => ?_) (fun c22 => ?_)
  · refine X.pushi (v := nI 0) iX7_isReached_29 ?_
    first
    | (refine X.zret (x := true) iX7_isReached_30 ⟨?_, rfl⟩; rw [decide_eq_true (Int32.not_lt.mp c22)])
    | (refine X.zret (x := false) iX7_isReached_30 ⟨?_, rfl⟩; rw [decide_eq_false (Int32.not_le.mpr c22)])
  · refine X.pushi (v := nI 1) iX7_isReached_25 ?_
    refine X.goto iX7_isReached_26 ?_
    first
    | (refine X.zret (x := true) iX7_isReached_30 ⟨?_, rfl⟩; rw [decide_eq_true (Int32.not_lt.mp c22)])
    | (refine X.zret (x := false) iX7_isReached_30 ⟨?_, rfl⟩; rw [decide_eq_false (Int32.not_le.mpr c22)])
def ripI (nw : Nat → Int32) (t : Nat) : Bool := decide (nw (11 + 3 * t) ≤ nw 2)
theorem c_X7_isRipe {d : Nat} {h : XH} {nw : Nat → Int32} {t : Nat} (H : MO h nw) (ht : t < 6) : MetI mX7_isRipe (d + 1, 0, 0) [.ref 98, .int (nI t)] h (bI (ripI nw t)) := by
  have e : ripI nw t = decide (nw (9 + 3 * t + 2) ≤ nw 2) := by
    have e2 : 11 + 3 * t = 9 + 3 * t + 2 := by omega
    rw [ripI, e2]
  rw [e]
  obtain ⟨⟨ty, pl, fa, un, ku, ik, h98⟩, h99⟩ := id H
  refine MetX.of (by decide) rfl (Nat.le_of_ble_eq_true rfl) ?_
  refine X.aload iX7_isRipe_0 rfl ?_
  refine X.getf iX7_isRipe_1 (by repeat (first | assumption | exact xup_eq _ _ _ | rw [xup_ne _ _ (by first | decide | omega | assumption)])) rfl ?_
  refine X.pushi (v := nI 2) iX7_isRipe_4 ?_
  refine X.ialdN iX7_isRipe_5 (by repeat (first | assumption | exact xup_eq _ _ _ | rw [xup_ne _ _ (by first | decide | omega | assumption)])) (by omega) (by decide) ?_
  refine X.aload iX7_isRipe_6 rfl ?_
  refine X.iload iX7_isRipe_7 rfl ?_
  refine X.pushi (v := nI 2) iX7_isRipe_8 ?_
  refine X.callVi iX7_isRipe_9 (c_X7_ofTree (d := d) (w := 2) H (by omega)) (by repeat (first | assumption | exact xup_eq _ _ _ | rw [xup_ne _ _ (by first | decide | omega | assumption)])) rfl rfl (xfit _ _ _) (Nat.le_of_ble_eq_true rfl) ?_
  refine X.cmlt iX7_isRipe_12 (fun c12 => ?_) (fun c12 => ?_)
  · refine X.pushi (v := nI 0) iX7_isRipe_19 ?_
    first
    | (refine X.zret (x := true) iX7_isRipe_20 ⟨?_, rfl⟩; rw [decide_eq_true (Int32.not_lt.mp c12)])
    | (refine X.zret (x := false) iX7_isRipe_20 ⟨?_, rfl⟩; rw [decide_eq_false (Int32.not_le.mpr c12)])
  · refine X.pushi (v := nI 1) iX7_isRipe_15 ?_
    refine X.goto iX7_isRipe_16 ?_
    first
    | (refine X.zret (x := true) iX7_isRipe_20 ⟨?_, rfl⟩; rw [decide_eq_true (Int32.not_lt.mp c12)])
    | (refine X.zret (x := false) iX7_isRipe_20 ⟨?_, rfl⟩; rw [decide_eq_false (Int32.not_le.mpr c12)])
def minI (a b : Int32) : Int32 := if a < b then a else b
theorem c_X7_less (d : Nat) (h : XH) (a b : Int32) : MetI mX7_less (d, 0, 0) [.int a, .int b] h (minI a b) := by
  refine MetX.of (by decide) rfl (Nat.le_of_ble_eq_true rfl) ?_
  refine X.iload iX7_less_0 rfl ?_
  refine X.iload iX7_less_1 rfl ?_
  refine X.cmge iX7_less_2 (fun c2 => ?_) (fun c2 => ?_)
  · refine X.iload iX7_less_9 rfl ?_
    first
    | (refine X.iret iX7_less_10 ⟨?_, rfl⟩; rw [minI, if_pos (Int32.not_le.mp c2)])
    | (refine X.iret iX7_less_10 ⟨?_, rfl⟩; rw [minI, if_neg (Int32.not_lt.mpr c2)])
  · refine X.iload iX7_less_5 rfl ?_
    refine X.goto iX7_less_6 ?_
    first
    | (refine X.iret iX7_less_10 ⟨?_, rfl⟩; rw [minI, if_pos (Int32.not_le.mp c2)])
    | (refine X.iret iX7_less_10 ⟨?_, rfl⟩; rw [minI, if_neg (Int32.not_lt.mpr c2)])
theorem c_X7_takes {d : Nat} {h : XH} {nw : Nat → Int32} {t : Nat} {n : Int32} (H : MO h nw) (ht : t < 6) : MetV mX7_takes (d, 0, 0) [.ref 98, .int (nI t), .int n] h (xup h 99 (IA 43 (upd nw (9 + 3 * t + 1) (nw (9 + 3 * t + 1) - n)))) := by
  obtain ⟨⟨ty, pl, fa, un, ku, ik, h98⟩, h99⟩ := H
  refine MetX.of (by decide) rfl (Nat.le_of_ble_eq_true rfl) ?_
  refine X.aload iX7_takes_0 rfl ?_
  refine X.getf iX7_takes_1 (by repeat (first | assumption | exact xup_eq _ _ _ | rw [xup_ne _ _ (by first | decide | omega | assumption)])) rfl ?_
  refine X.pushi (v := nI 9) iX7_takes_4 ?_
  refine X.pushi (v := nI 3) iX7_takes_6 ?_
  refine X.iload iX7_takes_7 rfl ?_
  refine X.imul iX7_takes_8 ?_
  refine X.iadd iX7_takes_9 ?_
  refine X.pushi (v := nI 1) iX7_takes_10 ?_
  refine X.iadd iX7_takes_11 ?_
  refine X.dup2 iX7_takes_12 ?_
  refine X.ialdE iX7_takes_13 (by repeat (first | assumption | exact xup_eq _ _ _ | rw [xup_ne _ _ (by first | decide | omega | assumption)])) (ixT t 1) (by omega) (by decide) ?_
  refine X.iload iX7_takes_14 rfl ?_
  refine X.isub iX7_takes_15 ?_
  refine X.iastE iX7_takes_16 (by repeat (first | assumption | exact xup_eq _ _ _ | rw [xup_ne _ _ (by first | decide | omega | assumption)])) (ixT t 1) (by omega) (by decide) ?_
  exact X.vret iX7_takes_17 ⟨rfl, rfl⟩
