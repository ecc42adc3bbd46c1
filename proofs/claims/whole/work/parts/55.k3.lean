/-! the class's own methods: trees and ladders come, rules, letters, the draw -/
abbrev MetC (μ : MI) (d : Nat) (av : List Value) (h : XH) (r : Int32) (O : Oc) (M : Mo) (V : Hi) (KO : Oc) (KM : Mo) (KV : Hi) (kp : Bool) (T : Ta) (S : Nat → Sh) : Prop :=
  MetX μ (d, 0, 0) av h (fun v h' => v = some (.int r) ∧ CI h' O M V KO KM KV kp T S ∧ ∀ i, 98 ≤ i → h' i = h i)
theorem treeOk_3 {a b c : Int32} (h : treeOk a b c = true) : inI a (nI 1) (nI 20) = true ∧ inI b (nI 0) (nI 99) = true ∧ inI c (nI 0) (nI 99) = true := by
  unfold treeOk at h
  exact ⟨(Bool.and_eq_true_iff.mp (Bool.and_eq_true_iff.mp h).1).1, (Bool.and_eq_true_iff.mp (Bool.and_eq_true_iff.mp h).1).2, (Bool.and_eq_true_iff.mp h).2⟩
theorem ladOk_3 {a b c : Int32} (h : ladOk a b c = true) : inI a (nI 0) (nI 4) = true ∧ inI b (nI 1) (nI 9) = true ∧ inI c (nI 0) (nI 9) = true := by
  unfold ladOk at h
  exact ⟨(Bool.and_eq_true_iff.mp (Bool.and_eq_true_iff.mp h).1).1, (Bool.and_eq_true_iff.mp (Bool.and_eq_true_iff.mp h).1).2, (Bool.and_eq_true_iff.mp h).2⟩
theorem c_X6_tree_bad {d : Nat} {h : XH} {a b c : Int32} (hb : treeOk a b c = false) : MetI mX6_tree (d + 1, 0, 0) [.ref 0, .int a, .int b, .int c] h (-1) := by
  unfold treeOk at hb
  refine MetX.of (by decide) rfl (Nat.le_of_ble_eq_true rfl) ?_
  refine X.iload iX6_tree_0 rfl ?_
  refine X.pushi (v := nI 1) iX6_tree_1 ?_
  refine X.pushi (v := nI 20) iX6_tree_2 ?_
  refine X.callSi iX6_tree_4 (c_X6_within d h a (nI 1) (nI 20)) rfl rfl (xfit _ _ _) (Nat.le_of_ble_eq_true rfl) ?_
  refine X.ifeqB iX6_tree_7 (fun c7 => ?_) (fun c7 => ?_)
  · refine X.pushi iX6_tree_30 ?_
    exact X.iret iX6_tree_31 ⟨rfl, rfl⟩
  · refine X.iload iX6_tree_10 rfl ?_
    refine X.pushi (v := nI 0) iX6_tree_11 ?_
    refine X.pushi (v := nI 99) iX6_tree_12 ?_
    refine X.callSi iX6_tree_14 (c_X6_within d h b (nI 0) (nI 99)) rfl rfl (xfit _ _ _) (Nat.le_of_ble_eq_true rfl) ?_
    refine X.ifeqB iX6_tree_17 (fun c17 => ?_) (fun c17 => ?_)
    · refine X.pushi iX6_tree_30 ?_
      exact X.iret iX6_tree_31 ⟨rfl, rfl⟩
    · refine X.iload iX6_tree_20 rfl ?_
      refine X.pushi (v := nI 0) iX6_tree_21 ?_
      refine X.pushi (v := nI 99) iX6_tree_22 ?_
      refine X.callSi iX6_tree_24 (c_X6_within d h c (nI 0) (nI 99)) rfl rfl (xfit _ _ _) (Nat.le_of_ble_eq_true rfl) ?_
      refine X.ifneB iX6_tree_27 (fun c27 => ?_) (fun c27 => ?_)
      · (rw [c7, c17, c27] at hb; cases hb)
      · refine X.pushi iX6_tree_30 ?_
        exact X.iret iX6_tree_31 ⟨rfl, rfl⟩
theorem c_X6_ladder_bad {d : Nat} {h : XH} {a b c : Int32} (hb : ladOk a b c = false) : MetI mX6_ladder (d + 1, 0, 0) [.ref 0, .int a, .int b, .int c] h (-1) := by
  unfold ladOk at hb
  refine MetX.of (by decide) rfl (Nat.le_of_ble_eq_true rfl) ?_
  refine X.iload iX6_ladder_0 rfl ?_
  refine X.pushi (v := nI 0) iX6_ladder_1 ?_
  refine X.pushi (v := nI 4) iX6_ladder_2 ?_
  refine X.callSi iX6_ladder_3 (c_X6_within d h a (nI 0) (nI 4)) rfl rfl (xfit _ _ _) (Nat.le_of_ble_eq_true rfl) ?_
  refine X.ifeqB iX6_ladder_6 (fun c6 => ?_) (fun c6 => ?_)
  · refine X.pushi iX6_ladder_29 ?_
    exact X.iret iX6_ladder_30 ⟨rfl, rfl⟩
  · refine X.iload iX6_ladder_9 rfl ?_
    refine X.pushi (v := nI 1) iX6_ladder_10 ?_
    refine X.pushi (v := nI 9) iX6_ladder_11 ?_
    refine X.callSi iX6_ladder_13 (c_X6_within d h b (nI 1) (nI 9)) rfl rfl (xfit _ _ _) (Nat.le_of_ble_eq_true rfl) ?_
    refine X.ifeqB iX6_ladder_16 (fun c16 => ?_) (fun c16 => ?_)
    · refine X.pushi iX6_ladder_29 ?_
      exact X.iret iX6_ladder_30 ⟨rfl, rfl⟩
    · refine X.iload iX6_ladder_19 rfl ?_
      refine X.pushi (v := nI 0) iX6_ladder_20 ?_
      refine X.pushi (v := nI 9) iX6_ladder_21 ?_
      refine X.callSi iX6_ladder_23 (c_X6_within d h c (nI 0) (nI 9)) rfl rfl (xfit _ _ _) (Nat.le_of_ble_eq_true rfl) ?_
      refine X.ifneB iX6_ladder_26 (fun c26 => ?_) (fun c26 => ?_)
      · (rw [c6, c16, c26] at hb; cases hb)
      · refine X.pushi iX6_ladder_29 ?_
        exact X.iret iX6_ladder_30 ⟨rfl, rfl⟩
