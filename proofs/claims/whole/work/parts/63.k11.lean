/-! the class's own methods: sheets -/
theorem c_X6_isSheet (d : Nat) (h : XH) (s : Int32) : MetI mX6_isSheet (d + 1, 0, 0) [.int s] h (bI (inI s (nI 0) (nI 3))) := by
  refine MetX.of (by decide) rfl (Nat.le_of_ble_eq_true rfl) ?_
  refine X.iload iX6_isSheet_0 rfl ?_
  refine X.pushi (v := nI 0) iX6_isSheet_1 ?_
  refine X.pushi (v := nI 3) iX6_isSheet_2 ?_
  refine X.callSi iX6_isSheet_3 (c_X6_within d h s (nI 0) (nI 3)) rfl rfl (xfit _ _ _) (Nat.le_of_ble_eq_true rfl) ?_
  exact X.zret iX6_isSheet_6 ⟨rfl, rfl⟩
theorem c_X6_isLane (d : Nat) (h : XH) (s : Int32) : MetI mX6_isLane (d + 1, 0, 0) [.int s] h (bI (inI s (nI 0) (nI 3))) := by
  refine MetX.of (by decide) rfl (Nat.le_of_ble_eq_true rfl) ?_
  refine X.iload iX6_isLane_0 rfl ?_
  refine X.pushi (v := nI 0) iX6_isLane_1 ?_
  refine X.pushi (v := nI 3) iX6_isLane_2 ?_
  refine X.callSi iX6_isLane_3 (c_X6_within d h s (nI 0) (nI 3)) rfl rfl (xfit _ _ _) (Nat.le_of_ble_eq_true rfl) ?_
  exact X.zret iX6_isLane_6 ⟨rfl, rfl⟩
theorem CI.afs {h : XH} {O : Oc} {M : Mo} {V : Hi} {KO : Oc} {KM : Mo} {KV : Hi} {kp : Bool} {T : Ta} {S : Nat → Sh} (H : CI h O M V KO KM KV kp T S) {s : Nat} (hs : s < 4) (Z : Sh) : CI (setS h (90 + 2 * s) Z) O M V KO KM KV kp T (upS S s Z) := H.she hs (sS_is _ _ _) (fun i q => sSo _ _ (by omega))
theorem ss_at {ss : Nat → Option Nat} (hss : ∀ i, i < 4 → ss i = some (90 + 2 * i)) {s : Nat} (hs : s < 4) : ss (nI s).toNatClampNeg = some (90 + 2 * s) := by
  rw [nI_clamp (by omega)]
  exact hss s hs
theorem c_X6_sheet_bad {d : Nat} {h : XH} {s l n : Int32} (hb : shOk s l n = false) : MetI mX6_sheet (d + 2, 0, 0) [.ref 0, .int s, .int l, .int n] h (-1) := by
  unfold shOk at hb
  refine MetX.of (by decide) rfl (Nat.le_of_ble_eq_true rfl) ?_
  refine X.iload iX6_sheet_0 rfl ?_
  refine X.callSi iX6_sheet_1 (c_X6_isSheet d h s) rfl rfl (xfit _ _ _) (Nat.le_of_ble_eq_true rfl) ?_
  refine X.ifeqB iX6_sheet_4 (fun c4 => ?_) (fun c4 => ?_)
  · refine X.pushi iX6_sheet_20 ?_
    exact X.iret iX6_sheet_21 ⟨rfl, rfl⟩
  · refine X.iload iX6_sheet_7 rfl ?_
    refine X.callSi iX6_sheet_8 (c_X6_isLane d h l) rfl rfl (xfit _ _ _) (Nat.le_of_ble_eq_true rfl) ?_
    refine X.ifeqB iX6_sheet_11 (fun c11 => ?_) (fun c11 => ?_)
    · refine X.pushi iX6_sheet_20 ?_
      exact X.iret iX6_sheet_21 ⟨rfl, rfl⟩
    · refine X.iload iX6_sheet_14 rfl ?_
      refine X.pushi (v := nI 24) iX6_sheet_15 ?_
      refine X.cmle iX6_sheet_17 (fun c17 => ?_) (fun c17 => ?_)
      · (rw [c4, c11, decide_eq_true c17] at hb; exact absurd hb (by decide))
      · refine X.pushi iX6_sheet_20 ?_
        exact X.iret iX6_sheet_21 ⟨rfl, rfl⟩
theorem shOk_3 {s l n : Int32} (h : shOk s l n = true) : inI s (nI 0) (nI 3) = true ∧ inI l (nI 0) (nI 3) = true ∧ n ≤ nI 24 := by
  unfold shOk at h
  exact ⟨(Bool.and_eq_true_iff.mp (Bool.and_eq_true_iff.mp h).1).1, (Bool.and_eq_true_iff.mp (Bool.and_eq_true_iff.mp h).1).2, of_decide_eq_true (Bool.and_eq_true_iff.mp h).2⟩
theorem c_X6_sheet_size {d : Nat} {h : XH} {s l n : Int32} (hb : shOk s l n = true) (hn : ¬ 0 ≤ n) : MetI mX6_sheet (d + 2, 0, 0) [.ref 0, .int s, .int l, .int n] h (-14) := by
  obtain ⟨b1, b2, b3⟩ := shOk_3 hb
  refine MetX.of (by decide) rfl (Nat.le_of_ble_eq_true rfl) ?_
  refine X.iload iX6_sheet_0 rfl ?_
  refine X.callSi iX6_sheet_1 (c_X6_isSheet d h s) rfl rfl (xfit _ _ _) (Nat.le_of_ble_eq_true rfl) ?_
  refine X.ifeqB iX6_sheet_4 (fun c4 => ?_) (fun c4 => ?_)
  · exact absurd (c4.symm.trans b1) (by decide)
  · refine X.iload iX6_sheet_7 rfl ?_
    refine X.callSi iX6_sheet_8 (c_X6_isLane d h l) rfl rfl (xfit _ _ _) (Nat.le_of_ble_eq_true rfl) ?_
    refine X.ifeqB iX6_sheet_11 (fun c11 => ?_) (fun c11 => ?_)
    · exact absurd (c11.symm.trans b2) (by decide)
    · refine X.iload iX6_sheet_14 rfl ?_
      refine X.pushi (v := nI 24) iX6_sheet_15 ?_
      refine X.cmle iX6_sheet_17 (fun c17 => ?_) (fun c17 => ?_)
      · refine X.iload iX6_sheet_22 rfl ?_
        refine X.ifge iX6_sheet_23 (fun c23 => ?_) (fun c23 => ?_)
        · exact absurd c23 hn
        · refine X.pushi iX6_sheet_26 ?_
          exact X.iret iX6_sheet_28 ⟨rfl, rfl⟩
      · exact absurd b3 c17
theorem c_X6_sheet {d s : Nat} {l n : Int32} {h : XH} {O : Oc} {M : Mo} {V : Hi} {KO : Oc} {KM : Mo} {KV : Hi} {kp : Bool} {T : Ta} {S : Nat → Sh} (H : CI h O M V KO KM KV kp T S) (hs : s < 4) (hb : shOk (nI s) l n = true) (hn : 0 ≤ n) : MetC mX6_sheet (d + 2) [.ref 0, .int (nI s), .int l, .int n] h n O M V KO KM KV kp T (upS S s (Sh.mk (cp (fun _ => 0) (S s).it 24) l n)) := by
  obtain ⟨b1, b2, b3⟩ := shOk_3 hb
  obtain ⟨ss, hA, hss⟩ := H.cA
  have BG := c_X4_begin (d := d + 1) (s := 90 + 2 * s) (h := h) (V := S s) (l := l) (n := n)
  rw [IsS.set (H.cS s hs)] at BG
  refine MetX.of (by decide) rfl (Nat.le_of_ble_eq_true rfl) ?_
  refine X.iload iX6_sheet_0 rfl ?_
  refine X.callSi iX6_sheet_1 (c_X6_isSheet d h (nI s)) rfl rfl (xfit _ _ _) (Nat.le_of_ble_eq_true rfl) ?_
  refine X.ifeqB iX6_sheet_4 (fun c4 => ?_) (fun c4 => ?_)
  · exact absurd (c4.symm.trans b1) (by decide)
  · refine X.iload iX6_sheet_7 rfl ?_
    refine X.callSi iX6_sheet_8 (c_X6_isLane d h l) rfl rfl (xfit _ _ _) (Nat.le_of_ble_eq_true rfl) ?_
    refine X.ifeqB iX6_sheet_11 (fun c11 => ?_) (fun c11 => ?_)
    · exact absurd (c11.symm.trans b2) (by decide)
    · refine X.iload iX6_sheet_14 rfl ?_
      refine X.pushi (v := nI 24) iX6_sheet_15 ?_
      refine X.cmle iX6_sheet_17 (fun c17 => ?_) (fun c17 => ?_)
      · refine X.iload iX6_sheet_22 rfl ?_
        refine X.ifge iX6_sheet_23 (fun c23 => ?_) (fun c23 => ?_)
        · refine X.aload iX6_sheet_29 rfl ?_
          refine X.getf iX6_sheet_30 (by first | exact H.c0 | exact H.cO.1 | exact H.cM.1 | exact H.cM.2.1 | exact hA | exact H1.c0 | exact H1.cO.1 | exact H1.cM.1 | assumption) rfl ?_
          refine X.iload iX6_sheet_33 rfl ?_
          refine X.aald (q := 90 + 2 * s) iX6_sheet_34 (Or.inr rfl) hA (vp_inN hs (by decide)) (ss_at hss hs) ?_
          refine X.iload iX6_sheet_35 rfl ?_
          refine X.iload iX6_sheet_36 rfl ?_
          refine X.callVv iX6_sheet_37 BG (H.cS s hs).1 rfl rfl (xfit _ _ _) (Nat.le_of_ble_eq_true rfl) ?_
          refine X.iload iX6_sheet_40 rfl ?_
          exact X.iret iX6_sheet_41 ⟨rfl, H.afs hs _, fun i hi => sSo _ _ (by omega)⟩
        · exact absurd hn c23
      · exact absurd b3 c17
theorem c_X6_drop_bad {d : Nat} {h : XH} {s : Int32} (hb : inI s (nI 0) (nI 3) = false) : MetI mX6_drop (d + 2, 0, 0) [.ref 0, .int s] h (-1) := by
  refine MetX.of (by decide) rfl (Nat.le_of_ble_eq_true rfl) ?_
  refine X.iload iX6_drop_0 rfl ?_
  refine X.callSi iX6_drop_1 (c_X6_isSheet d h s) rfl rfl (xfit _ _ _) (Nat.le_of_ble_eq_true rfl) ?_
  refine X.ifneB iX6_drop_4 (fun c4 => ?_) (fun c4 => ?_)
  · exact absurd (c4.symm.trans hb) (by decide)
  · refine X.pushi iX6_drop_7 ?_
    exact X.iret iX6_drop_8 ⟨rfl, rfl⟩
theorem c_X6_drop_null {d s : Nat} {h : XH} {O : Oc} {M : Mo} {V : Hi} {KO : Oc} {KM : Mo} {KV : Hi} {kp : Bool} {T : Ta} {S : Nat → Sh} (H : CI h O M V KO KM KV kp T S) (hs : s < 4) (e : (S s).la = -1) : MetI mX6_drop (d + 2, 0, 0) [.ref 0, .int (nI s)] h (-11) := by
  obtain ⟨ss, hA, hss⟩ := H.cA
  refine MetX.of (by decide) rfl (Nat.le_of_ble_eq_true rfl) ?_
  refine X.iload iX6_drop_0 rfl ?_
  refine X.callSi iX6_drop_1 (c_X6_isSheet d h (nI s)) rfl rfl (xfit _ _ _) (Nat.le_of_ble_eq_true rfl) ?_
  refine X.ifneB iX6_drop_4 (fun c4 => ?_) (fun c4 => ?_)
  · refine X.aload iX6_drop_9 rfl ?_
    refine X.getf iX6_drop_10 (by first | exact H.c0 | exact H.cO.1 | exact H.cM.1 | exact H.cM.2.1 | exact hA | exact H1.c0 | exact H1.cO.1 | exact H1.cM.1 | assumption) rfl ?_
    refine X.iload iX6_drop_13 rfl ?_
    refine X.aald (q := 90 + 2 * s) iX6_drop_14 (Or.inr rfl) hA (vp_inN hs (by decide)) (ss_at hss hs) ?_
    refine X.getf iX6_drop_15 (H.cS s hs).1 rfl ?_
    refine X.pushi iX6_drop_18 ?_
    refine X.cmne iX6_drop_19 (fun c19 => ?_) (fun c19 => ?_)
    · exact absurd e c19
    · refine X.pushi iX6_drop_22 ?_
      exact X.iret iX6_drop_24 ⟨rfl, rfl⟩
  · exact absurd (c4.symm.trans (inI_of (Nat.zero_le _) (show s ≤ 3 by omega) (by decide))) (by decide)
theorem c_X6_drop {d s : Nat} {h : XH} {O : Oc} {M : Mo} {V : Hi} {KO : Oc} {KM : Mo} {KV : Hi} {kp : Bool} {T : Ta} {S : Nat → Sh} (H : CI h O M V KO KM KV kp T S) (hs : s < 4) (e : ¬ (S s).la = -1) : MetC mX6_drop (d + 2) [.ref 0, .int (nI s)] h (S s).sz O M V KO KM KV kp T (upS S s (Sh.mk (S s).it (-1) (S s).sz)) := by
  obtain ⟨ss, hA, hss⟩ := H.cA
  have H1 := H.afs hs (Sh.mk (S s).it (-1) (S s).sz)
  have hA1 : setS h (90 + 2 * s) (Sh.mk (S s).it (-1) (S s).sz) 89 = some (.inl (.object RX4, 4, .inr (.inr (.inr (.inr ss))))) := by rw [sSo _ _ (by omega)]; exact hA
  refine MetX.of (by decide) rfl (Nat.le_of_ble_eq_true rfl) ?_
  refine X.iload iX6_drop_0 rfl ?_
  refine X.callSi iX6_drop_1 (c_X6_isSheet d h (nI s)) rfl rfl (xfit _ _ _) (Nat.le_of_ble_eq_true rfl) ?_
  refine X.ifneB iX6_drop_4 (fun c4 => ?_) (fun c4 => ?_)
  · refine X.aload iX6_drop_9 rfl ?_
    refine X.getf iX6_drop_10 (by first | exact H.c0 | exact H.cO.1 | exact H.cM.1 | exact H.cM.2.1 | exact hA | exact H1.c0 | exact H1.cO.1 | exact H1.cM.1 | assumption) rfl ?_
    refine X.iload iX6_drop_13 rfl ?_
    refine X.aald (q := 90 + 2 * s) iX6_drop_14 (Or.inr rfl) hA (vp_inN hs (by decide)) (ss_at hss hs) ?_
    refine X.getf iX6_drop_15 (H.cS s hs).1 rfl ?_
    refine X.pushi iX6_drop_18 ?_
    refine X.cmne iX6_drop_19 (fun c19 => ?_) (fun c19 => ?_)
    · refine X.aload iX6_drop_25 rfl ?_
      refine X.getf iX6_drop_26 (by first | exact H.c0 | exact H.cO.1 | exact H.cM.1 | exact H.cM.2.1 | exact hA | exact H1.c0 | exact H1.cO.1 | exact H1.cM.1 | assumption) rfl ?_
      refine X.iload iX6_drop_29 rfl ?_
      refine X.aald (q := 90 + 2 * s) iX6_drop_30 (Or.inr rfl) hA (vp_inN hs (by decide)) (ss_at hss hs) ?_
      refine X.pushi iX6_drop_31 ?_
      refine X.puti iX6_drop_32 (H.cS s hs).1 (Nat.le_of_ble_eq_true rfl) ?_
      refine X.heap (h' := setS h (90 + 2 * s) (Sh.mk (S s).it (-1) (S s).sz)) (by rw [← sS_la, IsS.set (H.cS s hs)]) ?_
      refine X.aload iX6_drop_35 rfl ?_
      refine X.getf iX6_drop_36 H1.c0 rfl ?_
      refine X.iload iX6_drop_39 rfl ?_
      refine X.aald (q := 90 + 2 * s) iX6_drop_40 (Or.inr rfl) hA1 (vp_inN hs (by decide)) (ss_at hss hs) ?_
      refine X.getf iX6_drop_41 (sS0 _ _ _) rfl ?_
      exact X.iret iX6_drop_44 ⟨rfl, H1, fun i hi => sSo _ _ (by omega)⟩
    · exact absurd c19 e
  · exact absurd (c4.symm.trans (inI_of (Nat.zero_le _) (show s ≤ 3 by omega) (by decide))) (by decide)
theorem c_X6_item_bad {d : Nat} {h : XH} {s l i : Int32} {v : Int64} (hb : inI s (nI 0) (nI 3) = false ∨ inI l (nI 0) (nI 3) = false) : MetI mX6_item (d + 2, 0, 0) [.ref 0, .int s, .int l, .int i, .long v] h (-1) := by
  refine MetX.of (by decide) rfl (Nat.le_of_ble_eq_true rfl) ?_
  refine X.iload iX6_item_0 rfl ?_
  refine X.callSi iX6_item_1 (c_X6_isSheet d h s) rfl rfl (xfit _ _ _) (Nat.le_of_ble_eq_true rfl) ?_
  refine X.ifeqB iX6_item_4 (fun c4 => ?_) (fun c4 => ?_)
  · refine X.pushi iX6_item_14 ?_
    exact X.iret iX6_item_15 ⟨rfl, rfl⟩
  · refine X.iload iX6_item_7 rfl ?_
    refine X.callSi iX6_item_8 (c_X6_isLane d h l) rfl rfl (xfit _ _ _) (Nat.le_of_ble_eq_true rfl) ?_
    refine X.ifneB iX6_item_11 (fun c11 => ?_) (fun c11 => ?_)
    · exact absurd hb (fun z => z.elim (fun y => Bool.noConfusion (c4.symm.trans y)) (fun y => Bool.noConfusion (c11.symm.trans y)))
    · refine X.pushi iX6_item_14 ?_
      exact X.iret iX6_item_15 ⟨rfl, rfl⟩
theorem c_X6_item_no {d s : Nat} {l i : Int32} {v : Int64} {h : XH} {O : Oc} {M : Mo} {V : Hi} {KO : Oc} {KM : Mo} {KV : Hi} {kp : Bool} {T : Ta} {S : Nat → Sh} (H : CI h O M V KO KM KV kp T S) (hs : s < 4) (hl : inI l (nI 0) (nI 3) = true) (e : ¬ fndI (S s) l i (nI 1) = 0) : MetI mX6_item (d + 2, 0, 0) [.ref 0, .int (nI s), .int l, .int i, .long v] h (fndI (S s) l i (nI 1)) := by
  obtain ⟨ss, hA, hss⟩ := H.cA
  refine MetX.of (by decide) rfl (Nat.le_of_ble_eq_true rfl) ?_
  refine X.iload iX6_item_0 rfl ?_
  refine X.callSi iX6_item_1 (c_X6_isSheet d h (nI s)) rfl rfl (xfit _ _ _) (Nat.le_of_ble_eq_true rfl) ?_
  refine X.ifeqB iX6_item_4 (fun c4 => ?_) (fun c4 => ?_)
  · exact absurd (c4.symm.trans (inI_of (Nat.zero_le _) (show s ≤ 3 by omega) (by decide))) (by decide)
  · refine X.iload iX6_item_7 rfl ?_
    refine X.callSi iX6_item_8 (c_X6_isLane d h l) rfl rfl (xfit _ _ _) (Nat.le_of_ble_eq_true rfl) ?_
    refine X.ifneB iX6_item_11 (fun c11 => ?_) (fun c11 => ?_)
    · refine X.aload iX6_item_16 rfl ?_
      refine X.getf iX6_item_17 (by first | exact H.c0 | exact H.cO.1 | exact H.cM.1 | exact H.cM.2.1 | exact hA | exact H1.c0 | exact H1.cO.1 | exact H1.cM.1 | assumption) rfl ?_
      refine X.iload iX6_item_20 rfl ?_
      refine X.aald (q := 90 + 2 * s) iX6_item_21 (Or.inr rfl) hA (vp_inN hs (by decide)) (ss_at hss hs) ?_
      refine X.iload iX6_item_22 rfl ?_
      refine X.iload iX6_item_23 rfl ?_
      refine X.pushi (v := nI 1) iX6_item_24 ?_
      refine X.callVi iX6_item_25 (c_X4_find (d := d) (H.cS s hs)) (H.cS s hs).1 rfl rfl (xfit _ _ _) (Nat.le_of_ble_eq_true rfl) ?_
      refine X.istore iX6_item_28 rfl rfl ?_
      refine X.iload iX6_item_30 rfl ?_
      refine X.ifeq iX6_item_32 (fun c32 => ?_) (fun c32 => ?_)
      · exact absurd c32 e
      · refine X.iload iX6_item_35 rfl ?_
        exact X.iret iX6_item_37 ⟨rfl, rfl⟩
    · exact absurd (c11.symm.trans hl) (by decide)
theorem c_X6_item {d s i l : Nat} {v : Int64} {h : XH} {O : Oc} {M : Mo} {V : Hi} {KO : Oc} {KM : Mo} {KV : Hi} {kp : Bool} {T : Ta} {S : Nat → Sh} (H : CI h O M V KO KM KV kp T S) (hs : s < 4) (hl : l < 4) (hi : i < 24) (el : (S s).la = nI l) (e : fndI (S s) (nI l) (nI i) (nI 1) = 0) : MetC mX6_item (d + 2) [.ref 0, .int (nI s), .int (nI l), .int (nI i), .long v] h (nI 1) O M V KO KM KV kp T (upS S s (Sh.mk (vp_updL (S s).it i (itmV (S s).la v)) (S s).la (S s).sz)) := by
  obtain ⟨ss, hA, hss⟩ := H.cA
  have PU := c_X4_put (d := d + 1) (s := 90 + 2 * s) (i := i) (h := h) (V := S s) (v := v) el hl hi
  rw [IsS.set (H.cS s hs)] at PU
  refine MetX.of (by decide) rfl (Nat.le_of_ble_eq_true rfl) ?_
  refine X.iload iX6_item_0 rfl ?_
  refine X.callSi iX6_item_1 (c_X6_isSheet d h (nI s)) rfl rfl (xfit _ _ _) (Nat.le_of_ble_eq_true rfl) ?_
  refine X.ifeqB iX6_item_4 (fun c4 => ?_) (fun c4 => ?_)
  · exact absurd (c4.symm.trans (inI_of (Nat.zero_le _) (show s ≤ 3 by omega) (by decide))) (by decide)
  · refine X.iload iX6_item_7 rfl ?_
    refine X.callSi iX6_item_8 (c_X6_isLane d h (nI l)) rfl rfl (xfit _ _ _) (Nat.le_of_ble_eq_true rfl) ?_
    refine X.ifneB iX6_item_11 (fun c11 => ?_) (fun c11 => ?_)
    · refine X.aload iX6_item_16 rfl ?_
      refine X.getf iX6_item_17 (by first | exact H.c0 | exact H.cO.1 | exact H.cM.1 | exact H.cM.2.1 | exact hA | exact H1.c0 | exact H1.cO.1 | exact H1.cM.1 | assumption) rfl ?_
      refine X.iload iX6_item_20 rfl ?_
      refine X.aald (q := 90 + 2 * s) iX6_item_21 (Or.inr rfl) hA (vp_inN hs (by decide)) (ss_at hss hs) ?_
      refine X.iload iX6_item_22 rfl ?_
      refine X.iload iX6_item_23 rfl ?_
      refine X.pushi (v := nI 1) iX6_item_24 ?_
      refine X.callVi iX6_item_25 (c_X4_find (d := d) (H.cS s hs)) (H.cS s hs).1 rfl rfl (xfit _ _ _) (Nat.le_of_ble_eq_true rfl) ?_
      refine X.istore iX6_item_28 rfl rfl ?_
      refine X.iload iX6_item_30 rfl ?_
      refine X.ifeq iX6_item_32 (fun c32 => ?_) (fun c32 => ?_)
      · refine X.aload iX6_item_38 rfl ?_
        refine X.getf iX6_item_39 (by first | exact H.c0 | exact H.cO.1 | exact H.cM.1 | exact H.cM.2.1 | exact hA | exact H1.c0 | exact H1.cO.1 | exact H1.cM.1 | assumption) rfl ?_
        refine X.iload iX6_item_42 rfl ?_
        refine X.aald (q := 90 + 2 * s) iX6_item_43 (Or.inr rfl) hA (vp_inN hs (by decide)) (ss_at hss hs) ?_
        refine X.iload iX6_item_44 rfl ?_
        refine X.lload iX6_item_45 rfl ?_
        refine X.callVv iX6_item_47 PU (H.cS s hs).1 rfl rfl (xfit _ _ _) (Nat.le_of_ble_eq_true rfl) ?_
        refine X.pushi (v := nI 1) iX6_item_50 ?_
        exact X.iret iX6_item_51 ⟨rfl, H.afs hs _, fun i hi => sSo _ _ (by omega)⟩
      · exact absurd e c32
    · exact absurd (c11.symm.trans (inI_of (Nat.zero_le _) (show l ≤ 3 by omega) (by decide))) (by decide)
theorem c_X6_copy_bad {d : Nat} {h : XH} {f i t j n : Int32} (hb : inI f (nI 0) (nI 3) = false ∨ inI t (nI 0) (nI 3) = false) : MetI mX6_copy (d + 2, 0, 0) [.ref 0, .int f, .int i, .int t, .int j, .int n] h (-1) := by
  refine MetX.of (by decide) rfl (Nat.le_of_ble_eq_true rfl) ?_
  refine X.iload iX6_copy_0 rfl ?_
  refine X.callSi iX6_copy_1 (c_X6_isSheet d h f) rfl rfl (xfit _ _ _) (Nat.le_of_ble_eq_true rfl) ?_
  refine X.ifeqB iX6_copy_4 (fun c4 => ?_) (fun c4 => ?_)
  · refine X.pushi iX6_copy_14 ?_
    exact X.iret iX6_copy_15 ⟨rfl, rfl⟩
  · refine X.iload iX6_copy_7 rfl ?_
    refine X.callSi iX6_copy_8 (c_X6_isSheet d h t) rfl rfl (xfit _ _ _) (Nat.le_of_ble_eq_true rfl) ?_
    refine X.ifneB iX6_copy_11 (fun c11 => ?_) (fun c11 => ?_)
    · exact absurd hb (fun z => z.elim (fun y => Bool.noConfusion (c4.symm.trans y)) (fun y => Bool.noConfusion (c11.symm.trans y)))
    · refine X.pushi iX6_copy_14 ?_
      exact X.iret iX6_copy_15 ⟨rfl, rfl⟩
/-- what refuses a copy -/
def cpyC (A B : Sh) (i j n : Int32) : Int32 := if A.la = -1 ∨ B.la = -1 then -11 else if A.la = B.la then (if hldI A.sz i n = true ∧ hldI B.sz j n = true then 0 else -13) else -12
theorem copy_to {d f t : Nat} {i j n : Int32} {Q : Option Value → XH → Prop} {h : XH} {O : Oc} {M : Mo} {V : Hi} {KO : Oc} {KM : Mo} {KV : Hi} {kp : Bool} {T : Ta} {S : Nat → Sh} (H : CI h O M V KO KM KV kp T S) (hf : f < 4) (ht : t < 4) (K : X xT mX6_copy (xR (d + 2, 0, 0)) (0, 0) 32 [some (.ref 0), some (.int (nI f)), some (.int i), some (.int (nI t)), some (.int j), some (.int n), some (.ref (90 + 2 * f)), some (.ref (90 + 2 * t))] [] h Q) : X xT mX6_copy (xR (d + 2, 0, 0)) (0, 0) 0 [some (.ref 0), some (.int (nI f)), some (.int i), some (.int (nI t)), some (.int j), some (.int n), none, none] [] h Q := by
  obtain ⟨ss, hA, hss⟩ := H.cA
  refine X.iload iX6_copy_0 rfl ?_
  refine X.callSi iX6_copy_1 (c_X6_isSheet d h (nI f)) rfl rfl (xfit _ _ _) (Nat.le_of_ble_eq_true rfl) ?_
  refine X.ifeqB iX6_copy_4 (fun c4 => ?_) (fun c4 => ?_)
  · exact absurd (c4.symm.trans (inI_of (Nat.zero_le _) (show f ≤ 3 by omega) (by decide))) (by decide)
  · refine X.iload iX6_copy_7 rfl ?_
    refine X.callSi iX6_copy_8 (c_X6_isSheet d h (nI t)) rfl rfl (xfit _ _ _) (Nat.le_of_ble_eq_true rfl) ?_
    refine X.ifneB iX6_copy_11 (fun c11 => ?_) (fun c11 => ?_)
    · refine X.aload iX6_copy_16 rfl ?_
      refine X.getf iX6_copy_17 (by first | exact H.c0 | exact H.cO.1 | exact H.cM.1 | exact H.cM.2.1 | exact hA | exact H1.c0 | exact H1.cO.1 | exact H1.cM.1 | assumption) rfl ?_
      refine X.iload iX6_copy_20 rfl ?_
      refine X.aald (q := 90 + 2 * f) iX6_copy_21 (Or.inr rfl) hA (vp_inN hf (by decide)) (ss_at hss hf) ?_
      refine X.astore iX6_copy_22 rfl rfl ?_
      refine X.aload iX6_copy_24 rfl ?_
      refine X.getf iX6_copy_25 (by first | exact H.c0 | exact H.cO.1 | exact H.cM.1 | exact H.cM.2.1 | exact hA | exact H1.c0 | exact H1.cO.1 | exact H1.cM.1 | assumption) rfl ?_
      refine X.iload iX6_copy_28 rfl ?_
      refine X.aald (q := 90 + 2 * t) iX6_copy_29 (Or.inr rfl) hA (vp_inN ht (by decide)) (ss_at hss ht) ?_
      refine X.astore iX6_copy_30 rfl rfl ?_
      exact K
    · exact absurd (c11.symm.trans (inI_of (Nat.zero_le _) (show t ≤ 3 by omega) (by decide))) (by decide)
theorem c_X6_copy_no {d f t : Nat} {i j n : Int32} {h : XH} {O : Oc} {M : Mo} {V : Hi} {KO : Oc} {KM : Mo} {KV : Hi} {kp : Bool} {T : Ta} {S : Nat → Sh} (H : CI h O M V KO KM KV kp T S) (hf : f < 4) (ht : t < 4) (e : ¬ cpyC (S f) (S t) i j n = 0) : MetI mX6_copy (d + 2, 0, 0) [.ref 0, .int (nI f), .int i, .int (nI t), .int j, .int n] h (cpyC (S f) (S t) i j n) := by
  refine MetX.of (by decide) rfl (Nat.le_of_ble_eq_true rfl) ?_
  refine copy_to H hf ht ?_
  unfold cpyC at e ⊢
  refine X.aload iX6_copy_32 rfl ?_
  refine X.getf iX6_copy_34 (H.cS f hf).1 rfl ?_
  refine X.pushi iX6_copy_37 ?_
  refine X.cmeq iX6_copy_38 (fun c38 => ?_) (fun c38 => ?_)
  · refine X.pushi iX6_copy_50 ?_
    first
    | (refine X.iret iX6_copy_52 ⟨?_, rfl⟩; rw [if_pos (Or.inl c38)])
    | (refine X.iret iX6_copy_52 ⟨?_, rfl⟩; rw [if_pos (Or.inr c47)])
  · refine X.aload iX6_copy_41 rfl ?_
    refine X.getf iX6_copy_43 (H.cS t ht).1 rfl ?_
    refine X.pushi iX6_copy_46 ?_
    refine X.cmne iX6_copy_47 (fun c47 => ?_) (fun c47 => ?_)
    · refine X.aload iX6_copy_53 rfl ?_
      refine X.getf iX6_copy_55 (H.cS f hf).1 rfl ?_
      refine X.aload iX6_copy_58 rfl ?_
      refine X.getf iX6_copy_60 (H.cS t ht).1 rfl ?_
      refine X.cmeq iX6_copy_63 (fun c63 => ?_) (fun c63 => ?_)
      · refine X.aload iX6_copy_69 rfl ?_
        refine X.iload iX6_copy_71 rfl ?_
        refine X.iload iX6_copy_72 rfl ?_
        refine X.callVi iX6_copy_74 (c_X4_holds (d := d + 1) (H.cS f hf)) (H.cS f hf).1 rfl rfl (xfit _ _ _) (Nat.le_of_ble_eq_true rfl) ?_
        refine X.ifeqB iX6_copy_77 (fun c77 => ?_) (fun c77 => ?_)
        · refine X.pushi iX6_copy_92 ?_
          first
          | (refine X.iret iX6_copy_94 ⟨?_, rfl⟩; rw [if_neg (fun z => z.elim c38 c47), if_pos c63, if_neg (fun z => Bool.noConfusion (c77.symm.trans z.1))])
          | (refine X.iret iX6_copy_94 ⟨?_, rfl⟩; rw [if_neg (fun z => z.elim c38 c47), if_pos c63, if_neg (fun z => Bool.noConfusion (c89.symm.trans z.2))])
        · refine X.aload iX6_copy_80 rfl ?_
          refine X.iload iX6_copy_82 rfl ?_
          refine X.iload iX6_copy_84 rfl ?_
          refine X.callVi iX6_copy_86 (c_X4_holds (d := d + 1) (H.cS t ht)) (H.cS t ht).1 rfl rfl (xfit _ _ _) (Nat.le_of_ble_eq_true rfl) ?_
          refine X.ifneB iX6_copy_89 (fun c89 => ?_) (fun c89 => ?_)
          · exact absurd (by rw [if_neg (fun z => z.elim c38 c47), if_pos c63, if_pos (And.intro c77 c89)]) e
          · refine X.pushi iX6_copy_92 ?_
            first
            | (refine X.iret iX6_copy_94 ⟨?_, rfl⟩; rw [if_neg (fun z => z.elim c38 c47), if_pos c63, if_neg (fun z => Bool.noConfusion (c77.symm.trans z.1))])
            | (refine X.iret iX6_copy_94 ⟨?_, rfl⟩; rw [if_neg (fun z => z.elim c38 c47), if_pos c63, if_neg (fun z => Bool.noConfusion (c89.symm.trans z.2))])
      · refine X.pushi iX6_copy_66 ?_
        (refine X.iret iX6_copy_68 ⟨?_, rfl⟩; rw [if_neg (fun z => z.elim c38 c47), if_neg c63])
    · refine X.pushi iX6_copy_50 ?_
      first
      | (refine X.iret iX6_copy_52 ⟨?_, rfl⟩; rw [if_pos (Or.inl c38)])
      | (refine X.iret iX6_copy_52 ⟨?_, rfl⟩; rw [if_pos (Or.inr c47)])
theorem cpyC_0 {A B : Sh} {i j n : Int32} (e : cpyC A B i j n = 0) : ¬ A.la = -1 ∧ ¬ B.la = -1 ∧ A.la = B.la ∧ hldI A.sz i n = true ∧ hldI B.sz j n = true := by
  unfold cpyC at e
  by_cases c1 : A.la = -1 ∨ B.la = -1
  · rw [if_pos c1] at e
    exact absurd e (by decide)
  rw [if_neg c1] at e
  by_cases c2 : A.la = B.la
  · rw [if_pos c2] at e
    by_cases c3 : hldI A.sz i n = true ∧ hldI B.sz j n = true
    · exact ⟨fun z => c1 (Or.inl z), fun z => c1 (Or.inr z), c2, c3.1, c3.2⟩
    · rw [if_neg c3] at e
      exact absurd e (by decide)
  · rw [if_neg c2] at e
    exact absurd e (by decide)
theorem c_X6_copy {d f t i j n : Nat} {h : XH} {O : Oc} {M : Mo} {V : Hi} {KO : Oc} {KM : Mo} {KV : Hi} {kp : Bool} {T : Ta} {S : Nat → Sh} (H : CI h O M V KO KM KV kp T S) (hf : f < 4) (ht : t < 4) (hi : i + n ≤ 24) (hj : j + n ≤ 24) (e : cpyC (S f) (S t) (nI i) (nI j) (nI n) = 0) : MetC mX6_copy (d + 2) [.ref 0, .int (nI f), .int (nI i), .int (nI t), .int (nI j), .int (nI n)] h (nI n) O M V KO KM KV kp T (upS S t (Sh.mk (va_cpy (S f).it (S t).it i j n) (S t).la (S t).sz)) := by
  obtain ⟨e1, e2, e3, e4, e5⟩ := cpyC_0 e
  refine MetX.of (by decide) rfl (Nat.le_of_ble_eq_true rfl) ?_
  refine copy_to H hf ht ?_
  refine X.aload iX6_copy_32 rfl ?_
  refine X.getf iX6_copy_34 (H.cS f hf).1 rfl ?_
  refine X.pushi iX6_copy_37 ?_
  refine X.cmeq iX6_copy_38 (fun c38 => ?_) (fun c38 => ?_)
  · exact absurd c38 e1
  · refine X.aload iX6_copy_41 rfl ?_
    refine X.getf iX6_copy_43 (H.cS t ht).1 rfl ?_
    refine X.pushi iX6_copy_46 ?_
    refine X.cmne iX6_copy_47 (fun c47 => ?_) (fun c47 => ?_)
    · refine X.aload iX6_copy_53 rfl ?_
      refine X.getf iX6_copy_55 (H.cS f hf).1 rfl ?_
      refine X.aload iX6_copy_58 rfl ?_
      refine X.getf iX6_copy_60 (H.cS t ht).1 rfl ?_
      refine X.cmeq iX6_copy_63 (fun c63 => ?_) (fun c63 => ?_)
      · refine X.aload iX6_copy_69 rfl ?_
        refine X.iload iX6_copy_71 rfl ?_
        refine X.iload iX6_copy_72 rfl ?_
        refine X.callVi iX6_copy_74 (c_X4_holds (d := d + 1) (H.cS f hf)) (H.cS f hf).1 rfl rfl (xfit _ _ _) (Nat.le_of_ble_eq_true rfl) ?_
        refine X.ifeqB iX6_copy_77 (fun c77 => ?_) (fun c77 => ?_)
        · exact absurd (c77.symm.trans e4) (by decide)
        · refine X.aload iX6_copy_80 rfl ?_
          refine X.iload iX6_copy_82 rfl ?_
          refine X.iload iX6_copy_84 rfl ?_
          refine X.callVi iX6_copy_86 (c_X4_holds (d := d + 1) (H.cS t ht)) (H.cS t ht).1 rfl rfl (xfit _ _ _) (Nat.le_of_ble_eq_true rfl) ?_
          refine X.ifneB iX6_copy_89 (fun c89 => ?_) (fun c89 => ?_)
          · refine X.aload iX6_copy_95 rfl ?_
            refine X.getf iX6_copy_97 (H.cS f hf).1 rfl ?_
            refine X.iload iX6_copy_100 rfl ?_
            refine X.aload iX6_copy_101 rfl ?_
            refine X.getf iX6_copy_103 (H.cS t ht).1 rfl ?_
            refine X.iload iX6_copy_106 rfl ?_
            refine X.iload iX6_copy_108 rfl ?_
            refine X.copyl iX6_copy_110 (H.cS f hf).2 (H.cS t ht).2 (xfit0 _ _ _) (Nat.le_of_ble_eq_true rfl) (nI_pos (by omega)) (nI_pos (by omega)) (nI_pos (by omega)) (by rw [nI_clamp (by omega), nI_clamp (by omega)]; exact hi) (by rw [nI_clamp (by omega), nI_clamp (by omega)]; exact hj) ?_
            refine X.heap (h' := setS h (90 + 2 * t) (Sh.mk (va_cpy (S f).it (S t).it i j n) (S t).la (S t).sz)) (by rw [nI_clamp (by omega), nI_clamp (by omega), nI_clamp (by omega), ← sS_it, IsS.set (H.cS t ht)]) ?_
            refine X.iload iX6_copy_113 rfl ?_
            exact X.iret iX6_copy_115 ⟨rfl, H.afs ht _, fun i hi => sSo _ _ (by omega)⟩
          · exact absurd (c89.symm.trans e5) (by decide)
      · exact absurd e3 c63
    · exact absurd c47 e2
