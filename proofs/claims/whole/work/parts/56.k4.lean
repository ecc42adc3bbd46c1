/-! the class's own methods: trees and ladders come, rules, letters, the draw -/
def fgH (V : Hi) : Hi := (Hi.mk V.ps V.Ms 0)
theorem CI.aft {h : XH} {O : Oc} {M : Mo} {V : Hi} {KO : Oc} {KM : Mo} {KV : Hi} {kp : Bool} {T : Ta} {S : Nat → Sh} (H : CI h O M V KO KM KV kp T S) (O2 : Oc) (M2 : Mo) : CI (setA h 1 O2 M2) O2 M2 V KO KM KV kp T S := H.orc (sA_O _ _ _ _) (sA_M _ _ _ _) (fun i q => sAo _ _ _ (by omega))
theorem CI.afm {h : XH} {O : Oc} {M : Mo} {V : Hi} {KO : Oc} {KM : Mo} {KV : Hi} {kp : Bool} {T : Ta} {S : Nat → Sh} (H : CI h O M V KO KM KV kp T S) (M2 : Mo) : CI (setM h 7 M2) O M2 V KO KM KV kp T S := H.now (sM_is _ _ _) (fun i q => sMo _ _ (by omega))
theorem CI.afh {h : XH} {O : Oc} {M : Mo} {V : Hi} {KO : Oc} {KM : Mo} {KV : Hi} {kp : Bool} {T : Ta} {S : Nat → Sh} (H : CI h O M V KO KM KV kp T S) {V2 : Hi} (P : PS 10 V2.ps) : CI (setH h 10 V2) O M V2 KO KM KV kp T S := H.his (sH_is P) P (fun i q => sHo P (by omega))
theorem CI.af_T {h : XH} {O : Oc} {M : Mo} {V : Hi} {KO : Oc} {KM : Mo} {KV : Hi} {kp : Bool} {T : Ta} {S : Nat → Sh} (H : CI h O M V KO KM KV kp T S) (T2 : Ta) : CI (setT h 71 T2) O M V KO KM KV kp T2 S := H.tap (sT_is _ _ _) (fun i q => sTo _ _ (by omega))
theorem n3 {n : Nat} (hn : n < 2 ^ 31) : ¬ nI n = -3 := fun q => by
  have := congrArg Int32.toInt q
  rw [nI_toInt hn] at this
  exact absurd this (by show ¬ (n : Int) = -3; omega)
theorem c_X6_tree_full {d : Nat} {a b c : Int32} {h : XH} {O : Oc} {M : Mo} {V : Hi} {KO : Oc} {KM : Mo} {KV : Hi} {kp : Bool} {T : Ta} {S : Nat → Sh} (H : CI h O M V KO KM KV kp T S) (hT : O.nT = 6) (hb : treeOk a b c = true) : MetI mX6_tree (d + 1, 0, 0) [.ref 0, .int a, .int b, .int c] h (-3) := by
  obtain ⟨b1, b2, b3⟩ := treeOk_3 hb
  have PL := c_X3_plant (d := d) (h := h) (o := 1) (O := O) (M := M) (hi := a) (fr := b) (ri := c) (by omega)
  rw [if_pos hT, if_pos hT, H.A] at PL
  have FG := c_X1_forgetUnlessFull (d := d) (h := h) (x := -3) H.p1
  rw [if_pos rfl, IsH.set H.p1 H.cV] at FG
  refine MetX.of (by decide) rfl (Nat.le_of_ble_eq_true rfl) ?_
  refine X.iload iX6_tree_0 rfl ?_
  refine X.pushi (v := nI 1) iX6_tree_1 ?_
  refine X.pushi (v := nI 20) iX6_tree_2 ?_
  refine X.callSi iX6_tree_4 (c_X6_within d h a (nI 1) (nI 20)) rfl rfl (xfit _ _ _) (Nat.le_of_ble_eq_true rfl) ?_
  refine X.ifeqB iX6_tree_7 (fun c7 => ?_) (fun c7 => ?_)
  · exact absurd (c7.symm.trans b1) (by decide)
  · refine X.iload iX6_tree_10 rfl ?_
    refine X.pushi (v := nI 0) iX6_tree_11 ?_
    refine X.pushi (v := nI 99) iX6_tree_12 ?_
    refine X.callSi iX6_tree_14 (c_X6_within d h b (nI 0) (nI 99)) rfl rfl (xfit _ _ _) (Nat.le_of_ble_eq_true rfl) ?_
    refine X.ifeqB iX6_tree_17 (fun c17 => ?_) (fun c17 => ?_)
    · exact absurd (c17.symm.trans b2) (by decide)
    · refine X.iload iX6_tree_20 rfl ?_
      refine X.pushi (v := nI 0) iX6_tree_21 ?_
      refine X.pushi (v := nI 99) iX6_tree_22 ?_
      refine X.callSi iX6_tree_24 (c_X6_within d h c (nI 0) (nI 99)) rfl rfl (xfit _ _ _) (Nat.le_of_ble_eq_true rfl) ?_
      refine X.ifneB iX6_tree_27 (fun c27 => ?_) (fun c27 => ?_)
      · refine X.aload iX6_tree_32 rfl ?_
        refine X.getf iX6_tree_33 (by first | exact H.c0 | exact H.cO.1 | exact H.cO.2.1 | exact H.cO.2.2.1 | exact H.cO.2.2.2.1 | exact H.cO.2.2.2.2.1 | exact H.cO.2.2.2.2.2 | exact H.cM.1 | exact H.cM.2.1 | exact H.cM.2.2 | exact H.cV.1 | exact H.cT.1 | exact H.cT.2 | exact H1.c0 | exact H1.cO.1 | exact H1.cM.1 | exact H1.cV.1 | exact H1.cM.2.2 | exact H1.cT.1 | assumption) rfl ?_
        refine X.iload iX6_tree_36 rfl ?_
        refine X.iload iX6_tree_37 rfl ?_
        refine X.iload iX6_tree_38 rfl ?_
        refine X.callVi iX6_tree_39 (PL) (by first | exact H.c0 | exact H.cO.1 | exact H.cO.2.1 | exact H.cO.2.2.1 | exact H.cO.2.2.2.1 | exact H.cO.2.2.2.2.1 | exact H.cO.2.2.2.2.2 | exact H.cM.1 | exact H.cM.2.1 | exact H.cM.2.2 | exact H.cV.1 | exact H.cT.1 | exact H.cT.2 | exact H1.c0 | exact H1.cO.1 | exact H1.cM.1 | exact H1.cV.1 | exact H1.cM.2.2 | exact H1.cT.1 | assumption) rfl rfl (xfit _ _ _) (Nat.le_of_ble_eq_true rfl) ?_
        refine X.istore iX6_tree_42 rfl rfl ?_
        refine X.aload iX6_tree_44 rfl ?_
        refine X.getf iX6_tree_45 (by first | exact H.c0 | exact H.cO.1 | exact H.cO.2.1 | exact H.cO.2.2.1 | exact H.cO.2.2.2.1 | exact H.cO.2.2.2.2.1 | exact H.cO.2.2.2.2.2 | exact H.cM.1 | exact H.cM.2.1 | exact H.cM.2.2 | exact H.cV.1 | exact H.cT.1 | exact H.cT.2 | exact H1.c0 | exact H1.cO.1 | exact H1.cM.1 | exact H1.cV.1 | exact H1.cM.2.2 | exact H1.cT.1 | assumption) rfl ?_
        refine X.iload iX6_tree_48 rfl ?_
        refine X.callVv iX6_tree_50 (FG) (by first | exact H.c0 | exact H.cO.1 | exact H.cO.2.1 | exact H.cO.2.2.1 | exact H.cO.2.2.2.1 | exact H.cO.2.2.2.2.1 | exact H.cO.2.2.2.2.2 | exact H.cM.1 | exact H.cM.2.1 | exact H.cM.2.2 | exact H.cV.1 | exact H.cT.1 | exact H.cT.2 | exact H1.c0 | exact H1.cO.1 | exact H1.cM.1 | exact H1.cV.1 | exact H1.cM.2.2 | exact H1.cT.1 | assumption) rfl rfl (xfit _ _ _) (Nat.le_of_ble_eq_true rfl) ?_
        refine X.iload iX6_tree_53 rfl ?_
        exact X.iret iX6_tree_55 ⟨rfl, rfl⟩
      · exact absurd (c27.symm.trans b3) (by decide)
theorem c_X6_tree {d : Nat} {a b c : Int32} {h : XH} {O : Oc} {M : Mo} {V : Hi} {KO : Oc} {KM : Mo} {KV : Hi} {kp : Bool} {T : Ta} {S : Nat → Sh} (H : CI h O M V KO KM KV kp T S) (hT : O.nT < 6) (hb : treeOk a b c = true) : MetC mX6_tree (d + 1) [.ref 0, .int a, .int b, .int c] h (nI O.nT) (plO O a c) (plM O M b) (fgH V) KO KM KV kp T S := by
  obtain ⟨b1, b2, b3⟩ := treeOk_3 hb
  have PL := c_X3_plant (d := d) (h := h) (o := 1) (O := O) (M := M) (hi := a) (fr := b) (ri := c) (by omega)
  rw [if_neg (by omega), if_neg (by omega), H.A] at PL
  have H1 := H.aft (plO O a c) (plM O M b)
  have FG := c_X1_forgetUnlessFull (d := d) (h := setA h 1 (plO O a c) (plM O M b)) (x := nI O.nT) H.p1
  rw [if_neg (n3 (by omega)), IsH.set H.p1 H1.cV] at FG
  refine MetX.of (by decide) rfl (Nat.le_of_ble_eq_true rfl) ?_
  refine X.iload iX6_tree_0 rfl ?_
  refine X.pushi (v := nI 1) iX6_tree_1 ?_
  refine X.pushi (v := nI 20) iX6_tree_2 ?_
  refine X.callSi iX6_tree_4 (c_X6_within d h a (nI 1) (nI 20)) rfl rfl (xfit _ _ _) (Nat.le_of_ble_eq_true rfl) ?_
  refine X.ifeqB iX6_tree_7 (fun c7 => ?_) (fun c7 => ?_)
  · exact absurd (c7.symm.trans b1) (by decide)
  · refine X.iload iX6_tree_10 rfl ?_
    refine X.pushi (v := nI 0) iX6_tree_11 ?_
    refine X.pushi (v := nI 99) iX6_tree_12 ?_
    refine X.callSi iX6_tree_14 (c_X6_within d h b (nI 0) (nI 99)) rfl rfl (xfit _ _ _) (Nat.le_of_ble_eq_true rfl) ?_
    refine X.ifeqB iX6_tree_17 (fun c17 => ?_) (fun c17 => ?_)
    · exact absurd (c17.symm.trans b2) (by decide)
    · refine X.iload iX6_tree_20 rfl ?_
      refine X.pushi (v := nI 0) iX6_tree_21 ?_
      refine X.pushi (v := nI 99) iX6_tree_22 ?_
      refine X.callSi iX6_tree_24 (c_X6_within d h c (nI 0) (nI 99)) rfl rfl (xfit _ _ _) (Nat.le_of_ble_eq_true rfl) ?_
      refine X.ifneB iX6_tree_27 (fun c27 => ?_) (fun c27 => ?_)
      · refine X.aload iX6_tree_32 rfl ?_
        refine X.getf iX6_tree_33 (by first | exact H.c0 | exact H.cO.1 | exact H.cO.2.1 | exact H.cO.2.2.1 | exact H.cO.2.2.2.1 | exact H.cO.2.2.2.2.1 | exact H.cO.2.2.2.2.2 | exact H.cM.1 | exact H.cM.2.1 | exact H.cM.2.2 | exact H.cV.1 | exact H.cT.1 | exact H.cT.2 | exact H1.c0 | exact H1.cO.1 | exact H1.cM.1 | exact H1.cV.1 | exact H1.cM.2.2 | exact H1.cT.1 | assumption) rfl ?_
        refine X.iload iX6_tree_36 rfl ?_
        refine X.iload iX6_tree_37 rfl ?_
        refine X.iload iX6_tree_38 rfl ?_
        refine X.callVi iX6_tree_39 (PL) (by first | exact H.c0 | exact H.cO.1 | exact H.cO.2.1 | exact H.cO.2.2.1 | exact H.cO.2.2.2.1 | exact H.cO.2.2.2.2.1 | exact H.cO.2.2.2.2.2 | exact H.cM.1 | exact H.cM.2.1 | exact H.cM.2.2 | exact H.cV.1 | exact H.cT.1 | exact H.cT.2 | exact H1.c0 | exact H1.cO.1 | exact H1.cM.1 | exact H1.cV.1 | exact H1.cM.2.2 | exact H1.cT.1 | assumption) rfl rfl (xfit _ _ _) (Nat.le_of_ble_eq_true rfl) ?_
        refine X.istore iX6_tree_42 rfl rfl ?_
        refine X.aload iX6_tree_44 rfl ?_
        refine X.getf iX6_tree_45 (by first | exact H.c0 | exact H.cO.1 | exact H.cO.2.1 | exact H.cO.2.2.1 | exact H.cO.2.2.2.1 | exact H.cO.2.2.2.2.1 | exact H.cO.2.2.2.2.2 | exact H.cM.1 | exact H.cM.2.1 | exact H.cM.2.2 | exact H.cV.1 | exact H.cT.1 | exact H.cT.2 | exact H1.c0 | exact H1.cO.1 | exact H1.cM.1 | exact H1.cV.1 | exact H1.cM.2.2 | exact H1.cT.1 | assumption) rfl ?_
        refine X.iload iX6_tree_48 rfl ?_
        refine X.callVv iX6_tree_50 (FG) (by first | exact H.c0 | exact H.cO.1 | exact H.cO.2.1 | exact H.cO.2.2.1 | exact H.cO.2.2.2.1 | exact H.cO.2.2.2.2.1 | exact H.cO.2.2.2.2.2 | exact H.cM.1 | exact H.cM.2.1 | exact H.cM.2.2 | exact H.cV.1 | exact H.cT.1 | exact H.cT.2 | exact H1.c0 | exact H1.cO.1 | exact H1.cM.1 | exact H1.cV.1 | exact H1.cM.2.2 | exact H1.cT.1 | assumption) rfl rfl (xfit _ _ _) (Nat.le_of_ble_eq_true rfl) ?_
        refine X.iload iX6_tree_53 rfl ?_
        exact X.iret iX6_tree_55 ⟨rfl, H1.afh (V2 := fgH V) H.p1, fun i hi => (sHo (V := fgH V) H.p1 (by omega)).trans (sAo _ _ _ (by omega))⟩
      · exact absurd (c27.symm.trans b3) (by decide)
theorem c_X6_ladder_full {d : Nat} {a b c : Int32} {h : XH} {O : Oc} {M : Mo} {V : Hi} {KO : Oc} {KM : Mo} {KV : Hi} {kp : Bool} {T : Ta} {S : Nat → Sh} (H : CI h O M V KO KM KV kp T S) (hL : O.nL = 4) (hb : ladOk a b c = true) : MetI mX6_ladder (d + 1, 0, 0) [.ref 0, .int a, .int b, .int c] h (-3) := by
  obtain ⟨b1, b2, b3⟩ := ladOk_3 hb
  have PL := c_X3_bring (d := d) (h := h) (o := 1) (O := O) (M := M) (ki := a) (le := b) (pr := c) (by omega)
  rw [if_pos hL, if_pos hL, H.A] at PL
  have FG := c_X1_forgetUnlessFull (d := d) (h := h) (x := -3) H.p1
  rw [if_pos rfl, IsH.set H.p1 H.cV] at FG
  refine MetX.of (by decide) rfl (Nat.le_of_ble_eq_true rfl) ?_
  refine X.iload iX6_ladder_0 rfl ?_
  refine X.pushi (v := nI 0) iX6_ladder_1 ?_
  refine X.pushi (v := nI 4) iX6_ladder_2 ?_
  refine X.callSi iX6_ladder_3 (c_X6_within d h a (nI 0) (nI 4)) rfl rfl (xfit _ _ _) (Nat.le_of_ble_eq_true rfl) ?_
  refine X.ifeqB iX6_ladder_6 (fun c6 => ?_) (fun c6 => ?_)
  · exact absurd (c6.symm.trans b1) (by decide)
  · refine X.iload iX6_ladder_9 rfl ?_
    refine X.pushi (v := nI 1) iX6_ladder_10 ?_
    refine X.pushi (v := nI 9) iX6_ladder_11 ?_
    refine X.callSi iX6_ladder_13 (c_X6_within d h b (nI 1) (nI 9)) rfl rfl (xfit _ _ _) (Nat.le_of_ble_eq_true rfl) ?_
    refine X.ifeqB iX6_ladder_16 (fun c16 => ?_) (fun c16 => ?_)
    · exact absurd (c16.symm.trans b2) (by decide)
    · refine X.iload iX6_ladder_19 rfl ?_
      refine X.pushi (v := nI 0) iX6_ladder_20 ?_
      refine X.pushi (v := nI 9) iX6_ladder_21 ?_
      refine X.callSi iX6_ladder_23 (c_X6_within d h c (nI 0) (nI 9)) rfl rfl (xfit _ _ _) (Nat.le_of_ble_eq_true rfl) ?_
      refine X.ifneB iX6_ladder_26 (fun c26 => ?_) (fun c26 => ?_)
      · refine X.aload iX6_ladder_31 rfl ?_
        refine X.getf iX6_ladder_32 (by first | exact H.c0 | exact H.cO.1 | exact H.cO.2.1 | exact H.cO.2.2.1 | exact H.cO.2.2.2.1 | exact H.cO.2.2.2.2.1 | exact H.cO.2.2.2.2.2 | exact H.cM.1 | exact H.cM.2.1 | exact H.cM.2.2 | exact H.cV.1 | exact H.cT.1 | exact H.cT.2 | exact H1.c0 | exact H1.cO.1 | exact H1.cM.1 | exact H1.cV.1 | exact H1.cM.2.2 | exact H1.cT.1 | assumption) rfl ?_
        refine X.iload iX6_ladder_35 rfl ?_
        refine X.iload iX6_ladder_36 rfl ?_
        refine X.iload iX6_ladder_37 rfl ?_
        refine X.callVi iX6_ladder_38 (PL) (by first | exact H.c0 | exact H.cO.1 | exact H.cO.2.1 | exact H.cO.2.2.1 | exact H.cO.2.2.2.1 | exact H.cO.2.2.2.2.1 | exact H.cO.2.2.2.2.2 | exact H.cM.1 | exact H.cM.2.1 | exact H.cM.2.2 | exact H.cV.1 | exact H.cT.1 | exact H.cT.2 | exact H1.c0 | exact H1.cO.1 | exact H1.cM.1 | exact H1.cV.1 | exact H1.cM.2.2 | exact H1.cT.1 | assumption) rfl rfl (xfit _ _ _) (Nat.le_of_ble_eq_true rfl) ?_
        refine X.istore iX6_ladder_41 rfl rfl ?_
        refine X.aload iX6_ladder_43 rfl ?_
        refine X.getf iX6_ladder_44 (by first | exact H.c0 | exact H.cO.1 | exact H.cO.2.1 | exact H.cO.2.2.1 | exact H.cO.2.2.2.1 | exact H.cO.2.2.2.2.1 | exact H.cO.2.2.2.2.2 | exact H.cM.1 | exact H.cM.2.1 | exact H.cM.2.2 | exact H.cV.1 | exact H.cT.1 | exact H.cT.2 | exact H1.c0 | exact H1.cO.1 | exact H1.cM.1 | exact H1.cV.1 | exact H1.cM.2.2 | exact H1.cT.1 | assumption) rfl ?_
        refine X.iload iX6_ladder_47 rfl ?_
        refine X.callVv iX6_ladder_49 (FG) (by first | exact H.c0 | exact H.cO.1 | exact H.cO.2.1 | exact H.cO.2.2.1 | exact H.cO.2.2.2.1 | exact H.cO.2.2.2.2.1 | exact H.cO.2.2.2.2.2 | exact H.cM.1 | exact H.cM.2.1 | exact H.cM.2.2 | exact H.cV.1 | exact H.cT.1 | exact H.cT.2 | exact H1.c0 | exact H1.cO.1 | exact H1.cM.1 | exact H1.cV.1 | exact H1.cM.2.2 | exact H1.cT.1 | assumption) rfl rfl (xfit _ _ _) (Nat.le_of_ble_eq_true rfl) ?_
        refine X.iload iX6_ladder_52 rfl ?_
        exact X.iret iX6_ladder_54 ⟨rfl, rfl⟩
      · exact absurd (c26.symm.trans b3) (by decide)
theorem c_X6_ladder {d : Nat} {a b c : Int32} {h : XH} {O : Oc} {M : Mo} {V : Hi} {KO : Oc} {KM : Mo} {KV : Hi} {kp : Bool} {T : Ta} {S : Nat → Sh} (H : CI h O M V KO KM KV kp T S) (hL : O.nL < 4) (hb : ladOk a b c = true) : MetC mX6_ladder (d + 1) [.ref 0, .int a, .int b, .int c] h (nI O.nL) (brO O a b c) (brM O M) (fgH V) KO KM KV kp T S := by
  obtain ⟨b1, b2, b3⟩ := ladOk_3 hb
  have PL := c_X3_bring (d := d) (h := h) (o := 1) (O := O) (M := M) (ki := a) (le := b) (pr := c) (by omega)
  rw [if_neg (by omega), if_neg (by omega), H.A] at PL
  have H1 := H.aft (brO O a b c) (brM O M)
  have FG := c_X1_forgetUnlessFull (d := d) (h := setA h 1 (brO O a b c) (brM O M)) (x := nI O.nL) H.p1
  rw [if_neg (n3 (by omega)), IsH.set H.p1 H1.cV] at FG
  refine MetX.of (by decide) rfl (Nat.le_of_ble_eq_true rfl) ?_
  refine X.iload iX6_ladder_0 rfl ?_
  refine X.pushi (v := nI 0) iX6_ladder_1 ?_
  refine X.pushi (v := nI 4) iX6_ladder_2 ?_
  refine X.callSi iX6_ladder_3 (c_X6_within d h a (nI 0) (nI 4)) rfl rfl (xfit _ _ _) (Nat.le_of_ble_eq_true rfl) ?_
  refine X.ifeqB iX6_ladder_6 (fun c6 => ?_) (fun c6 => ?_)
  · exact absurd (c6.symm.trans b1) (by decide)
  · refine X.iload iX6_ladder_9 rfl ?_
    refine X.pushi (v := nI 1) iX6_ladder_10 ?_
    refine X.pushi (v := nI 9) iX6_ladder_11 ?_
    refine X.callSi iX6_ladder_13 (c_X6_within d h b (nI 1) (nI 9)) rfl rfl (xfit _ _ _) (Nat.le_of_ble_eq_true rfl) ?_
    refine X.ifeqB iX6_ladder_16 (fun c16 => ?_) (fun c16 => ?_)
    · exact absurd (c16.symm.trans b2) (by decide)
    · refine X.iload iX6_ladder_19 rfl ?_
      refine X.pushi (v := nI 0) iX6_ladder_20 ?_
      refine X.pushi (v := nI 9) iX6_ladder_21 ?_
      refine X.callSi iX6_ladder_23 (c_X6_within d h c (nI 0) (nI 9)) rfl rfl (xfit _ _ _) (Nat.le_of_ble_eq_true rfl) ?_
      refine X.ifneB iX6_ladder_26 (fun c26 => ?_) (fun c26 => ?_)
      · refine X.aload iX6_ladder_31 rfl ?_
        refine X.getf iX6_ladder_32 (by first | exact H.c0 | exact H.cO.1 | exact H.cO.2.1 | exact H.cO.2.2.1 | exact H.cO.2.2.2.1 | exact H.cO.2.2.2.2.1 | exact H.cO.2.2.2.2.2 | exact H.cM.1 | exact H.cM.2.1 | exact H.cM.2.2 | exact H.cV.1 | exact H.cT.1 | exact H.cT.2 | exact H1.c0 | exact H1.cO.1 | exact H1.cM.1 | exact H1.cV.1 | exact H1.cM.2.2 | exact H1.cT.1 | assumption) rfl ?_
        refine X.iload iX6_ladder_35 rfl ?_
        refine X.iload iX6_ladder_36 rfl ?_
        refine X.iload iX6_ladder_37 rfl ?_
        refine X.callVi iX6_ladder_38 (PL) (by first | exact H.c0 | exact H.cO.1 | exact H.cO.2.1 | exact H.cO.2.2.1 | exact H.cO.2.2.2.1 | exact H.cO.2.2.2.2.1 | exact H.cO.2.2.2.2.2 | exact H.cM.1 | exact H.cM.2.1 | exact H.cM.2.2 | exact H.cV.1 | exact H.cT.1 | exact H.cT.2 | exact H1.c0 | exact H1.cO.1 | exact H1.cM.1 | exact H1.cV.1 | exact H1.cM.2.2 | exact H1.cT.1 | assumption) rfl rfl (xfit _ _ _) (Nat.le_of_ble_eq_true rfl) ?_
        refine X.istore iX6_ladder_41 rfl rfl ?_
        refine X.aload iX6_ladder_43 rfl ?_
        refine X.getf iX6_ladder_44 (by first | exact H.c0 | exact H.cO.1 | exact H.cO.2.1 | exact H.cO.2.2.1 | exact H.cO.2.2.2.1 | exact H.cO.2.2.2.2.1 | exact H.cO.2.2.2.2.2 | exact H.cM.1 | exact H.cM.2.1 | exact H.cM.2.2 | exact H.cV.1 | exact H.cT.1 | exact H.cT.2 | exact H1.c0 | exact H1.cO.1 | exact H1.cM.1 | exact H1.cV.1 | exact H1.cM.2.2 | exact H1.cT.1 | assumption) rfl ?_
        refine X.iload iX6_ladder_47 rfl ?_
        refine X.callVv iX6_ladder_49 (FG) (by first | exact H.c0 | exact H.cO.1 | exact H.cO.2.1 | exact H.cO.2.2.1 | exact H.cO.2.2.2.1 | exact H.cO.2.2.2.2.1 | exact H.cO.2.2.2.2.2 | exact H.cM.1 | exact H.cM.2.1 | exact H.cM.2.2 | exact H.cV.1 | exact H.cT.1 | exact H.cT.2 | exact H1.c0 | exact H1.cO.1 | exact H1.cM.1 | exact H1.cV.1 | exact H1.cM.2.2 | exact H1.cT.1 | assumption) rfl rfl (xfit _ _ _) (Nat.le_of_ble_eq_true rfl) ?_
        refine X.iload iX6_ladder_52 rfl ?_
        exact X.iret iX6_ladder_54 ⟨rfl, H1.afh (V2 := fgH V) H.p1, fun i hi => (sHo (V := fgH V) H.p1 (by omega)).trans (sAo _ _ _ (by omega))⟩
      · exact absurd (c26.symm.trans b3) (by decide)
theorem c_X6_rule_bad {d : Nat} {h : XH} {w v : Int32} (hb : ruleOk w v = false) : MetI mX6_rule (d + 1, 0, 0) [.ref 0, .int w, .int v] h (-1) := by
  unfold ruleOk at hb
  rw [Bool.or_eq_false_iff] at hb
  refine MetX.of (by decide) rfl (Nat.le_of_ble_eq_true rfl) ?_
  refine X.iload iX6_rule_0 rfl ?_
  refine X.ifne iX6_rule_1 (fun c1 => ?_) (fun c1 => ?_)
  · refine X.iload iX6_rule_32 rfl ?_
    refine X.pushi (v := nI 1) iX6_rule_33 ?_
    refine X.cmne iX6_rule_34 (fun c34 => ?_) (fun c34 => ?_)
    · refine X.pushi iX6_rule_65 ?_
      exact X.iret iX6_rule_66 ⟨rfl, rfl⟩
    · refine X.iload iX6_rule_37 rfl ?_
      refine X.pushi (v := nI 0) iX6_rule_38 ?_
      refine X.pushi (v := nI 9) iX6_rule_39 ?_
      refine X.callSi iX6_rule_41 (c_X6_within d h v (nI 0) (nI 9)) rfl rfl (xfit _ _ _) (Nat.le_of_ble_eq_true rfl) ?_
      refine X.ifeqB iX6_rule_44 (fun c44 => ?_) (fun c44 => ?_)
      · refine X.pushi iX6_rule_65 ?_
        exact X.iret iX6_rule_66 ⟨rfl, rfl⟩
      · (rw [show (w == nI 1) = true from beq_iff_eq.mpr c34, c44] at hb; exact absurd hb.2 (by decide))
  · refine X.iload iX6_rule_4 rfl ?_
    refine X.pushi (v := nI 1) iX6_rule_5 ?_
    refine X.pushi (v := nI 30) iX6_rule_6 ?_
    refine X.callSi iX6_rule_8 (c_X6_within d h v (nI 1) (nI 30)) rfl rfl (xfit _ _ _) (Nat.le_of_ble_eq_true rfl) ?_
    refine X.ifeqB iX6_rule_11 (fun c11 => ?_) (fun c11 => ?_)
    · refine X.iload iX6_rule_32 rfl ?_
      refine X.pushi (v := nI 1) iX6_rule_33 ?_
      refine X.cmne iX6_rule_34 (fun c34 => ?_) (fun c34 => ?_)
      · refine X.pushi iX6_rule_65 ?_
        exact X.iret iX6_rule_66 ⟨rfl, rfl⟩
      · refine X.iload iX6_rule_37 rfl ?_
        refine X.pushi (v := nI 0) iX6_rule_38 ?_
        refine X.pushi (v := nI 9) iX6_rule_39 ?_
        refine X.callSi iX6_rule_41 (c_X6_within d h v (nI 0) (nI 9)) rfl rfl (xfit _ _ _) (Nat.le_of_ble_eq_true rfl) ?_
        refine X.ifeqB iX6_rule_44 (fun c44 => ?_) (fun c44 => ?_)
        · refine X.pushi iX6_rule_65 ?_
          exact X.iret iX6_rule_66 ⟨rfl, rfl⟩
        · (rw [show (w == nI 1) = true from beq_iff_eq.mpr c34, c44] at hb; exact absurd hb.2 (by decide))
    · (rw [show (w == nI 0) = true from beq_iff_eq.mpr c1, c11] at hb; exact absurd hb.1 (by decide))
theorem c_X6_rule0 {d b : Nat} {h : XH} {O : Oc} {M : Mo} {V : Hi} {KO : Oc} {KM : Mo} {KV : Hi} {kp : Bool} {T : Ta} {S : Nat → Sh} (H : CI h O M V KO KM KV kp T S) (hb : 1 ≤ b ∧ b ≤ 30) : MetC mX6_rule (d + 1) [.ref 0, .int (nI 0), .int (nI b)] h O.ba (Oc.mk O.nT O.nL (nI b) O.wa O.hi O.ri O.ki O.le O.pr) M V KO KM KV kp T S := by
  have H1 := H.aft (Oc.mk O.nT O.nL (nI b) O.wa O.hi O.ri O.ki O.le O.pr) M
  refine MetX.of (by decide) rfl (Nat.le_of_ble_eq_true rfl) ?_
  refine X.iload iX6_rule_0 rfl ?_
  refine X.ifne iX6_rule_1 (fun c1 => ?_) (fun c1 => ?_)
  · exact absurd rfl c1
  · refine X.iload iX6_rule_4 rfl ?_
    refine X.pushi (v := nI 1) iX6_rule_5 ?_
    refine X.pushi (v := nI 30) iX6_rule_6 ?_
    refine X.callSi iX6_rule_8 (c_X6_within d h (nI b) (nI 1) (nI 30)) rfl rfl (xfit _ _ _) (Nat.le_of_ble_eq_true rfl) ?_
    refine X.ifeqB iX6_rule_11 (fun c11 => ?_) (fun c11 => ?_)
    · exact absurd (c11.symm.trans (inI_of hb.1 hb.2 (by decide))) (by decide)
    · refine X.aload iX6_rule_14 rfl ?_
      refine X.getf iX6_rule_15 (by first | exact H.c0 | exact H.cO.1 | exact H.cO.2.1 | exact H.cO.2.2.1 | exact H.cO.2.2.2.1 | exact H.cO.2.2.2.2.1 | exact H.cO.2.2.2.2.2 | exact H.cM.1 | exact H.cM.2.1 | exact H.cM.2.2 | exact H.cV.1 | exact H.cT.1 | exact H.cT.2 | exact H1.c0 | exact H1.cO.1 | exact H1.cM.1 | exact H1.cV.1 | exact H1.cM.2.2 | exact H1.cT.1 | assumption) rfl ?_
      refine X.getf iX6_rule_18 (by first | exact H.c0 | exact H.cO.1 | exact H.cO.2.1 | exact H.cO.2.2.1 | exact H.cO.2.2.2.1 | exact H.cO.2.2.2.2.1 | exact H.cO.2.2.2.2.2 | exact H.cM.1 | exact H.cM.2.1 | exact H.cM.2.2 | exact H.cV.1 | exact H.cT.1 | exact H.cT.2 | exact H1.c0 | exact H1.cO.1 | exact H1.cM.1 | exact H1.cV.1 | exact H1.cM.2.2 | exact H1.cT.1 | assumption) rfl ?_
      refine X.istore iX6_rule_21 rfl rfl ?_
      refine X.aload iX6_rule_22 rfl ?_
      refine X.getf iX6_rule_23 (by first | exact H.c0 | exact H.cO.1 | exact H.cO.2.1 | exact H.cO.2.2.1 | exact H.cO.2.2.2.1 | exact H.cO.2.2.2.2.1 | exact H.cO.2.2.2.2.2 | exact H.cM.1 | exact H.cM.2.1 | exact H.cM.2.2 | exact H.cV.1 | exact H.cT.1 | exact H.cT.2 | exact H1.c0 | exact H1.cO.1 | exact H1.cM.1 | exact H1.cV.1 | exact H1.cM.2.2 | exact H1.cT.1 | assumption) rfl ?_
      refine X.iload iX6_rule_26 rfl ?_
      refine X.puti iX6_rule_27 H.cO.1 (Nat.le_of_ble_eq_true rfl) ?_
      refine X.heap (h' := setA h 1 (Oc.mk O.nT O.nL (nI b) O.wa O.hi O.ri O.ki O.le O.pr) M) (by rw [← eA_ba, H.A]) ?_
      refine X.iload iX6_rule_30 rfl ?_
      exact X.iret iX6_rule_31 ⟨rfl, H1, fun i hi => sAo _ _ _ (by omega)⟩
theorem c_X6_rule1 {d w : Nat} {h : XH} {O : Oc} {M : Mo} {V : Hi} {KO : Oc} {KM : Mo} {KV : Hi} {kp : Bool} {T : Ta} {S : Nat → Sh} (H : CI h O M V KO KM KV kp T S) (hw : w ≤ 9) : MetC mX6_rule (d + 1) [.ref 0, .int (nI 1), .int (nI w)] h O.wa (Oc.mk O.nT O.nL O.ba (nI w) O.hi O.ri O.ki O.le O.pr) M V KO KM KV kp T S := by
  have H1 := H.aft (Oc.mk O.nT O.nL O.ba (nI w) O.hi O.ri O.ki O.le O.pr) M
  refine MetX.of (by decide) rfl (Nat.le_of_ble_eq_true rfl) ?_
  refine X.iload iX6_rule_0 rfl ?_
  refine X.ifne iX6_rule_1 (fun c1 => ?_) (fun c1 => ?_)
  · refine X.iload iX6_rule_32 rfl ?_
    refine X.pushi (v := nI 1) iX6_rule_33 ?_
    refine X.cmne iX6_rule_34 (fun c34 => ?_) (fun c34 => ?_)
    · exact absurd rfl c34
    · refine X.iload iX6_rule_37 rfl ?_
      refine X.pushi (v := nI 0) iX6_rule_38 ?_
      refine X.pushi (v := nI 9) iX6_rule_39 ?_
      refine X.callSi iX6_rule_41 (c_X6_within d h (nI w) (nI 0) (nI 9)) rfl rfl (xfit _ _ _) (Nat.le_of_ble_eq_true rfl) ?_
      refine X.ifeqB iX6_rule_44 (fun c44 => ?_) (fun c44 => ?_)
      · exact absurd (c44.symm.trans (inI_of (Nat.zero_le _) hw (by decide))) (by decide)
      · refine X.aload iX6_rule_47 rfl ?_
        refine X.getf iX6_rule_48 (by first | exact H.c0 | exact H.cO.1 | exact H.cO.2.1 | exact H.cO.2.2.1 | exact H.cO.2.2.2.1 | exact H.cO.2.2.2.2.1 | exact H.cO.2.2.2.2.2 | exact H.cM.1 | exact H.cM.2.1 | exact H.cM.2.2 | exact H.cV.1 | exact H.cT.1 | exact H.cT.2 | exact H1.c0 | exact H1.cO.1 | exact H1.cM.1 | exact H1.cV.1 | exact H1.cM.2.2 | exact H1.cT.1 | assumption) rfl ?_
        refine X.getf iX6_rule_51 (by first | exact H.c0 | exact H.cO.1 | exact H.cO.2.1 | exact H.cO.2.2.1 | exact H.cO.2.2.2.1 | exact H.cO.2.2.2.2.1 | exact H.cO.2.2.2.2.2 | exact H.cM.1 | exact H.cM.2.1 | exact H.cM.2.2 | exact H.cV.1 | exact H.cT.1 | exact H.cT.2 | exact H1.c0 | exact H1.cO.1 | exact H1.cM.1 | exact H1.cV.1 | exact H1.cM.2.2 | exact H1.cT.1 | assumption) rfl ?_
        refine X.istore iX6_rule_54 rfl rfl ?_
        refine X.aload iX6_rule_55 rfl ?_
        refine X.getf iX6_rule_56 (by first | exact H.c0 | exact H.cO.1 | exact H.cO.2.1 | exact H.cO.2.2.1 | exact H.cO.2.2.2.1 | exact H.cO.2.2.2.2.1 | exact H.cO.2.2.2.2.2 | exact H.cM.1 | exact H.cM.2.1 | exact H.cM.2.2 | exact H.cV.1 | exact H.cT.1 | exact H.cT.2 | exact H1.c0 | exact H1.cO.1 | exact H1.cM.1 | exact H1.cV.1 | exact H1.cM.2.2 | exact H1.cT.1 | assumption) rfl ?_
        refine X.iload iX6_rule_59 rfl ?_
        refine X.puti iX6_rule_60 H.cO.1 (Nat.le_of_ble_eq_true rfl) ?_
        refine X.heap (h' := setA h 1 (Oc.mk O.nT O.nL O.ba (nI w) O.hi O.ri O.ki O.le O.pr) M) (by rw [← eA_wa, H.A]) ?_
        refine X.iload iX6_rule_63 rfl ?_
        exact X.iret iX6_rule_64 ⟨rfl, H1, fun i hi => sAo _ _ _ (by omega)⟩
  · exact absurd c1 (by decide)
theorem c_X6_type_bad {d : Nat} {h : XH} {c : Int32} (hc : inI c (nI 32) (nI 126) = false) : MetI mX6_type (d + 1, 0, 0) [.ref 0, .int c] h (-1) := by
  refine MetX.of (by decide) rfl (Nat.le_of_ble_eq_true rfl) ?_
  refine X.iload iX6_type_0 rfl ?_
  refine X.pushi (v := nI 32) iX6_type_1 ?_
  refine X.pushi (v := nI 126) iX6_type_3 ?_
  refine X.callSi iX6_type_5 (c_X6_within d h c (nI 32) (nI 126)) rfl rfl (xfit _ _ _) (Nat.le_of_ble_eq_true rfl) ?_
  refine X.ifeqB iX6_type_8 (fun c8 => ?_) (fun c8 => ?_)
  · refine X.pushi iX6_type_23 ?_
    exact X.iret iX6_type_24 ⟨rfl, rfl⟩
  · exact absurd (c8.symm.trans hc) (by decide)
theorem i2c_N {c : Nat} (hc : c ≤ 126) : ((nI c).toUInt32 % 65536).toInt32 = nI c := (by decide +kernel : ∀ c : Fin 127, ((nI c.1).toUInt32 % 65536).toInt32 = nI c.1) ⟨c, by omega⟩
theorem c_X6_type_full {d c : Nat} {h : XH} {O : Oc} {M : Mo} {V : Hi} {KO : Oc} {KM : Mo} {KV : Hi} {kp : Bool} {T : Ta} {S : Nat → Sh} (H : CI h O M V KO KM KV kp T S) (hc : 32 ≤ c ∧ c ≤ 126) (hn : T.n = 90) : MetI mX6_type (d + 1, 0, 0) [.ref 0, .int (nI c)] h (-3) := by
  have AP := c_X5_append (d := d) (s := 71) (h := h) (V := T) (c := c) (by omega) (by omega)
  rw [if_pos hn, if_pos hn, IsT.set H.cT] at AP
  refine MetX.of (by decide) rfl (Nat.le_of_ble_eq_true rfl) ?_
  refine X.iload iX6_type_0 rfl ?_
  refine X.pushi (v := nI 32) iX6_type_1 ?_
  refine X.pushi (v := nI 126) iX6_type_3 ?_
  refine X.callSi iX6_type_5 (c_X6_within d h (nI c) (nI 32) (nI 126)) rfl rfl (xfit _ _ _) (Nat.le_of_ble_eq_true rfl) ?_
  refine X.ifeqB iX6_type_8 (fun c8 => ?_) (fun c8 => ?_)
  · exact absurd (c8.symm.trans (inI_of hc.1 hc.2 (by decide))) (by decide)
  · refine X.aload iX6_type_11 rfl ?_
    refine X.getf iX6_type_12 (by first | exact H.c0 | exact H.cO.1 | exact H.cO.2.1 | exact H.cO.2.2.1 | exact H.cO.2.2.2.1 | exact H.cO.2.2.2.2.1 | exact H.cO.2.2.2.2.2 | exact H.cM.1 | exact H.cM.2.1 | exact H.cM.2.2 | exact H.cV.1 | exact H.cT.1 | exact H.cT.2 | exact H1.c0 | exact H1.cO.1 | exact H1.cM.1 | exact H1.cV.1 | exact H1.cM.2.2 | exact H1.cT.1 | assumption) rfl ?_
    refine X.iload iX6_type_15 rfl ?_
    refine X.i2c iX6_type_16 ?_
    rw [i2c_N hc.2]
    refine X.callVi iX6_type_17 (AP) (by first | exact H.c0 | exact H.cO.1 | exact H.cO.2.1 | exact H.cO.2.2.1 | exact H.cO.2.2.2.1 | exact H.cO.2.2.2.2.1 | exact H.cO.2.2.2.2.2 | exact H.cM.1 | exact H.cM.2.1 | exact H.cM.2.2 | exact H.cV.1 | exact H.cT.1 | exact H.cT.2 | exact H1.c0 | exact H1.cO.1 | exact H1.cM.1 | exact H1.cV.1 | exact H1.cM.2.2 | exact H1.cT.1 | assumption) rfl rfl (xfit _ _ _) (Nat.le_of_ble_eq_true rfl) ?_
    refine X.goto iX6_type_20 ?_
    exact X.iret iX6_type_24 ⟨rfl, rfl⟩
theorem c_X6_type {d c : Nat} {h : XH} {O : Oc} {M : Mo} {V : Hi} {KO : Oc} {KM : Mo} {KV : Hi} {kp : Bool} {T : Ta} {S : Nat → Sh} (H : CI h O M V KO KM KV kp T S) (hc : 32 ≤ c ∧ c ≤ 126) (hn : T.n < 90) : MetC mX6_type (d + 1) [.ref 0, .int (nI c)] h (nI (T.n + 1)) O M V KO KM KV kp (Ta.mk (upd T.cl T.n (nI c)) (T.n + 1) T.p T.f) S := by
  have AP := c_X5_append (d := d) (s := 71) (h := h) (V := T) (c := c) (by omega) (by omega)
  rw [if_neg (by omega), if_neg (by omega), IsT.set H.cT] at AP
  refine MetX.of (by decide) rfl (Nat.le_of_ble_eq_true rfl) ?_
  refine X.iload iX6_type_0 rfl ?_
  refine X.pushi (v := nI 32) iX6_type_1 ?_
  refine X.pushi (v := nI 126) iX6_type_3 ?_
  refine X.callSi iX6_type_5 (c_X6_within d h (nI c) (nI 32) (nI 126)) rfl rfl (xfit _ _ _) (Nat.le_of_ble_eq_true rfl) ?_
  refine X.ifeqB iX6_type_8 (fun c8 => ?_) (fun c8 => ?_)
  · exact absurd (c8.symm.trans (inI_of hc.1 hc.2 (by decide))) (by decide)
  · refine X.aload iX6_type_11 rfl ?_
    refine X.getf iX6_type_12 (by first | exact H.c0 | exact H.cO.1 | exact H.cO.2.1 | exact H.cO.2.2.1 | exact H.cO.2.2.2.1 | exact H.cO.2.2.2.2.1 | exact H.cO.2.2.2.2.2 | exact H.cM.1 | exact H.cM.2.1 | exact H.cM.2.2 | exact H.cV.1 | exact H.cT.1 | exact H.cT.2 | exact H1.c0 | exact H1.cO.1 | exact H1.cM.1 | exact H1.cV.1 | exact H1.cM.2.2 | exact H1.cT.1 | assumption) rfl ?_
    refine X.iload iX6_type_15 rfl ?_
    refine X.i2c iX6_type_16 ?_
    rw [i2c_N hc.2]
    refine X.callVi iX6_type_17 (AP) (by first | exact H.c0 | exact H.cO.1 | exact H.cO.2.1 | exact H.cO.2.2.1 | exact H.cO.2.2.2.1 | exact H.cO.2.2.2.2.1 | exact H.cO.2.2.2.2.2 | exact H.cM.1 | exact H.cM.2.1 | exact H.cM.2.2 | exact H.cV.1 | exact H.cT.1 | exact H.cT.2 | exact H1.c0 | exact H1.cO.1 | exact H1.cM.1 | exact H1.cV.1 | exact H1.cM.2.2 | exact H1.cT.1 | assumption) rfl rfl (xfit _ _ _) (Nat.le_of_ble_eq_true rfl) ?_
    refine X.goto iX6_type_20 ?_
    exact X.iret iX6_type_24 ⟨rfl, H.af_T _, fun i hi => sTo _ _ (by omega)⟩
theorem c_X6_seed_bad {d : Nat} {h : XH} {v : Int32} (hv : ¬ 0 ≤ v) : MetI mX6_seed (d, 0, 0) [.ref 0, .int v] h (-1) := by
  refine MetX.of (by decide) rfl (Nat.le_of_ble_eq_true rfl) ?_
  refine X.iload iX6_seed_0 rfl ?_
  refine X.ifge iX6_seed_1 (fun c1 => ?_) (fun c1 => ?_)
  · exact absurd c1 hv
  · refine X.pushi iX6_seed_4 ?_
    exact X.iret iX6_seed_5 ⟨rfl, rfl⟩
theorem c_X6_seed {d : Nat} {v : Int32} {h : XH} {O : Oc} {M : Mo} {V : Hi} {KO : Oc} {KM : Mo} {KV : Hi} {kp : Bool} {T : Ta} {S : Nat → Sh} (H : CI h O M V KO KM KV kp T S) (hv : 0 ≤ v) : MetC mX6_seed d [.ref 0, .int v] h M.draw O (Mo.mk M.fr M.ln M.got M.paid M.lost M.day v) V KO KM KV kp T S := by
  refine MetX.of (by decide) rfl (Nat.le_of_ble_eq_true rfl) ?_
  refine X.iload iX6_seed_0 rfl ?_
  refine X.ifge iX6_seed_1 (fun c1 => ?_) (fun c1 => ?_)
  · refine X.aload iX6_seed_6 rfl ?_
    refine X.getf iX6_seed_7 (by first | exact H.c0 | exact H.cO.1 | exact H.cO.2.1 | exact H.cO.2.2.1 | exact H.cO.2.2.2.1 | exact H.cO.2.2.2.2.1 | exact H.cO.2.2.2.2.2 | exact H.cM.1 | exact H.cM.2.1 | exact H.cM.2.2 | exact H.cV.1 | exact H.cT.1 | exact H.cT.2 | exact H1.c0 | exact H1.cO.1 | exact H1.cM.1 | exact H1.cV.1 | exact H1.cM.2.2 | exact H1.cT.1 | assumption) rfl ?_
    refine X.getf iX6_seed_10 (by first | exact H.c0 | exact H.cO.1 | exact H.cO.2.1 | exact H.cO.2.2.1 | exact H.cO.2.2.2.1 | exact H.cO.2.2.2.2.1 | exact H.cO.2.2.2.2.2 | exact H.cM.1 | exact H.cM.2.1 | exact H.cM.2.2 | exact H.cV.1 | exact H.cT.1 | exact H.cT.2 | exact H1.c0 | exact H1.cO.1 | exact H1.cM.1 | exact H1.cV.1 | exact H1.cM.2.2 | exact H1.cT.1 | assumption) rfl ?_
    refine X.getf iX6_seed_13 (by first | exact H.c0 | exact H.cO.1 | exact H.cO.2.1 | exact H.cO.2.2.1 | exact H.cO.2.2.2.1 | exact H.cO.2.2.2.2.1 | exact H.cO.2.2.2.2.2 | exact H.cM.1 | exact H.cM.2.1 | exact H.cM.2.2 | exact H.cV.1 | exact H.cT.1 | exact H.cT.2 | exact H1.c0 | exact H1.cO.1 | exact H1.cM.1 | exact H1.cV.1 | exact H1.cM.2.2 | exact H1.cT.1 | assumption) rfl ?_
    refine X.istore iX6_seed_16 rfl rfl ?_
    refine X.aload iX6_seed_17 rfl ?_
    refine X.getf iX6_seed_18 (by first | exact H.c0 | exact H.cO.1 | exact H.cO.2.1 | exact H.cO.2.2.1 | exact H.cO.2.2.2.1 | exact H.cO.2.2.2.2.1 | exact H.cO.2.2.2.2.2 | exact H.cM.1 | exact H.cM.2.1 | exact H.cM.2.2 | exact H.cV.1 | exact H.cT.1 | exact H.cT.2 | exact H1.c0 | exact H1.cO.1 | exact H1.cM.1 | exact H1.cV.1 | exact H1.cM.2.2 | exact H1.cT.1 | assumption) rfl ?_
    refine X.getf iX6_seed_21 (by first | exact H.c0 | exact H.cO.1 | exact H.cO.2.1 | exact H.cO.2.2.1 | exact H.cO.2.2.2.1 | exact H.cO.2.2.2.2.1 | exact H.cO.2.2.2.2.2 | exact H.cM.1 | exact H.cM.2.1 | exact H.cM.2.2 | exact H.cV.1 | exact H.cT.1 | exact H.cT.2 | exact H1.c0 | exact H1.cO.1 | exact H1.cM.1 | exact H1.cV.1 | exact H1.cM.2.2 | exact H1.cT.1 | assumption) rfl ?_
    refine X.iload iX6_seed_24 rfl ?_
    refine X.puti iX6_seed_25 H.cM.1 (Nat.le_of_ble_eq_true rfl) ?_
    refine X.heap (h' := setM h 7 (Mo.mk M.fr M.ln M.got M.paid M.lost M.day v)) (by rw [← sM_draw, IsM.set H.cM]) ?_
    refine X.iload iX6_seed_28 rfl ?_
    exact X.iret iX6_seed_29 ⟨rfl, H.afm _, fun i hi => sMo _ _ (by omega)⟩
  · exact absurd hv c1
