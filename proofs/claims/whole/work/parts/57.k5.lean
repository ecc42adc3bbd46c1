/-! the class's own methods: what is done -/
theorem rem_C {d : Nat} {h : XH} {O : Oc} {M : Mo} {V : Hi} {KO : Oc} {KM : Mo} {KV : Hi} {kp : Bool} {T : Ta} {S : Nat → Sh} (H : CI h O M V KO KM KV kp T S) (hk : V.known ≤ 8) : MetV mX1_remember (d + 2, 0, 0) [.ref 10, .ref 7] h (setH h 10 (remF V M)) := by
  have R := c_X1_remember (d := d) (H := 10) (m := 7) (h := h) H.p1 hk H.cM (by omega)
  rw [IsH.set H.p1 H.cV] at R
  exact R
theorem CI.rem {h : XH} {O : Oc} {M : Mo} {V : Hi} {KO : Oc} {KM : Mo} {KV : Hi} {kp : Bool} {T : Ta} {S : Nat → Sh} (H : CI h O M V KO KM KV kp T S) : CI (setH h 10 (remF V M)) O M (remF V M) KO KM KV kp T S := H.afh (remF_ps H.p1)
theorem c_X6_lean_bad {d : Nat} {l t : Int32} {nw : Nat → Int32} {h : XH} {O : Oc} {M : Mo} {V : Hi} {KO : Oc} {KM : Mo} {KV : Hi} {kp : Bool} {T : Ta} {S : Nat → Sh} (H : CI h O M V KO KM KV kp T S) (h1 : RO O nw) (hb : isL nw l = false ∨ (¬ t = -4 ∧ isT nw t = false)) : MetI mX6_lean (d + 1, 0, 0) [.ref 0, .int l, .int t] h (-1) := by
  have HL := c_X3_hasLadder (d := d) (t := l) H.cO
  rw [has_L h1] at HL
  have HT := c_X3_hasTree (d := d) (t := t) H.cO
  rw [has_T h1] at HT
  refine MetX.of (by decide) rfl (Nat.le_of_ble_eq_true rfl) ?_
  refine X.aload iX6_lean_0 rfl ?_
  refine X.getf iX6_lean_1 (by first | exact H.c0 | exact H.cO.1 | exact H.cO.2.1 | exact H.cO.2.2.1 | exact H.cO.2.2.2.1 | exact H.cO.2.2.2.2.1 | exact H.cO.2.2.2.2.2 | exact H.cM.1 | exact H.cM.2.1 | exact H.cM.2.2 | exact H.cV.1 | exact H.cT.1 | exact H.cT.2 | exact H1.c0 | exact H1.cO.1 | exact H1.cM.1 | exact H1.cV.1 | exact H1.cM.2.2 | exact H1.cT.1 | exact H2.c0 | exact H2.cO.1 | exact H2.cM.1 | exact H2.cV.1 | assumption) rfl ?_
  refine X.iload iX6_lean_4 rfl ?_
  refine X.callVi iX6_lean_5 (HL) (by first | exact H.c0 | exact H.cO.1 | exact H.cO.2.1 | exact H.cO.2.2.1 | exact H.cO.2.2.2.1 | exact H.cO.2.2.2.2.1 | exact H.cO.2.2.2.2.2 | exact H.cM.1 | exact H.cM.2.1 | exact H.cM.2.2 | exact H.cV.1 | exact H.cT.1 | exact H.cT.2 | exact H1.c0 | exact H1.cO.1 | exact H1.cM.1 | exact H1.cV.1 | exact H1.cM.2.2 | exact H1.cT.1 | exact H2.c0 | exact H2.cO.1 | exact H2.cM.1 | exact H2.cV.1 | assumption) rfl rfl (xfit _ _ _) (Nat.le_of_ble_eq_true rfl) ?_
  refine X.ifeqB iX6_lean_8 (fun c8 => ?_) (fun c8 => ?_)
  · refine X.pushi iX6_lean_28 ?_
    exact X.iret iX6_lean_29 ⟨rfl, rfl⟩
  · refine X.iload iX6_lean_11 rfl ?_
    refine X.pushi iX6_lean_12 ?_
    refine X.cmeq iX6_lean_14 (fun c14 => ?_) (fun c14 => ?_)
    · first
      | (exact absurd hb (fun z => z.elim (fun y => Bool.noConfusion (c8.symm.trans y)) (fun y => y.1 c14)))
      | (exact absurd hb (fun z => z.elim (fun y => Bool.noConfusion (c8.symm.trans y)) (fun y => Bool.noConfusion (c25.symm.trans y.2))))
    · refine X.aload iX6_lean_17 rfl ?_
      refine X.getf iX6_lean_18 (by first | exact H.c0 | exact H.cO.1 | exact H.cO.2.1 | exact H.cO.2.2.1 | exact H.cO.2.2.2.1 | exact H.cO.2.2.2.2.1 | exact H.cO.2.2.2.2.2 | exact H.cM.1 | exact H.cM.2.1 | exact H.cM.2.2 | exact H.cV.1 | exact H.cT.1 | exact H.cT.2 | exact H1.c0 | exact H1.cO.1 | exact H1.cM.1 | exact H1.cV.1 | exact H1.cM.2.2 | exact H1.cT.1 | exact H2.c0 | exact H2.cO.1 | exact H2.cM.1 | exact H2.cV.1 | assumption) rfl ?_
      refine X.iload iX6_lean_21 rfl ?_
      refine X.callVi iX6_lean_22 (HT) (by first | exact H.c0 | exact H.cO.1 | exact H.cO.2.1 | exact H.cO.2.2.1 | exact H.cO.2.2.2.1 | exact H.cO.2.2.2.2.1 | exact H.cO.2.2.2.2.2 | exact H.cM.1 | exact H.cM.2.1 | exact H.cM.2.2 | exact H.cV.1 | exact H.cT.1 | exact H.cT.2 | exact H1.c0 | exact H1.cO.1 | exact H1.cM.1 | exact H1.cV.1 | exact H1.cM.2.2 | exact H1.cT.1 | exact H2.c0 | exact H2.cO.1 | exact H2.cM.1 | exact H2.cV.1 | assumption) rfl rfl (xfit _ _ _) (Nat.le_of_ble_eq_true rfl) ?_
      refine X.ifneB iX6_lean_25 (fun c25 => ?_) (fun c25 => ?_)
      · first
        | (exact absurd hb (fun z => z.elim (fun y => Bool.noConfusion (c8.symm.trans y)) (fun y => y.1 c14)))
        | (exact absurd hb (fun z => z.elim (fun y => Bool.noConfusion (c8.symm.trans y)) (fun y => Bool.noConfusion (c25.symm.trans y.2))))
      · refine X.pushi iX6_lean_28 ?_
        exact X.iret iX6_lean_29 ⟨rfl, rfl⟩
theorem lean_ok {d l : Nat} {t : Int32} {nw : Nat → Int32} {Q : Option Value → XH → Prop} {h : XH} {O : Oc} {M : Mo} {V : Hi} {KO : Oc} {KM : Mo} {KV : Hi} {kp : Bool} {T : Ta} {S : Nat → Sh} (H : CI h O M V KO KM KV kp T S) (h1 : RO O nw) (h2 : RM O.nT O.nL M nw) (hl : l < O.nL) (ht : t = -4 ∨ isT nw t = true) (K : X xT mX6_lean (xR (d + 3, 0, 0)) (0, 0) 30 [some (.ref 0), some (.int (nI l)), some (.int t), none] [] h Q) : X xT mX6_lean (xR (d + 3, 0, 0)) (0, 0) 0 [some (.ref 0), some (.int (nI l)), some (.int t), none] [] h Q := by
  have HL := c_X3_hasLadder (d := d + 2) (t := nI l) H.cO
  rw [has_L h1] at HL
  have HT := c_X3_hasTree (d := d + 2) (t := t) H.cO
  rw [has_T h1] at HT
  have eL := isL_of (RM.wf h1 h2) hl
  refine X.aload iX6_lean_0 rfl ?_
  refine X.getf iX6_lean_1 (by first | exact H.c0 | exact H.cO.1 | exact H.cO.2.1 | exact H.cO.2.2.1 | exact H.cO.2.2.2.1 | exact H.cO.2.2.2.2.1 | exact H.cO.2.2.2.2.2 | exact H.cM.1 | exact H.cM.2.1 | exact H.cM.2.2 | exact H.cV.1 | exact H.cT.1 | exact H.cT.2 | exact H1.c0 | exact H1.cO.1 | exact H1.cM.1 | exact H1.cV.1 | exact H1.cM.2.2 | exact H1.cT.1 | exact H2.c0 | exact H2.cO.1 | exact H2.cM.1 | exact H2.cV.1 | assumption) rfl ?_
  refine X.iload iX6_lean_4 rfl ?_
  refine X.callVi iX6_lean_5 (HL) (by first | exact H.c0 | exact H.cO.1 | exact H.cO.2.1 | exact H.cO.2.2.1 | exact H.cO.2.2.2.1 | exact H.cO.2.2.2.2.1 | exact H.cO.2.2.2.2.2 | exact H.cM.1 | exact H.cM.2.1 | exact H.cM.2.2 | exact H.cV.1 | exact H.cT.1 | exact H.cT.2 | exact H1.c0 | exact H1.cO.1 | exact H1.cM.1 | exact H1.cV.1 | exact H1.cM.2.2 | exact H1.cT.1 | exact H2.c0 | exact H2.cO.1 | exact H2.cM.1 | exact H2.cV.1 | assumption) rfl rfl (xfit _ _ _) (Nat.le_of_ble_eq_true rfl) ?_
  refine X.ifeqB iX6_lean_8 (fun c8 => ?_) (fun c8 => ?_)
  · exact absurd (c8.symm.trans eL) (by decide)
  · refine X.iload iX6_lean_11 rfl ?_
    refine X.pushi iX6_lean_12 ?_
    refine X.cmeq iX6_lean_14 (fun c14 => ?_) (fun c14 => ?_)
    · exact K
    · refine X.aload iX6_lean_17 rfl ?_
      refine X.getf iX6_lean_18 (by first | exact H.c0 | exact H.cO.1 | exact H.cO.2.1 | exact H.cO.2.2.1 | exact H.cO.2.2.2.1 | exact H.cO.2.2.2.2.1 | exact H.cO.2.2.2.2.2 | exact H.cM.1 | exact H.cM.2.1 | exact H.cM.2.2 | exact H.cV.1 | exact H.cT.1 | exact H.cT.2 | exact H1.c0 | exact H1.cO.1 | exact H1.cM.1 | exact H1.cV.1 | exact H1.cM.2.2 | exact H1.cT.1 | exact H2.c0 | exact H2.cO.1 | exact H2.cM.1 | exact H2.cV.1 | assumption) rfl ?_
      refine X.iload iX6_lean_21 rfl ?_
      refine X.callVi iX6_lean_22 (HT) (by first | exact H.c0 | exact H.cO.1 | exact H.cO.2.1 | exact H.cO.2.2.1 | exact H.cO.2.2.2.1 | exact H.cO.2.2.2.2.1 | exact H.cO.2.2.2.2.2 | exact H.cM.1 | exact H.cM.2.1 | exact H.cM.2.2 | exact H.cV.1 | exact H.cT.1 | exact H.cT.2 | exact H1.c0 | exact H1.cO.1 | exact H1.cM.1 | exact H1.cV.1 | exact H1.cM.2.2 | exact H1.cT.1 | exact H2.c0 | exact H2.cO.1 | exact H2.cM.1 | exact H2.cV.1 | assumption) rfl rfl (xfit _ _ _) (Nat.le_of_ble_eq_true rfl) ?_
      refine X.ifneB iX6_lean_25 (fun c25 => ?_) (fun c25 => ?_)
      · exact K
      · (exact absurd (ht.resolve_left c14) (fun z => Bool.noConfusion (c25.symm.trans z)))
theorem c_X6_lean_not {d l : Nat} {t : Int32} {nw : Nat → Int32} {h : XH} {O : Oc} {M : Mo} {V : Hi} {KO : Oc} {KM : Mo} {KV : Hi} {kp : Bool} {T : Ta} {S : Nat → Sh} (H : CI h O M V KO KM KV kp T S) (h1 : RO O nw) (h2 : RM O.nT O.nL M nw) (hl : l < O.nL) (ht : t = -4 ∨ isT nw t = true) (e : M.ln l = t) : MetI mX6_lean (d + 3, 0, 0) [.ref 0, .int (nI l), .int t] h (-2) := by
  have hL := h1.2.2.2.1
  refine MetX.of (by decide) rfl (Nat.le_of_ble_eq_true rfl) ?_
  refine lean_ok H h1 h2 hl ht ?_
  refine X.aload iX6_lean_30 rfl ?_
  refine X.getf iX6_lean_31 (by first | exact H.c0 | exact H.cO.1 | exact H.cO.2.1 | exact H.cO.2.2.1 | exact H.cO.2.2.2.1 | exact H.cO.2.2.2.2.1 | exact H.cO.2.2.2.2.2 | exact H.cM.1 | exact H.cM.2.1 | exact H.cM.2.2 | exact H.cV.1 | exact H.cT.1 | exact H.cT.2 | exact H1.c0 | exact H1.cO.1 | exact H1.cM.1 | exact H1.cV.1 | exact H1.cM.2.2 | exact H1.cT.1 | exact H2.c0 | exact H2.cO.1 | exact H2.cM.1 | exact H2.cV.1 | assumption) rfl ?_
  refine X.getf iX6_lean_34 (by first | exact H.c0 | exact H.cO.1 | exact H.cO.2.1 | exact H.cO.2.2.1 | exact H.cO.2.2.2.1 | exact H.cO.2.2.2.2.1 | exact H.cO.2.2.2.2.2 | exact H.cM.1 | exact H.cM.2.1 | exact H.cM.2.2 | exact H.cV.1 | exact H.cT.1 | exact H.cT.2 | exact H1.c0 | exact H1.cO.1 | exact H1.cM.1 | exact H1.cV.1 | exact H1.cM.2.2 | exact H1.cT.1 | exact H2.c0 | exact H2.cO.1 | exact H2.cM.1 | exact H2.cV.1 | assumption) rfl ?_
  refine X.getf iX6_lean_37 (by first | exact H.c0 | exact H.cO.1 | exact H.cO.2.1 | exact H.cO.2.2.1 | exact H.cO.2.2.2.1 | exact H.cO.2.2.2.2.1 | exact H.cO.2.2.2.2.2 | exact H.cM.1 | exact H.cM.2.1 | exact H.cM.2.2 | exact H.cV.1 | exact H.cT.1 | exact H.cT.2 | exact H1.c0 | exact H1.cO.1 | exact H1.cM.1 | exact H1.cV.1 | exact H1.cM.2.2 | exact H1.cT.1 | exact H2.c0 | exact H2.cO.1 | exact H2.cM.1 | exact H2.cV.1 | assumption) rfl ?_
  refine X.iload iX6_lean_40 rfl ?_
  refine X.ialdN iX6_lean_41 (by first | exact H.c0 | exact H.cO.1 | exact H.cO.2.1 | exact H.cO.2.2.1 | exact H.cO.2.2.2.1 | exact H.cO.2.2.2.2.1 | exact H.cO.2.2.2.2.2 | exact H.cM.1 | exact H.cM.2.1 | exact H.cM.2.2 | exact H.cV.1 | exact H.cT.1 | exact H.cT.2 | exact H1.c0 | exact H1.cO.1 | exact H1.cM.1 | exact H1.cV.1 | exact H1.cM.2.2 | exact H1.cT.1 | exact H2.c0 | exact H2.cO.1 | exact H2.cM.1 | exact H2.cV.1 | assumption) (by omega) (by decide) ?_
  refine X.istore iX6_lean_42 rfl rfl ?_
  refine X.iload iX6_lean_43 rfl ?_
  refine X.iload iX6_lean_44 rfl ?_
  refine X.cmne iX6_lean_45 (fun c45 => ?_) (fun c45 => ?_)
  · exact absurd e c45
  · refine X.pushi iX6_lean_48 ?_
    exact X.iret iX6_lean_50 ⟨rfl, rfl⟩
theorem c_X6_lean {d l : Nat} {t : Int32} {nw : Nat → Int32} {h : XH} {O : Oc} {M : Mo} {V : Hi} {KO : Oc} {KM : Mo} {KV : Hi} {kp : Bool} {T : Ta} {S : Nat → Sh} (H : CI h O M V KO KM KV kp T S) (h1 : RO O nw) (h2 : RM O.nT O.nL M nw) (hk : V.known ≤ 8) (hl : l < O.nL) (ht : t = -4 ∨ isT nw t = true) (e : ¬ M.ln l = t) : MetC mX6_lean (d + 3) [.ref 0, .int (nI l), .int t] h (M.ln l) O (Mo.mk M.fr (upd M.ln l t) M.got M.paid M.lost M.day M.draw) (remF V M) KO KM KV kp T S := by
  have hL := h1.2.2.2.1
  have H1 := H.rem
  refine MetX.of (by decide) rfl (Nat.le_of_ble_eq_true rfl) ?_
  refine lean_ok H h1 h2 hl ht ?_
  refine X.aload iX6_lean_30 rfl ?_
  refine X.getf iX6_lean_31 (by first | exact H.c0 | exact H.cO.1 | exact H.cO.2.1 | exact H.cO.2.2.1 | exact H.cO.2.2.2.1 | exact H.cO.2.2.2.2.1 | exact H.cO.2.2.2.2.2 | exact H.cM.1 | exact H.cM.2.1 | exact H.cM.2.2 | exact H.cV.1 | exact H.cT.1 | exact H.cT.2 | exact H1.c0 | exact H1.cO.1 | exact H1.cM.1 | exact H1.cV.1 | exact H1.cM.2.2 | exact H1.cT.1 | exact H2.c0 | exact H2.cO.1 | exact H2.cM.1 | exact H2.cV.1 | assumption) rfl ?_
  refine X.getf iX6_lean_34 (by first | exact H.c0 | exact H.cO.1 | exact H.cO.2.1 | exact H.cO.2.2.1 | exact H.cO.2.2.2.1 | exact H.cO.2.2.2.2.1 | exact H.cO.2.2.2.2.2 | exact H.cM.1 | exact H.cM.2.1 | exact H.cM.2.2 | exact H.cV.1 | exact H.cT.1 | exact H.cT.2 | exact H1.c0 | exact H1.cO.1 | exact H1.cM.1 | exact H1.cV.1 | exact H1.cM.2.2 | exact H1.cT.1 | exact H2.c0 | exact H2.cO.1 | exact H2.cM.1 | exact H2.cV.1 | assumption) rfl ?_
  refine X.getf iX6_lean_37 (by first | exact H.c0 | exact H.cO.1 | exact H.cO.2.1 | exact H.cO.2.2.1 | exact H.cO.2.2.2.1 | exact H.cO.2.2.2.2.1 | exact H.cO.2.2.2.2.2 | exact H.cM.1 | exact H.cM.2.1 | exact H.cM.2.2 | exact H.cV.1 | exact H.cT.1 | exact H.cT.2 | exact H1.c0 | exact H1.cO.1 | exact H1.cM.1 | exact H1.cV.1 | exact H1.cM.2.2 | exact H1.cT.1 | exact H2.c0 | exact H2.cO.1 | exact H2.cM.1 | exact H2.cV.1 | assumption) rfl ?_
  refine X.iload iX6_lean_40 rfl ?_
  refine X.ialdN iX6_lean_41 (by first | exact H.c0 | exact H.cO.1 | exact H.cO.2.1 | exact H.cO.2.2.1 | exact H.cO.2.2.2.1 | exact H.cO.2.2.2.2.1 | exact H.cO.2.2.2.2.2 | exact H.cM.1 | exact H.cM.2.1 | exact H.cM.2.2 | exact H.cV.1 | exact H.cT.1 | exact H.cT.2 | exact H1.c0 | exact H1.cO.1 | exact H1.cM.1 | exact H1.cV.1 | exact H1.cM.2.2 | exact H1.cT.1 | exact H2.c0 | exact H2.cO.1 | exact H2.cM.1 | exact H2.cV.1 | assumption) (by omega) (by decide) ?_
  refine X.istore iX6_lean_42 rfl rfl ?_
  refine X.iload iX6_lean_43 rfl ?_
  refine X.iload iX6_lean_44 rfl ?_
  refine X.cmne iX6_lean_45 (fun c45 => ?_) (fun c45 => ?_)
  · refine X.aload iX6_lean_51 rfl ?_
    refine X.getf iX6_lean_52 (by first | exact H.c0 | exact H.cO.1 | exact H.cO.2.1 | exact H.cO.2.2.1 | exact H.cO.2.2.2.1 | exact H.cO.2.2.2.2.1 | exact H.cO.2.2.2.2.2 | exact H.cM.1 | exact H.cM.2.1 | exact H.cM.2.2 | exact H.cV.1 | exact H.cT.1 | exact H.cT.2 | exact H1.c0 | exact H1.cO.1 | exact H1.cM.1 | exact H1.cV.1 | exact H1.cM.2.2 | exact H1.cT.1 | exact H2.c0 | exact H2.cO.1 | exact H2.cM.1 | exact H2.cV.1 | assumption) rfl ?_
    refine X.aload iX6_lean_55 rfl ?_
    refine X.getf iX6_lean_56 (by first | exact H.c0 | exact H.cO.1 | exact H.cO.2.1 | exact H.cO.2.2.1 | exact H.cO.2.2.2.1 | exact H.cO.2.2.2.2.1 | exact H.cO.2.2.2.2.2 | exact H.cM.1 | exact H.cM.2.1 | exact H.cM.2.2 | exact H.cV.1 | exact H.cT.1 | exact H.cT.2 | exact H1.c0 | exact H1.cO.1 | exact H1.cM.1 | exact H1.cV.1 | exact H1.cM.2.2 | exact H1.cT.1 | exact H2.c0 | exact H2.cO.1 | exact H2.cM.1 | exact H2.cV.1 | assumption) rfl ?_
    refine X.getf iX6_lean_59 (by first | exact H.c0 | exact H.cO.1 | exact H.cO.2.1 | exact H.cO.2.2.1 | exact H.cO.2.2.2.1 | exact H.cO.2.2.2.2.1 | exact H.cO.2.2.2.2.2 | exact H.cM.1 | exact H.cM.2.1 | exact H.cM.2.2 | exact H.cV.1 | exact H.cT.1 | exact H.cT.2 | exact H1.c0 | exact H1.cO.1 | exact H1.cM.1 | exact H1.cV.1 | exact H1.cM.2.2 | exact H1.cT.1 | exact H2.c0 | exact H2.cO.1 | exact H2.cM.1 | exact H2.cV.1 | assumption) rfl ?_
    refine X.callVv iX6_lean_62 (rem_C (d := d) H hk) (by first | exact H.c0 | exact H.cO.1 | exact H.cO.2.1 | exact H.cO.2.2.1 | exact H.cO.2.2.2.1 | exact H.cO.2.2.2.2.1 | exact H.cO.2.2.2.2.2 | exact H.cM.1 | exact H.cM.2.1 | exact H.cM.2.2 | exact H.cV.1 | exact H.cT.1 | exact H.cT.2 | exact H1.c0 | exact H1.cO.1 | exact H1.cM.1 | exact H1.cV.1 | exact H1.cM.2.2 | exact H1.cT.1 | exact H2.c0 | exact H2.cO.1 | exact H2.cM.1 | exact H2.cV.1 | assumption) rfl rfl (xfit _ _ _) (Nat.le_of_ble_eq_true rfl) ?_
    refine X.aload iX6_lean_65 rfl ?_
    refine X.getf iX6_lean_66 (by first | exact H.c0 | exact H.cO.1 | exact H.cO.2.1 | exact H.cO.2.2.1 | exact H.cO.2.2.2.1 | exact H.cO.2.2.2.2.1 | exact H.cO.2.2.2.2.2 | exact H.cM.1 | exact H.cM.2.1 | exact H.cM.2.2 | exact H.cV.1 | exact H.cT.1 | exact H.cT.2 | exact H1.c0 | exact H1.cO.1 | exact H1.cM.1 | exact H1.cV.1 | exact H1.cM.2.2 | exact H1.cT.1 | exact H2.c0 | exact H2.cO.1 | exact H2.cM.1 | exact H2.cV.1 | assumption) rfl ?_
    refine X.getf iX6_lean_69 (by first | exact H.c0 | exact H.cO.1 | exact H.cO.2.1 | exact H.cO.2.2.1 | exact H.cO.2.2.2.1 | exact H.cO.2.2.2.2.1 | exact H.cO.2.2.2.2.2 | exact H.cM.1 | exact H.cM.2.1 | exact H.cM.2.2 | exact H.cV.1 | exact H.cT.1 | exact H.cT.2 | exact H1.c0 | exact H1.cO.1 | exact H1.cM.1 | exact H1.cV.1 | exact H1.cM.2.2 | exact H1.cT.1 | exact H2.c0 | exact H2.cO.1 | exact H2.cM.1 | exact H2.cV.1 | assumption) rfl ?_
    refine X.getf iX6_lean_72 (by first | exact H.c0 | exact H.cO.1 | exact H.cO.2.1 | exact H.cO.2.2.1 | exact H.cO.2.2.2.1 | exact H.cO.2.2.2.2.1 | exact H.cO.2.2.2.2.2 | exact H.cM.1 | exact H.cM.2.1 | exact H.cM.2.2 | exact H.cV.1 | exact H.cT.1 | exact H.cT.2 | exact H1.c0 | exact H1.cO.1 | exact H1.cM.1 | exact H1.cV.1 | exact H1.cM.2.2 | exact H1.cT.1 | exact H2.c0 | exact H2.cO.1 | exact H2.cM.1 | exact H2.cV.1 | assumption) rfl ?_
    refine X.iload iX6_lean_75 rfl ?_
    refine X.iload iX6_lean_76 rfl ?_
    refine X.iastN iX6_lean_77 H1.cM.2.2 (show l < 4 by omega) (by decide) ?_
    refine X.heap (h' := setM (setH h 10 (remF V M)) 7 (Mo.mk M.fr (upd M.ln l t) M.got M.paid M.lost M.day M.draw)) (by rw [← sM_ln, IsM.set H1.cM]) ?_
    refine X.iload iX6_lean_78 rfl ?_
    exact X.iret iX6_lean_79 ⟨rfl, H1.afm _, fun i hi => (sMo _ _ (by omega)).trans (sHo (remF_ps H.p1) (by omega))⟩
  · exact absurd c45 e
theorem c_X6_shake_bad {d : Nat} {t : Int32} {nw : Nat → Int32} {h : XH} {O : Oc} {M : Mo} {V : Hi} {KO : Oc} {KM : Mo} {KV : Hi} {kp : Bool} {T : Ta} {S : Nat → Sh} (H : CI h O M V KO KM KV kp T S) (h1 : RO O nw) (hb : isT nw t = false) : MetI mX6_shake (d + 1, 0, 0) [.ref 0, .int t] h (-1) := by
  have HT := c_X3_hasTree (d := d) (t := t) H.cO
  rw [has_T h1] at HT
  refine MetX.of (by decide) rfl (Nat.le_of_ble_eq_true rfl) ?_
  refine X.aload iX6_shake_0 rfl ?_
  refine X.getf iX6_shake_1 (by first | exact H.c0 | exact H.cO.1 | exact H.cO.2.1 | exact H.cO.2.2.1 | exact H.cO.2.2.2.1 | exact H.cO.2.2.2.2.1 | exact H.cO.2.2.2.2.2 | exact H.cM.1 | exact H.cM.2.1 | exact H.cM.2.2 | exact H.cV.1 | exact H.cT.1 | exact H.cT.2 | exact H1.c0 | exact H1.cO.1 | exact H1.cM.1 | exact H1.cV.1 | exact H1.cM.2.2 | exact H1.cT.1 | exact H2.c0 | exact H2.cO.1 | exact H2.cM.1 | exact H2.cV.1 | assumption) rfl ?_
  refine X.iload iX6_shake_4 rfl ?_
  refine X.callVi iX6_shake_5 (HT) (by first | exact H.c0 | exact H.cO.1 | exact H.cO.2.1 | exact H.cO.2.2.1 | exact H.cO.2.2.2.1 | exact H.cO.2.2.2.2.1 | exact H.cO.2.2.2.2.2 | exact H.cM.1 | exact H.cM.2.1 | exact H.cM.2.2 | exact H.cV.1 | exact H.cT.1 | exact H.cT.2 | exact H1.c0 | exact H1.cO.1 | exact H1.cM.1 | exact H1.cV.1 | exact H1.cM.2.2 | exact H1.cT.1 | exact H2.c0 | exact H2.cO.1 | exact H2.cM.1 | exact H2.cV.1 | assumption) rfl rfl (xfit _ _ _) (Nat.le_of_ble_eq_true rfl) ?_
  refine X.ifneB iX6_shake_8 (fun c8 => ?_) (fun c8 => ?_)
  · exact absurd (c8.symm.trans hb) (by decide)
  · refine X.pushi iX6_shake_11 ?_
    exact X.iret iX6_shake_12 ⟨rfl, rfl⟩
theorem c_X6_shake_not {d t : Nat} {nw : Nat → Int32} {h : XH} {O : Oc} {M : Mo} {V : Hi} {KO : Oc} {KM : Mo} {KV : Hi} {kp : Bool} {T : Ta} {S : Nat → Sh} (H : CI h O M V KO KM KV kp T S) (h1 : RO O nw) (h2 : RM O.nT O.nL M nw) (ht : t < O.nT) (e : M.fr t = 0) : MetI mX6_shake (d + 1, 0, 0) [.ref 0, .int (nI t)] h (-2) := by
  have hT := h1.2.2.1
  have HT := c_X3_hasTree (d := d) (t := nI t) H.cO
  rw [has_T h1] at HT
  have eT := isT_of (RM.wf h1 h2) ht
  refine MetX.of (by decide) rfl (Nat.le_of_ble_eq_true rfl) ?_
  refine X.aload iX6_shake_0 rfl ?_
  refine X.getf iX6_shake_1 (by first | exact H.c0 | exact H.cO.1 | exact H.cO.2.1 | exact H.cO.2.2.1 | exact H.cO.2.2.2.1 | exact H.cO.2.2.2.2.1 | exact H.cO.2.2.2.2.2 | exact H.cM.1 | exact H.cM.2.1 | exact H.cM.2.2 | exact H.cV.1 | exact H.cT.1 | exact H.cT.2 | exact H1.c0 | exact H1.cO.1 | exact H1.cM.1 | exact H1.cV.1 | exact H1.cM.2.2 | exact H1.cT.1 | exact H2.c0 | exact H2.cO.1 | exact H2.cM.1 | exact H2.cV.1 | assumption) rfl ?_
  refine X.iload iX6_shake_4 rfl ?_
  refine X.callVi iX6_shake_5 (HT) (by first | exact H.c0 | exact H.cO.1 | exact H.cO.2.1 | exact H.cO.2.2.1 | exact H.cO.2.2.2.1 | exact H.cO.2.2.2.2.1 | exact H.cO.2.2.2.2.2 | exact H.cM.1 | exact H.cM.2.1 | exact H.cM.2.2 | exact H.cV.1 | exact H.cT.1 | exact H.cT.2 | exact H1.c0 | exact H1.cO.1 | exact H1.cM.1 | exact H1.cV.1 | exact H1.cM.2.2 | exact H1.cT.1 | exact H2.c0 | exact H2.cO.1 | exact H2.cM.1 | exact H2.cV.1 | assumption) rfl rfl (xfit _ _ _) (Nat.le_of_ble_eq_true rfl) ?_
  refine X.ifneB iX6_shake_8 (fun c8 => ?_) (fun c8 => ?_)
  · refine X.aload iX6_shake_13 rfl ?_
    refine X.getf iX6_shake_14 (by first | exact H.c0 | exact H.cO.1 | exact H.cO.2.1 | exact H.cO.2.2.1 | exact H.cO.2.2.2.1 | exact H.cO.2.2.2.2.1 | exact H.cO.2.2.2.2.2 | exact H.cM.1 | exact H.cM.2.1 | exact H.cM.2.2 | exact H.cV.1 | exact H.cT.1 | exact H.cT.2 | exact H1.c0 | exact H1.cO.1 | exact H1.cM.1 | exact H1.cV.1 | exact H1.cM.2.2 | exact H1.cT.1 | exact H2.c0 | exact H2.cO.1 | exact H2.cM.1 | exact H2.cV.1 | assumption) rfl ?_
    refine X.getf iX6_shake_17 (by first | exact H.c0 | exact H.cO.1 | exact H.cO.2.1 | exact H.cO.2.2.1 | exact H.cO.2.2.2.1 | exact H.cO.2.2.2.2.1 | exact H.cO.2.2.2.2.2 | exact H.cM.1 | exact H.cM.2.1 | exact H.cM.2.2 | exact H.cV.1 | exact H.cT.1 | exact H.cT.2 | exact H1.c0 | exact H1.cO.1 | exact H1.cM.1 | exact H1.cV.1 | exact H1.cM.2.2 | exact H1.cT.1 | exact H2.c0 | exact H2.cO.1 | exact H2.cM.1 | exact H2.cV.1 | assumption) rfl ?_
    refine X.getf iX6_shake_20 (by first | exact H.c0 | exact H.cO.1 | exact H.cO.2.1 | exact H.cO.2.2.1 | exact H.cO.2.2.2.1 | exact H.cO.2.2.2.2.1 | exact H.cO.2.2.2.2.2 | exact H.cM.1 | exact H.cM.2.1 | exact H.cM.2.2 | exact H.cV.1 | exact H.cT.1 | exact H.cT.2 | exact H1.c0 | exact H1.cO.1 | exact H1.cM.1 | exact H1.cV.1 | exact H1.cM.2.2 | exact H1.cT.1 | exact H2.c0 | exact H2.cO.1 | exact H2.cM.1 | exact H2.cV.1 | assumption) rfl ?_
    refine X.iload iX6_shake_23 rfl ?_
    refine X.ialdN iX6_shake_24 (by first | exact H.c0 | exact H.cO.1 | exact H.cO.2.1 | exact H.cO.2.2.1 | exact H.cO.2.2.2.1 | exact H.cO.2.2.2.2.1 | exact H.cO.2.2.2.2.2 | exact H.cM.1 | exact H.cM.2.1 | exact H.cM.2.2 | exact H.cV.1 | exact H.cT.1 | exact H.cT.2 | exact H1.c0 | exact H1.cO.1 | exact H1.cM.1 | exact H1.cV.1 | exact H1.cM.2.2 | exact H1.cT.1 | exact H2.c0 | exact H2.cO.1 | exact H2.cM.1 | exact H2.cV.1 | assumption) (by omega) (by decide) ?_
    refine X.ifne iX6_shake_25 (fun c25 => ?_) (fun c25 => ?_)
    · exact absurd e c25
    · refine X.pushi iX6_shake_28 ?_
      exact X.iret iX6_shake_30 ⟨rfl, rfl⟩
  · exact absurd (c8.symm.trans eT) (by decide)
theorem c_X6_shake {d t : Nat} {nw : Nat → Int32} {h : XH} {O : Oc} {M : Mo} {V : Hi} {KO : Oc} {KM : Mo} {KV : Hi} {kp : Bool} {T : Ta} {S : Nat → Sh} (H : CI h O M V KO KM KV kp T S) (h1 : RO O nw) (h2 : RM O.nT O.nL M nw) (hk : V.known ≤ 8) (ht : t < O.nT) (e : ¬ M.fr t = 0) : MetC mX6_shake (d + 3) [.ref 0, .int (nI t)] h (M.fr t / nI 2) O (shM M t) (remF V M) KO KM KV kp T S := by
  have hT := h1.2.2.1
  have HT := c_X3_hasTree (d := d + 2) (t := nI t) H.cO
  rw [has_T h1] at HT
  have eT := isT_of (RM.wf h1 h2) ht
  have H1 := H.rem
  have SH := c_X2_shakeOff (d := d + 2) (m := 7) (t := t) (h := setH h 10 (remF V M)) (M := M) (by omega)
  rw [IsM.set H1.cM] at SH
  refine MetX.of (by decide) rfl (Nat.le_of_ble_eq_true rfl) ?_
  refine X.aload iX6_shake_0 rfl ?_
  refine X.getf iX6_shake_1 (by first | exact H.c0 | exact H.cO.1 | exact H.cO.2.1 | exact H.cO.2.2.1 | exact H.cO.2.2.2.1 | exact H.cO.2.2.2.2.1 | exact H.cO.2.2.2.2.2 | exact H.cM.1 | exact H.cM.2.1 | exact H.cM.2.2 | exact H.cV.1 | exact H.cT.1 | exact H.cT.2 | exact H1.c0 | exact H1.cO.1 | exact H1.cM.1 | exact H1.cV.1 | exact H1.cM.2.2 | exact H1.cT.1 | exact H2.c0 | exact H2.cO.1 | exact H2.cM.1 | exact H2.cV.1 | assumption) rfl ?_
  refine X.iload iX6_shake_4 rfl ?_
  refine X.callVi iX6_shake_5 (HT) (by first | exact H.c0 | exact H.cO.1 | exact H.cO.2.1 | exact H.cO.2.2.1 | exact H.cO.2.2.2.1 | exact H.cO.2.2.2.2.1 | exact H.cO.2.2.2.2.2 | exact H.cM.1 | exact H.cM.2.1 | exact H.cM.2.2 | exact H.cV.1 | exact H.cT.1 | exact H.cT.2 | exact H1.c0 | exact H1.cO.1 | exact H1.cM.1 | exact H1.cV.1 | exact H1.cM.2.2 | exact H1.cT.1 | exact H2.c0 | exact H2.cO.1 | exact H2.cM.1 | exact H2.cV.1 | assumption) rfl rfl (xfit _ _ _) (Nat.le_of_ble_eq_true rfl) ?_
  refine X.ifneB iX6_shake_8 (fun c8 => ?_) (fun c8 => ?_)
  · refine X.aload iX6_shake_13 rfl ?_
    refine X.getf iX6_shake_14 (by first | exact H.c0 | exact H.cO.1 | exact H.cO.2.1 | exact H.cO.2.2.1 | exact H.cO.2.2.2.1 | exact H.cO.2.2.2.2.1 | exact H.cO.2.2.2.2.2 | exact H.cM.1 | exact H.cM.2.1 | exact H.cM.2.2 | exact H.cV.1 | exact H.cT.1 | exact H.cT.2 | exact H1.c0 | exact H1.cO.1 | exact H1.cM.1 | exact H1.cV.1 | exact H1.cM.2.2 | exact H1.cT.1 | exact H2.c0 | exact H2.cO.1 | exact H2.cM.1 | exact H2.cV.1 | assumption) rfl ?_
    refine X.getf iX6_shake_17 (by first | exact H.c0 | exact H.cO.1 | exact H.cO.2.1 | exact H.cO.2.2.1 | exact H.cO.2.2.2.1 | exact H.cO.2.2.2.2.1 | exact H.cO.2.2.2.2.2 | exact H.cM.1 | exact H.cM.2.1 | exact H.cM.2.2 | exact H.cV.1 | exact H.cT.1 | exact H.cT.2 | exact H1.c0 | exact H1.cO.1 | exact H1.cM.1 | exact H1.cV.1 | exact H1.cM.2.2 | exact H1.cT.1 | exact H2.c0 | exact H2.cO.1 | exact H2.cM.1 | exact H2.cV.1 | assumption) rfl ?_
    refine X.getf iX6_shake_20 (by first | exact H.c0 | exact H.cO.1 | exact H.cO.2.1 | exact H.cO.2.2.1 | exact H.cO.2.2.2.1 | exact H.cO.2.2.2.2.1 | exact H.cO.2.2.2.2.2 | exact H.cM.1 | exact H.cM.2.1 | exact H.cM.2.2 | exact H.cV.1 | exact H.cT.1 | exact H.cT.2 | exact H1.c0 | exact H1.cO.1 | exact H1.cM.1 | exact H1.cV.1 | exact H1.cM.2.2 | exact H1.cT.1 | exact H2.c0 | exact H2.cO.1 | exact H2.cM.1 | exact H2.cV.1 | assumption) rfl ?_
    refine X.iload iX6_shake_23 rfl ?_
    refine X.ialdN iX6_shake_24 (by first | exact H.c0 | exact H.cO.1 | exact H.cO.2.1 | exact H.cO.2.2.1 | exact H.cO.2.2.2.1 | exact H.cO.2.2.2.2.1 | exact H.cO.2.2.2.2.2 | exact H.cM.1 | exact H.cM.2.1 | exact H.cM.2.2 | exact H.cV.1 | exact H.cT.1 | exact H.cT.2 | exact H1.c0 | exact H1.cO.1 | exact H1.cM.1 | exact H1.cV.1 | exact H1.cM.2.2 | exact H1.cT.1 | exact H2.c0 | exact H2.cO.1 | exact H2.cM.1 | exact H2.cV.1 | assumption) (by omega) (by decide) ?_
    refine X.ifne iX6_shake_25 (fun c25 => ?_) (fun c25 => ?_)
    · refine X.aload iX6_shake_31 rfl ?_
      refine X.getf iX6_shake_32 (by first | exact H.c0 | exact H.cO.1 | exact H.cO.2.1 | exact H.cO.2.2.1 | exact H.cO.2.2.2.1 | exact H.cO.2.2.2.2.1 | exact H.cO.2.2.2.2.2 | exact H.cM.1 | exact H.cM.2.1 | exact H.cM.2.2 | exact H.cV.1 | exact H.cT.1 | exact H.cT.2 | exact H1.c0 | exact H1.cO.1 | exact H1.cM.1 | exact H1.cV.1 | exact H1.cM.2.2 | exact H1.cT.1 | exact H2.c0 | exact H2.cO.1 | exact H2.cM.1 | exact H2.cV.1 | assumption) rfl ?_
      refine X.aload iX6_shake_35 rfl ?_
      refine X.getf iX6_shake_36 (by first | exact H.c0 | exact H.cO.1 | exact H.cO.2.1 | exact H.cO.2.2.1 | exact H.cO.2.2.2.1 | exact H.cO.2.2.2.2.1 | exact H.cO.2.2.2.2.2 | exact H.cM.1 | exact H.cM.2.1 | exact H.cM.2.2 | exact H.cV.1 | exact H.cT.1 | exact H.cT.2 | exact H1.c0 | exact H1.cO.1 | exact H1.cM.1 | exact H1.cV.1 | exact H1.cM.2.2 | exact H1.cT.1 | exact H2.c0 | exact H2.cO.1 | exact H2.cM.1 | exact H2.cV.1 | assumption) rfl ?_
      refine X.getf iX6_shake_39 (by first | exact H.c0 | exact H.cO.1 | exact H.cO.2.1 | exact H.cO.2.2.1 | exact H.cO.2.2.2.1 | exact H.cO.2.2.2.2.1 | exact H.cO.2.2.2.2.2 | exact H.cM.1 | exact H.cM.2.1 | exact H.cM.2.2 | exact H.cV.1 | exact H.cT.1 | exact H.cT.2 | exact H1.c0 | exact H1.cO.1 | exact H1.cM.1 | exact H1.cV.1 | exact H1.cM.2.2 | exact H1.cT.1 | exact H2.c0 | exact H2.cO.1 | exact H2.cM.1 | exact H2.cV.1 | assumption) rfl ?_
      refine X.callVv iX6_shake_42 (rem_C (d := d) H hk) (by first | exact H.c0 | exact H.cO.1 | exact H.cO.2.1 | exact H.cO.2.2.1 | exact H.cO.2.2.2.1 | exact H.cO.2.2.2.2.1 | exact H.cO.2.2.2.2.2 | exact H.cM.1 | exact H.cM.2.1 | exact H.cM.2.2 | exact H.cV.1 | exact H.cT.1 | exact H.cT.2 | exact H1.c0 | exact H1.cO.1 | exact H1.cM.1 | exact H1.cV.1 | exact H1.cM.2.2 | exact H1.cT.1 | exact H2.c0 | exact H2.cO.1 | exact H2.cM.1 | exact H2.cV.1 | assumption) rfl rfl (xfit _ _ _) (Nat.le_of_ble_eq_true rfl) ?_
      refine X.aload iX6_shake_45 rfl ?_
      refine X.getf iX6_shake_46 (by first | exact H.c0 | exact H.cO.1 | exact H.cO.2.1 | exact H.cO.2.2.1 | exact H.cO.2.2.2.1 | exact H.cO.2.2.2.2.1 | exact H.cO.2.2.2.2.2 | exact H.cM.1 | exact H.cM.2.1 | exact H.cM.2.2 | exact H.cV.1 | exact H.cT.1 | exact H.cT.2 | exact H1.c0 | exact H1.cO.1 | exact H1.cM.1 | exact H1.cV.1 | exact H1.cM.2.2 | exact H1.cT.1 | exact H2.c0 | exact H2.cO.1 | exact H2.cM.1 | exact H2.cV.1 | assumption) rfl ?_
      refine X.getf iX6_shake_49 (by first | exact H.c0 | exact H.cO.1 | exact H.cO.2.1 | exact H.cO.2.2.1 | exact H.cO.2.2.2.1 | exact H.cO.2.2.2.2.1 | exact H.cO.2.2.2.2.2 | exact H.cM.1 | exact H.cM.2.1 | exact H.cM.2.2 | exact H.cV.1 | exact H.cT.1 | exact H.cT.2 | exact H1.c0 | exact H1.cO.1 | exact H1.cM.1 | exact H1.cV.1 | exact H1.cM.2.2 | exact H1.cT.1 | exact H2.c0 | exact H2.cO.1 | exact H2.cM.1 | exact H2.cV.1 | assumption) rfl ?_
      refine X.iload iX6_shake_52 rfl ?_
      refine X.callVi iX6_shake_53 (SH) (by first | exact H.c0 | exact H.cO.1 | exact H.cO.2.1 | exact H.cO.2.2.1 | exact H.cO.2.2.2.1 | exact H.cO.2.2.2.2.1 | exact H.cO.2.2.2.2.2 | exact H.cM.1 | exact H.cM.2.1 | exact H.cM.2.2 | exact H.cV.1 | exact H.cT.1 | exact H.cT.2 | exact H1.c0 | exact H1.cO.1 | exact H1.cM.1 | exact H1.cV.1 | exact H1.cM.2.2 | exact H1.cT.1 | exact H2.c0 | exact H2.cO.1 | exact H2.cM.1 | exact H2.cV.1 | assumption) rfl rfl (xfit _ _ _) (Nat.le_of_ble_eq_true rfl) ?_
      exact X.iret iX6_shake_56 ⟨rfl, H1.afm _, fun i hi => (sMo _ _ (by omega)).trans (sHo (remF_ps H.p1) (by omega))⟩
    · exact absurd c25 e
  · exact absurd (c8.symm.trans eT) (by decide)
theorem c_X6_undo_none {d : Nat} {h : XH} {O : Oc} {M : Mo} {V : Hi} {KO : Oc} {KM : Mo} {KV : Hi} {kp : Bool} {T : Ta} {S : Nat → Sh} (H : CI h O M V KO KM KV kp T S) (e : V.known = 0) : MetI mX6_undo (d + 3, 0, 0) [.ref 0] h (-4) := by
  have PB := c_X1_putBack (d := d) (H := 10) (m := 7) (h := h) H.p1 (by omega) H.cM (by omega)
  rw [if_pos e, if_pos e, IsH.set H.p1 H.cV] at PB
  refine MetX.of (by decide) rfl (Nat.le_of_ble_eq_true rfl) ?_
  refine X.aload iX6_undo_0 rfl ?_
  refine X.getf iX6_undo_1 (by first | exact H.c0 | exact H.cO.1 | exact H.cO.2.1 | exact H.cO.2.2.1 | exact H.cO.2.2.2.1 | exact H.cO.2.2.2.2.1 | exact H.cO.2.2.2.2.2 | exact H.cM.1 | exact H.cM.2.1 | exact H.cM.2.2 | exact H.cV.1 | exact H.cT.1 | exact H.cT.2 | exact H1.c0 | exact H1.cO.1 | exact H1.cM.1 | exact H1.cV.1 | exact H1.cM.2.2 | exact H1.cT.1 | exact H2.c0 | exact H2.cO.1 | exact H2.cM.1 | exact H2.cV.1 | assumption) rfl ?_
  refine X.aload iX6_undo_4 rfl ?_
  refine X.getf iX6_undo_5 (by first | exact H.c0 | exact H.cO.1 | exact H.cO.2.1 | exact H.cO.2.2.1 | exact H.cO.2.2.2.1 | exact H.cO.2.2.2.2.1 | exact H.cO.2.2.2.2.2 | exact H.cM.1 | exact H.cM.2.1 | exact H.cM.2.2 | exact H.cV.1 | exact H.cT.1 | exact H.cT.2 | exact H1.c0 | exact H1.cO.1 | exact H1.cM.1 | exact H1.cV.1 | exact H1.cM.2.2 | exact H1.cT.1 | exact H2.c0 | exact H2.cO.1 | exact H2.cM.1 | exact H2.cV.1 | assumption) rfl ?_
  refine X.getf iX6_undo_8 (by first | exact H.c0 | exact H.cO.1 | exact H.cO.2.1 | exact H.cO.2.2.1 | exact H.cO.2.2.2.1 | exact H.cO.2.2.2.2.1 | exact H.cO.2.2.2.2.2 | exact H.cM.1 | exact H.cM.2.1 | exact H.cM.2.2 | exact H.cV.1 | exact H.cT.1 | exact H.cT.2 | exact H1.c0 | exact H1.cO.1 | exact H1.cM.1 | exact H1.cV.1 | exact H1.cM.2.2 | exact H1.cT.1 | exact H2.c0 | exact H2.cO.1 | exact H2.cM.1 | exact H2.cV.1 | assumption) rfl ?_
  refine X.callVi iX6_undo_11 (PB) (by first | exact H.c0 | exact H.cO.1 | exact H.cO.2.1 | exact H.cO.2.2.1 | exact H.cO.2.2.2.1 | exact H.cO.2.2.2.2.1 | exact H.cO.2.2.2.2.2 | exact H.cM.1 | exact H.cM.2.1 | exact H.cM.2.2 | exact H.cV.1 | exact H.cT.1 | exact H.cT.2 | exact H1.c0 | exact H1.cO.1 | exact H1.cM.1 | exact H1.cV.1 | exact H1.cM.2.2 | exact H1.cT.1 | exact H2.c0 | exact H2.cO.1 | exact H2.cM.1 | exact H2.cV.1 | assumption) rfl rfl (xfit _ _ _) (Nat.le_of_ble_eq_true rfl) ?_
  exact X.iret iX6_undo_14 ⟨rfl, rfl⟩
theorem c_X6_undo {d : Nat} {h : XH} {O : Oc} {M : Mo} {V : Hi} {KO : Oc} {KM : Mo} {KV : Hi} {kp : Bool} {T : Ta} {S : Nat → Sh} (H : CI h O M V KO KM KV kp T S) (hk : V.known ≤ 8) (e : ¬ V.known = 0) : MetC mX6_undo (d + 3) [.ref 0] h (nI (V.known - 1)) O (cpM (V.Ms (V.known - 1)) M) (popH V) KO KM KV kp T S := by
  have PB := c_X1_putBack (d := d) (H := 10) (m := 7) (h := h) H.p1 hk H.cM (by omega)
  rw [if_neg e, if_neg e, IsH.set H.p1 H.cV] at PB
  have H1 := H.afh (V2 := popH V) H.p1
  refine MetX.of (by decide) rfl (Nat.le_of_ble_eq_true rfl) ?_
  refine X.aload iX6_undo_0 rfl ?_
  refine X.getf iX6_undo_1 (by first | exact H.c0 | exact H.cO.1 | exact H.cO.2.1 | exact H.cO.2.2.1 | exact H.cO.2.2.2.1 | exact H.cO.2.2.2.2.1 | exact H.cO.2.2.2.2.2 | exact H.cM.1 | exact H.cM.2.1 | exact H.cM.2.2 | exact H.cV.1 | exact H.cT.1 | exact H.cT.2 | exact H1.c0 | exact H1.cO.1 | exact H1.cM.1 | exact H1.cV.1 | exact H1.cM.2.2 | exact H1.cT.1 | exact H2.c0 | exact H2.cO.1 | exact H2.cM.1 | exact H2.cV.1 | assumption) rfl ?_
  refine X.aload iX6_undo_4 rfl ?_
  refine X.getf iX6_undo_5 (by first | exact H.c0 | exact H.cO.1 | exact H.cO.2.1 | exact H.cO.2.2.1 | exact H.cO.2.2.2.1 | exact H.cO.2.2.2.2.1 | exact H.cO.2.2.2.2.2 | exact H.cM.1 | exact H.cM.2.1 | exact H.cM.2.2 | exact H.cV.1 | exact H.cT.1 | exact H.cT.2 | exact H1.c0 | exact H1.cO.1 | exact H1.cM.1 | exact H1.cV.1 | exact H1.cM.2.2 | exact H1.cT.1 | exact H2.c0 | exact H2.cO.1 | exact H2.cM.1 | exact H2.cV.1 | assumption) rfl ?_
  refine X.getf iX6_undo_8 (by first | exact H.c0 | exact H.cO.1 | exact H.cO.2.1 | exact H.cO.2.2.1 | exact H.cO.2.2.2.1 | exact H.cO.2.2.2.2.1 | exact H.cO.2.2.2.2.2 | exact H.cM.1 | exact H.cM.2.1 | exact H.cM.2.2 | exact H.cV.1 | exact H.cT.1 | exact H.cT.2 | exact H1.c0 | exact H1.cO.1 | exact H1.cM.1 | exact H1.cV.1 | exact H1.cM.2.2 | exact H1.cT.1 | exact H2.c0 | exact H2.cO.1 | exact H2.cM.1 | exact H2.cV.1 | assumption) rfl ?_
  refine X.callVi iX6_undo_11 (PB) (by first | exact H.c0 | exact H.cO.1 | exact H.cO.2.1 | exact H.cO.2.2.1 | exact H.cO.2.2.2.1 | exact H.cO.2.2.2.2.1 | exact H.cO.2.2.2.2.2 | exact H.cM.1 | exact H.cM.2.1 | exact H.cM.2.2 | exact H.cV.1 | exact H.cT.1 | exact H.cT.2 | exact H1.c0 | exact H1.cO.1 | exact H1.cM.1 | exact H1.cV.1 | exact H1.cM.2.2 | exact H1.cT.1 | exact H2.c0 | exact H2.cO.1 | exact H2.cM.1 | exact H2.cV.1 | assumption) rfl rfl (xfit _ _ _) (Nat.le_of_ble_eq_true rfl) ?_
  exact X.iret iX6_undo_14 ⟨rfl, H1.afm _, fun i hi => (sMo _ _ (by omega)).trans (sHo (V := popH V) H.p1 (by omega))⟩
/-- days, with what is remembered -/
def dyV (O : Oc) (M : Mo) (V : Hi) : Nat → Hi
  | 0 => V
  | k + 1 => remF (dyV O M V k) (passN O M k)
theorem dyV_le {O : Oc} {M : Mo} {V : Hi} (hk : V.known ≤ 8) : ∀ k, (dyV O M V k).known ≤ 8
  | 0 => hk
  | k + 1 => remF_le (dyV_le hk k)
theorem c_X6_days_bad {d : Nat} {h : XH} {n : Int32} (hn : inI n (nI 1) (nI 40) = false) : MetI mX6_days (d + 1, 0, 0) [.ref 0, .int n] h (-1) := by
  refine MetX.of (by decide) rfl (Nat.le_of_ble_eq_true rfl) ?_
  refine X.iload iX6_days_0 rfl ?_
  refine X.pushi (v := nI 1) iX6_days_1 ?_
  refine X.pushi (v := nI 40) iX6_days_2 ?_
  refine X.callSi iX6_days_4 (c_X6_within d h n (nI 1) (nI 40)) rfl rfl (xfit _ _ _) (Nat.le_of_ble_eq_true rfl) ?_
  refine X.ifneB iX6_days_7 (fun c7 => ?_) (fun c7 => ?_)
  · exact absurd (c7.symm.trans hn) (by decide)
  · refine X.pushi iX6_days_10 ?_
    exact X.iret iX6_days_11 ⟨rfl, rfl⟩
theorem c_X6_days_full {d n dy : Nat} {h : XH} {O : Oc} {M : Mo} {V : Hi} {KO : Oc} {KM : Mo} {KV : Hi} {kp : Bool} {T : Ta} {S : Nat → Sh} (H : CI h O M V KO KM KV kp T S) (h1 : 1 ≤ n) (h2 : n ≤ 40) (hd : M.day = nI dy) (hy : dy ≤ 20000) (hf : 9999 < dy + n) : MetI mX6_days (d + 1, 0, 0) [.ref 0, .int (nI n)] h (-3) := by
  refine MetX.of (by decide) rfl (Nat.le_of_ble_eq_true rfl) ?_
  refine X.iload iX6_days_0 rfl ?_
  refine X.pushi (v := nI 1) iX6_days_1 ?_
  refine X.pushi (v := nI 40) iX6_days_2 ?_
  refine X.callSi iX6_days_4 (c_X6_within d h (nI n) (nI 1) (nI 40)) rfl rfl (xfit _ _ _) (Nat.le_of_ble_eq_true rfl) ?_
  refine X.ifneB iX6_days_7 (fun c7 => ?_) (fun c7 => ?_)
  · refine X.aload iX6_days_12 rfl ?_
    refine X.getf iX6_days_13 (by first | exact H.c0 | exact H.cO.1 | exact H.cO.2.1 | exact H.cO.2.2.1 | exact H.cO.2.2.2.1 | exact H.cO.2.2.2.2.1 | exact H.cO.2.2.2.2.2 | exact H.cM.1 | exact H.cM.2.1 | exact H.cM.2.2 | exact H.cV.1 | exact H.cT.1 | exact H.cT.2 | exact H1.c0 | exact H1.cO.1 | exact H1.cM.1 | exact H1.cV.1 | exact H1.cM.2.2 | exact H1.cT.1 | exact H2.c0 | exact H2.cO.1 | exact H2.cM.1 | exact H2.cV.1 | assumption) rfl ?_
    refine X.getf iX6_days_16 (by first | exact H.c0 | exact H.cO.1 | exact H.cO.2.1 | exact H.cO.2.2.1 | exact H.cO.2.2.2.1 | exact H.cO.2.2.2.2.1 | exact H.cO.2.2.2.2.2 | exact H.cM.1 | exact H.cM.2.1 | exact H.cM.2.2 | exact H.cV.1 | exact H.cT.1 | exact H.cT.2 | exact H1.c0 | exact H1.cO.1 | exact H1.cM.1 | exact H1.cV.1 | exact H1.cM.2.2 | exact H1.cT.1 | exact H2.c0 | exact H2.cO.1 | exact H2.cM.1 | exact H2.cV.1 | assumption) rfl ?_
    refine X.getf iX6_days_19 (by first | exact H.c0 | exact H.cO.1 | exact H.cO.2.1 | exact H.cO.2.2.1 | exact H.cO.2.2.2.1 | exact H.cO.2.2.2.2.1 | exact H.cO.2.2.2.2.2 | exact H.cM.1 | exact H.cM.2.1 | exact H.cM.2.2 | exact H.cV.1 | exact H.cT.1 | exact H.cT.2 | exact H1.c0 | exact H1.cO.1 | exact H1.cM.1 | exact H1.cV.1 | exact H1.cM.2.2 | exact H1.cT.1 | exact H2.c0 | exact H2.cO.1 | exact H2.cM.1 | exact H2.cV.1 | assumption) rfl ?_
    rw [hd]
    refine X.iload iX6_days_22 rfl ?_
    refine X.iadd iX6_days_23 ?_
    rw [nI_add]
    refine X.pushi (v := nI 9999) iX6_days_24 ?_
    refine X.cmle iX6_days_27 (fun c27 => ?_) (fun c27 => ?_)
    · exact absurd c27 (nI_ge hf (by omega))
    · refine X.pushi iX6_days_30 ?_
      exact X.iret iX6_days_32 ⟨rfl, rfl⟩
  · exact absurd (c7.symm.trans (inI_of h1 h2 (by decide))) (by decide)
theorem c_X6_days {d n dy : Nat} {h : XH} {O : Oc} {M : Mo} {V : Hi} {KO : Oc} {KM : Mo} {KV : Hi} {kp : Bool} {T : Ta} {S : Nat → Sh} (H : CI h O M V KO KM KV kp T S) (hki : KI O.ki O.nL) (hL : O.nL ≤ 4) (hT : O.nT ≤ 6) (hk : V.known ≤ 8) (h1 : 1 ≤ n) (h2 : n ≤ 40) (hd : M.day = nI dy) (hf : ¬ 9999 < dy + n) : MetC mX6_days (d + 5) [.ref 0, .int (nI n)] h ((passN O M n).got - M.got) O (passN O M n) (dyV O M V n) KO KM KV kp T S := by
  have P : ∀ k, k ≤ n → ∀ g, CI g O (passN O M k) (dyV O M V k) KO KM KV kp T S → (∀ i, 98 ≤ i → g i = h i) → X xT mX6_days (xR (d + 5, 0, 0)) (0, 0) 46 [some (.ref 0), some (.int (nI n)), some (.int M.got), some (.int (nI k))] [] g (fun v h' => v = some (.int ((passN O M n).got - M.got)) ∧ CI h' O (passN O M n) (dyV O M V n) KO KM KV kp T S ∧ ∀ i, 98 ≤ i → h' i = h i) := by
    refine xloop n ?_ ?_
    · intro g H1 hg
      refine X.iload iX6_days_46 rfl ?_
      refine X.iload iX6_days_47 rfl ?_
      refine X.cmge iX6_days_48 (fun c48 => ?_) (fun c48 => ?_)
      · refine X.aload iX6_days_85 rfl ?_
        refine X.getf iX6_days_86 (by first | exact H.c0 | exact H.cO.1 | exact H.cO.2.1 | exact H.cO.2.2.1 | exact H.cO.2.2.2.1 | exact H.cO.2.2.2.2.1 | exact H.cO.2.2.2.2.2 | exact H.cM.1 | exact H.cM.2.1 | exact H.cM.2.2 | exact H.cV.1 | exact H.cT.1 | exact H.cT.2 | exact H1.c0 | exact H1.cO.1 | exact H1.cM.1 | exact H1.cV.1 | exact H1.cM.2.2 | exact H1.cT.1 | exact H2.c0 | exact H2.cO.1 | exact H2.cM.1 | exact H2.cV.1 | assumption) rfl ?_
        refine X.getf iX6_days_89 (by first | exact H.c0 | exact H.cO.1 | exact H.cO.2.1 | exact H.cO.2.2.1 | exact H.cO.2.2.2.1 | exact H.cO.2.2.2.2.1 | exact H.cO.2.2.2.2.2 | exact H.cM.1 | exact H.cM.2.1 | exact H.cM.2.2 | exact H.cV.1 | exact H.cT.1 | exact H.cT.2 | exact H1.c0 | exact H1.cO.1 | exact H1.cM.1 | exact H1.cV.1 | exact H1.cM.2.2 | exact H1.cT.1 | exact H2.c0 | exact H2.cO.1 | exact H2.cM.1 | exact H2.cV.1 | assumption) rfl ?_
        refine X.getf iX6_days_92 (by first | exact H.c0 | exact H.cO.1 | exact H.cO.2.1 | exact H.cO.2.2.1 | exact H.cO.2.2.2.1 | exact H.cO.2.2.2.2.1 | exact H.cO.2.2.2.2.2 | exact H.cM.1 | exact H.cM.2.1 | exact H.cM.2.2 | exact H.cV.1 | exact H.cT.1 | exact H.cT.2 | exact H1.c0 | exact H1.cO.1 | exact H1.cM.1 | exact H1.cV.1 | exact H1.cM.2.2 | exact H1.cT.1 | exact H2.c0 | exact H2.cO.1 | exact H2.cM.1 | exact H2.cV.1 | assumption) rfl ?_
        refine X.iload iX6_days_95 rfl ?_
        refine X.isub iX6_days_96 ?_
        exact X.iret iX6_days_97 ⟨rfl, H1, hg⟩
      · exact absurd (Int32.le_refl _) c48
    · intro k hkn ih g H1 hg
      have H2 := H1.rem
      have PS' := remF_ps (N := passN O M k) H1.p1
      have PA := c_X3_pass (d := d) (o := 1) (m := 7) (h := setH g 10 (remF (dyV O M V k) (passN O M k))) (M := passN O M k) H2.cO (by omega) hki hL hT
      rw [IsM.set H2.cM] at PA
      refine X.iload iX6_days_46 rfl ?_
      refine X.iload iX6_days_47 rfl ?_
      refine X.cmge iX6_days_48 (fun c48 => ?_) (fun c48 => ?_)
      · exact absurd c48 (nI_ge hkn (by omega))
      · refine X.aload iX6_days_51 rfl ?_
        refine X.getf iX6_days_52 (by first | exact H.c0 | exact H.cO.1 | exact H.cO.2.1 | exact H.cO.2.2.1 | exact H.cO.2.2.2.1 | exact H.cO.2.2.2.2.1 | exact H.cO.2.2.2.2.2 | exact H.cM.1 | exact H.cM.2.1 | exact H.cM.2.2 | exact H.cV.1 | exact H.cT.1 | exact H.cT.2 | exact H1.c0 | exact H1.cO.1 | exact H1.cM.1 | exact H1.cV.1 | exact H1.cM.2.2 | exact H1.cT.1 | exact H2.c0 | exact H2.cO.1 | exact H2.cM.1 | exact H2.cV.1 | assumption) rfl ?_
        refine X.aload iX6_days_55 rfl ?_
        refine X.getf iX6_days_56 (by first | exact H.c0 | exact H.cO.1 | exact H.cO.2.1 | exact H.cO.2.2.1 | exact H.cO.2.2.2.1 | exact H.cO.2.2.2.2.1 | exact H.cO.2.2.2.2.2 | exact H.cM.1 | exact H.cM.2.1 | exact H.cM.2.2 | exact H.cV.1 | exact H.cT.1 | exact H.cT.2 | exact H1.c0 | exact H1.cO.1 | exact H1.cM.1 | exact H1.cV.1 | exact H1.cM.2.2 | exact H1.cT.1 | exact H2.c0 | exact H2.cO.1 | exact H2.cM.1 | exact H2.cV.1 | assumption) rfl ?_
        refine X.getf iX6_days_59 (by first | exact H.c0 | exact H.cO.1 | exact H.cO.2.1 | exact H.cO.2.2.1 | exact H.cO.2.2.2.1 | exact H.cO.2.2.2.2.1 | exact H.cO.2.2.2.2.2 | exact H.cM.1 | exact H.cM.2.1 | exact H.cM.2.2 | exact H.cV.1 | exact H.cT.1 | exact H.cT.2 | exact H1.c0 | exact H1.cO.1 | exact H1.cM.1 | exact H1.cV.1 | exact H1.cM.2.2 | exact H1.cT.1 | exact H2.c0 | exact H2.cO.1 | exact H2.cM.1 | exact H2.cV.1 | assumption) rfl ?_
        refine X.callVv iX6_days_62 (rem_C (d := d + 2) H1 (dyV_le hk k)) (by first | exact H.c0 | exact H.cO.1 | exact H.cO.2.1 | exact H.cO.2.2.1 | exact H.cO.2.2.2.1 | exact H.cO.2.2.2.2.1 | exact H.cO.2.2.2.2.2 | exact H.cM.1 | exact H.cM.2.1 | exact H.cM.2.2 | exact H.cV.1 | exact H.cT.1 | exact H.cT.2 | exact H1.c0 | exact H1.cO.1 | exact H1.cM.1 | exact H1.cV.1 | exact H1.cM.2.2 | exact H1.cT.1 | exact H2.c0 | exact H2.cO.1 | exact H2.cM.1 | exact H2.cV.1 | assumption) rfl rfl (xfit _ _ _) (Nat.le_of_ble_eq_true rfl) ?_
        refine X.aload iX6_days_65 rfl ?_
        refine X.getf iX6_days_66 (by first | exact H.c0 | exact H.cO.1 | exact H.cO.2.1 | exact H.cO.2.2.1 | exact H.cO.2.2.2.1 | exact H.cO.2.2.2.2.1 | exact H.cO.2.2.2.2.2 | exact H.cM.1 | exact H.cM.2.1 | exact H.cM.2.2 | exact H.cV.1 | exact H.cT.1 | exact H.cT.2 | exact H1.c0 | exact H1.cO.1 | exact H1.cM.1 | exact H1.cV.1 | exact H1.cM.2.2 | exact H1.cT.1 | exact H2.c0 | exact H2.cO.1 | exact H2.cM.1 | exact H2.cV.1 | assumption) rfl ?_
        refine X.aload iX6_days_69 rfl ?_
        refine X.getf iX6_days_70 (by first | exact H.c0 | exact H.cO.1 | exact H.cO.2.1 | exact H.cO.2.2.1 | exact H.cO.2.2.2.1 | exact H.cO.2.2.2.2.1 | exact H.cO.2.2.2.2.2 | exact H.cM.1 | exact H.cM.2.1 | exact H.cM.2.2 | exact H.cV.1 | exact H.cT.1 | exact H.cT.2 | exact H1.c0 | exact H1.cO.1 | exact H1.cM.1 | exact H1.cV.1 | exact H1.cM.2.2 | exact H1.cT.1 | exact H2.c0 | exact H2.cO.1 | exact H2.cM.1 | exact H2.cV.1 | assumption) rfl ?_
        refine X.getf iX6_days_73 (by first | exact H.c0 | exact H.cO.1 | exact H.cO.2.1 | exact H.cO.2.2.1 | exact H.cO.2.2.2.1 | exact H.cO.2.2.2.2.1 | exact H.cO.2.2.2.2.2 | exact H.cM.1 | exact H.cM.2.1 | exact H.cM.2.2 | exact H.cV.1 | exact H.cT.1 | exact H.cT.2 | exact H1.c0 | exact H1.cO.1 | exact H1.cM.1 | exact H1.cV.1 | exact H1.cM.2.2 | exact H1.cT.1 | exact H2.c0 | exact H2.cO.1 | exact H2.cM.1 | exact H2.cV.1 | assumption) rfl ?_
        refine X.callVv iX6_days_76 (PA) (by first | exact H.c0 | exact H.cO.1 | exact H.cO.2.1 | exact H.cO.2.2.1 | exact H.cO.2.2.2.1 | exact H.cO.2.2.2.2.1 | exact H.cO.2.2.2.2.2 | exact H.cM.1 | exact H.cM.2.1 | exact H.cM.2.2 | exact H.cV.1 | exact H.cT.1 | exact H.cT.2 | exact H1.c0 | exact H1.cO.1 | exact H1.cM.1 | exact H1.cV.1 | exact H1.cM.2.2 | exact H1.cT.1 | exact H2.c0 | exact H2.cO.1 | exact H2.cM.1 | exact H2.cV.1 | assumption) rfl rfl (xfit _ _ _) (Nat.le_of_ble_eq_true rfl) ?_
        refine X.iinc iX6_days_79 rfl rfl rfl ?_
        refine X.goto iX6_days_82 ?_
        rw [nI_1]
        exact ih _ (H2.afm _) (fun i hi => (sMo _ _ (by omega)).trans ((sHo PS' (by omega)).trans (hg i hi)))
  refine MetX.of (by decide) rfl (Nat.le_of_ble_eq_true rfl) ?_
  refine X.iload iX6_days_0 rfl ?_
  refine X.pushi (v := nI 1) iX6_days_1 ?_
  refine X.pushi (v := nI 40) iX6_days_2 ?_
  refine X.callSi iX6_days_4 (c_X6_within (d + 4) h (nI n) (nI 1) (nI 40)) rfl rfl (xfit _ _ _) (Nat.le_of_ble_eq_true rfl) ?_
  refine X.ifneB iX6_days_7 (fun c7 => ?_) (fun c7 => ?_)
  · refine X.aload iX6_days_12 rfl ?_
    refine X.getf iX6_days_13 (by first | exact H.c0 | exact H.cO.1 | exact H.cO.2.1 | exact H.cO.2.2.1 | exact H.cO.2.2.2.1 | exact H.cO.2.2.2.2.1 | exact H.cO.2.2.2.2.2 | exact H.cM.1 | exact H.cM.2.1 | exact H.cM.2.2 | exact H.cV.1 | exact H.cT.1 | exact H.cT.2 | exact H1.c0 | exact H1.cO.1 | exact H1.cM.1 | exact H1.cV.1 | exact H1.cM.2.2 | exact H1.cT.1 | exact H2.c0 | exact H2.cO.1 | exact H2.cM.1 | exact H2.cV.1 | assumption) rfl ?_
    refine X.getf iX6_days_16 (by first | exact H.c0 | exact H.cO.1 | exact H.cO.2.1 | exact H.cO.2.2.1 | exact H.cO.2.2.2.1 | exact H.cO.2.2.2.2.1 | exact H.cO.2.2.2.2.2 | exact H.cM.1 | exact H.cM.2.1 | exact H.cM.2.2 | exact H.cV.1 | exact H.cT.1 | exact H.cT.2 | exact H1.c0 | exact H1.cO.1 | exact H1.cM.1 | exact H1.cV.1 | exact H1.cM.2.2 | exact H1.cT.1 | exact H2.c0 | exact H2.cO.1 | exact H2.cM.1 | exact H2.cV.1 | assumption) rfl ?_
    refine X.getf iX6_days_19 (by first | exact H.c0 | exact H.cO.1 | exact H.cO.2.1 | exact H.cO.2.2.1 | exact H.cO.2.2.2.1 | exact H.cO.2.2.2.2.1 | exact H.cO.2.2.2.2.2 | exact H.cM.1 | exact H.cM.2.1 | exact H.cM.2.2 | exact H.cV.1 | exact H.cT.1 | exact H.cT.2 | exact H1.c0 | exact H1.cO.1 | exact H1.cM.1 | exact H1.cV.1 | exact H1.cM.2.2 | exact H1.cT.1 | exact H2.c0 | exact H2.cO.1 | exact H2.cM.1 | exact H2.cV.1 | assumption) rfl ?_
    rw [hd]
    refine X.iload iX6_days_22 rfl ?_
    refine X.iadd iX6_days_23 ?_
    rw [nI_add]
    refine X.pushi (v := nI 9999) iX6_days_24 ?_
    refine X.cmle iX6_days_27 (fun c27 => ?_) (fun c27 => ?_)
    · refine X.aload iX6_days_33 rfl ?_
      refine X.getf iX6_days_34 (by first | exact H.c0 | exact H.cO.1 | exact H.cO.2.1 | exact H.cO.2.2.1 | exact H.cO.2.2.2.1 | exact H.cO.2.2.2.2.1 | exact H.cO.2.2.2.2.2 | exact H.cM.1 | exact H.cM.2.1 | exact H.cM.2.2 | exact H.cV.1 | exact H.cT.1 | exact H.cT.2 | exact H1.c0 | exact H1.cO.1 | exact H1.cM.1 | exact H1.cV.1 | exact H1.cM.2.2 | exact H1.cT.1 | exact H2.c0 | exact H2.cO.1 | exact H2.cM.1 | exact H2.cV.1 | assumption) rfl ?_
      refine X.getf iX6_days_37 (by first | exact H.c0 | exact H.cO.1 | exact H.cO.2.1 | exact H.cO.2.2.1 | exact H.cO.2.2.2.1 | exact H.cO.2.2.2.2.1 | exact H.cO.2.2.2.2.2 | exact H.cM.1 | exact H.cM.2.1 | exact H.cM.2.2 | exact H.cV.1 | exact H.cT.1 | exact H.cT.2 | exact H1.c0 | exact H1.cO.1 | exact H1.cM.1 | exact H1.cV.1 | exact H1.cM.2.2 | exact H1.cT.1 | exact H2.c0 | exact H2.cO.1 | exact H2.cM.1 | exact H2.cV.1 | assumption) rfl ?_
      refine X.getf iX6_days_40 (by first | exact H.c0 | exact H.cO.1 | exact H.cO.2.1 | exact H.cO.2.2.1 | exact H.cO.2.2.2.1 | exact H.cO.2.2.2.2.1 | exact H.cO.2.2.2.2.2 | exact H.cM.1 | exact H.cM.2.1 | exact H.cM.2.2 | exact H.cV.1 | exact H.cT.1 | exact H.cT.2 | exact H1.c0 | exact H1.cO.1 | exact H1.cM.1 | exact H1.cV.1 | exact H1.cM.2.2 | exact H1.cT.1 | exact H2.c0 | exact H2.cO.1 | exact H2.cM.1 | exact H2.cV.1 | assumption) rfl ?_
      refine X.istore iX6_days_43 rfl rfl ?_
      refine X.pushi (v := nI 0) iX6_days_44 ?_
      refine X.istore iX6_days_45 rfl rfl ?_
      exact P 0 (Nat.zero_le _) h H (fun _ _ => rfl)
    · exact absurd (nI_le (show dy + n ≤ 9999 by omega) (by decide)) c27
  · exact absurd (c7.symm.trans (inI_of h1 h2 (by decide))) (by decide)
def drnM (O : Oc) (M : Mo) : Nat → Mo
  | 0 => M
  | k + 1 => passM O (gustM O (drnM O M k))
def drnV (O : Oc) (M : Mo) (V : Hi) : Nat → Hi
  | 0 => V
  | k + 1 => remF (drnV O M V k) (drnM O M k)
theorem drnV_le {O : Oc} {M : Mo} {V : Hi} (hk : V.known ≤ 8) : ∀ k, (drnV O M V k).known ≤ 8
  | 0 => hk
  | k + 1 => remF_le (drnV_le hk k)
theorem c_X6_drift_bad {d : Nat} {h : XH} {n : Int32} (hn : inI n (nI 1) (nI 40) = false) : MetI mX6_drift (d + 1, 0, 0) [.ref 0, .int n] h (-1) := by
  refine MetX.of (by decide) rfl (Nat.le_of_ble_eq_true rfl) ?_
  refine X.iload iX6_drift_0 rfl ?_
  refine X.pushi (v := nI 1) iX6_drift_1 ?_
  refine X.pushi (v := nI 40) iX6_drift_2 ?_
  refine X.callSi iX6_drift_4 (c_X6_within d h n (nI 1) (nI 40)) rfl rfl (xfit _ _ _) (Nat.le_of_ble_eq_true rfl) ?_
  refine X.ifneB iX6_drift_7 (fun c7 => ?_) (fun c7 => ?_)
  · exact absurd (c7.symm.trans hn) (by decide)
  · refine X.pushi iX6_drift_10 ?_
    exact X.iret iX6_drift_11 ⟨rfl, rfl⟩
theorem c_X6_drift_full {d n dy : Nat} {h : XH} {O : Oc} {M : Mo} {V : Hi} {KO : Oc} {KM : Mo} {KV : Hi} {kp : Bool} {T : Ta} {S : Nat → Sh} (H : CI h O M V KO KM KV kp T S) (h1 : 1 ≤ n) (h2 : n ≤ 40) (hd : M.day = nI dy) (hy : dy ≤ 20000) (hf : 9999 < dy + n) : MetI mX6_drift (d + 1, 0, 0) [.ref 0, .int (nI n)] h (-3) := by
  refine MetX.of (by decide) rfl (Nat.le_of_ble_eq_true rfl) ?_
  refine X.iload iX6_drift_0 rfl ?_
  refine X.pushi (v := nI 1) iX6_drift_1 ?_
  refine X.pushi (v := nI 40) iX6_drift_2 ?_
  refine X.callSi iX6_drift_4 (c_X6_within d h (nI n) (nI 1) (nI 40)) rfl rfl (xfit _ _ _) (Nat.le_of_ble_eq_true rfl) ?_
  refine X.ifneB iX6_drift_7 (fun c7 => ?_) (fun c7 => ?_)
  · refine X.aload iX6_drift_12 rfl ?_
    refine X.getf iX6_drift_13 (by first | exact H.c0 | exact H.cO.1 | exact H.cO.2.1 | exact H.cO.2.2.1 | exact H.cO.2.2.2.1 | exact H.cO.2.2.2.2.1 | exact H.cO.2.2.2.2.2 | exact H.cM.1 | exact H.cM.2.1 | exact H.cM.2.2 | exact H.cV.1 | exact H.cT.1 | exact H.cT.2 | exact H1.c0 | exact H1.cO.1 | exact H1.cM.1 | exact H1.cV.1 | exact H1.cM.2.2 | exact H1.cT.1 | exact H2.c0 | exact H2.cO.1 | exact H2.cM.1 | exact H2.cV.1 | assumption) rfl ?_
    refine X.getf iX6_drift_16 (by first | exact H.c0 | exact H.cO.1 | exact H.cO.2.1 | exact H.cO.2.2.1 | exact H.cO.2.2.2.1 | exact H.cO.2.2.2.2.1 | exact H.cO.2.2.2.2.2 | exact H.cM.1 | exact H.cM.2.1 | exact H.cM.2.2 | exact H.cV.1 | exact H.cT.1 | exact H.cT.2 | exact H1.c0 | exact H1.cO.1 | exact H1.cM.1 | exact H1.cV.1 | exact H1.cM.2.2 | exact H1.cT.1 | exact H2.c0 | exact H2.cO.1 | exact H2.cM.1 | exact H2.cV.1 | assumption) rfl ?_
    refine X.getf iX6_drift_19 (by first | exact H.c0 | exact H.cO.1 | exact H.cO.2.1 | exact H.cO.2.2.1 | exact H.cO.2.2.2.1 | exact H.cO.2.2.2.2.1 | exact H.cO.2.2.2.2.2 | exact H.cM.1 | exact H.cM.2.1 | exact H.cM.2.2 | exact H.cV.1 | exact H.cT.1 | exact H.cT.2 | exact H1.c0 | exact H1.cO.1 | exact H1.cM.1 | exact H1.cV.1 | exact H1.cM.2.2 | exact H1.cT.1 | exact H2.c0 | exact H2.cO.1 | exact H2.cM.1 | exact H2.cV.1 | assumption) rfl ?_
    rw [hd]
    refine X.iload iX6_drift_22 rfl ?_
    refine X.iadd iX6_drift_23 ?_
    rw [nI_add]
    refine X.pushi (v := nI 9999) iX6_drift_24 ?_
    refine X.cmle iX6_drift_27 (fun c27 => ?_) (fun c27 => ?_)
    · exact absurd c27 (nI_ge hf (by omega))
    · refine X.pushi iX6_drift_30 ?_
      exact X.iret iX6_drift_32 ⟨rfl, rfl⟩
  · exact absurd (c7.symm.trans (inI_of h1 h2 (by decide))) (by decide)
theorem c_X6_drift {d n dy : Nat} {h : XH} {O : Oc} {M : Mo} {V : Hi} {KO : Oc} {KM : Mo} {KV : Hi} {kp : Bool} {T : Ta} {S : Nat → Sh} (H : CI h O M V KO KM KV kp T S) (hki : KI O.ki O.nL) (hL : O.nL ≤ 4) (hT : O.nT ≤ 6) (hk : V.known ≤ 8) (h1 : 1 ≤ n) (h2 : n ≤ 40) (hd : M.day = nI dy) (hf : ¬ 9999 < dy + n) : MetC mX6_drift (d + 5) [.ref 0, .int (nI n)] h ((drnM O M n).lost - M.lost) O (drnM O M n) (drnV O M V n) KO KM KV kp T S := by
  have P : ∀ k, k ≤ n → ∀ g, CI g O (drnM O M k) (drnV O M V k) KO KM KV kp T S → (∀ i, 98 ≤ i → g i = h i) → X xT mX6_drift (xR (d + 5, 0, 0)) (0, 0) 46 [some (.ref 0), some (.int (nI n)), some (.int M.lost), some (.int (nI k))] [] g (fun v h' => v = some (.int ((drnM O M n).lost - M.lost)) ∧ CI h' O (drnM O M n) (drnV O M V n) KO KM KV kp T S ∧ ∀ i, 98 ≤ i → h' i = h i) := by
    refine xloop n ?_ ?_
    · intro g H1 hg
      refine X.iload iX6_drift_46 rfl ?_
      refine X.iload iX6_drift_47 rfl ?_
      refine X.cmge iX6_drift_48 (fun c48 => ?_) (fun c48 => ?_)
      · refine X.aload iX6_drift_92 rfl ?_
        refine X.getf iX6_drift_93 (by first | exact H.c0 | exact H.cO.1 | exact H.cO.2.1 | exact H.cO.2.2.1 | exact H.cO.2.2.2.1 | exact H.cO.2.2.2.2.1 | exact H.cO.2.2.2.2.2 | exact H.cM.1 | exact H.cM.2.1 | exact H.cM.2.2 | exact H.cV.1 | exact H.cT.1 | exact H.cT.2 | exact H1.c0 | exact H1.cO.1 | exact H1.cM.1 | exact H1.cV.1 | exact H1.cM.2.2 | exact H1.cT.1 | exact H2.c0 | exact H2.cO.1 | exact H2.cM.1 | exact H2.cV.1 | assumption) rfl ?_
        refine X.getf iX6_drift_96 (by first | exact H.c0 | exact H.cO.1 | exact H.cO.2.1 | exact H.cO.2.2.1 | exact H.cO.2.2.2.1 | exact H.cO.2.2.2.2.1 | exact H.cO.2.2.2.2.2 | exact H.cM.1 | exact H.cM.2.1 | exact H.cM.2.2 | exact H.cV.1 | exact H.cT.1 | exact H.cT.2 | exact H1.c0 | exact H1.cO.1 | exact H1.cM.1 | exact H1.cV.1 | exact H1.cM.2.2 | exact H1.cT.1 | exact H2.c0 | exact H2.cO.1 | exact H2.cM.1 | exact H2.cV.1 | assumption) rfl ?_
        refine X.getf iX6_drift_99 (by first | exact H.c0 | exact H.cO.1 | exact H.cO.2.1 | exact H.cO.2.2.1 | exact H.cO.2.2.2.1 | exact H.cO.2.2.2.2.1 | exact H.cO.2.2.2.2.2 | exact H.cM.1 | exact H.cM.2.1 | exact H.cM.2.2 | exact H.cV.1 | exact H.cT.1 | exact H.cT.2 | exact H1.c0 | exact H1.cO.1 | exact H1.cM.1 | exact H1.cV.1 | exact H1.cM.2.2 | exact H1.cT.1 | exact H2.c0 | exact H2.cO.1 | exact H2.cM.1 | exact H2.cV.1 | assumption) rfl ?_
        refine X.iload iX6_drift_102 rfl ?_
        refine X.isub iX6_drift_103 ?_
        exact X.iret iX6_drift_104 ⟨rfl, H1, hg⟩
      · exact absurd (Int32.le_refl _) c48
    · intro k hkn ih g H1 hg
      have H2 := H1.rem
      have PS' := remF_ps (N := drnM O M k) H1.p1
      have GU := c_X3_gust (d := d + 3) (o := 1) (h := setH g 10 (remF (drnV O M V k) (drnM O M k))) (M := drnM O M k) H2.cO hT
      rw [show setM (setH g 10 (remF (drnV O M V k) (drnM O M k))) (1 + 6) (drnM O M k) = setH g 10 (remF (drnV O M V k) (drnM O M k)) from IsM.set H2.cM] at GU
      have H3 := H2.afm (gustM O (drnM O M k))
      have PA := c_X3_pass (d := d) (o := 1) (m := 7) (h := setM (setH g 10 (remF (drnV O M V k) (drnM O M k))) 7 (gustM O (drnM O M k))) (M := gustM O (drnM O M k)) H3.cO (by omega) hki hL hT
      rw [IsM.set H3.cM] at PA
      refine X.iload iX6_drift_46 rfl ?_
      refine X.iload iX6_drift_47 rfl ?_
      refine X.cmge iX6_drift_48 (fun c48 => ?_) (fun c48 => ?_)
      · exact absurd c48 (nI_ge hkn (by omega))
      · refine X.aload iX6_drift_51 rfl ?_
        refine X.getf iX6_drift_52 (by first | exact H.c0 | exact H.cO.1 | exact H.cO.2.1 | exact H.cO.2.2.1 | exact H.cO.2.2.2.1 | exact H.cO.2.2.2.2.1 | exact H.cO.2.2.2.2.2 | exact H.cM.1 | exact H.cM.2.1 | exact H.cM.2.2 | exact H.cV.1 | exact H.cT.1 | exact H.cT.2 | exact H1.c0 | exact H1.cO.1 | exact H1.cM.1 | exact H1.cV.1 | exact H1.cM.2.2 | exact H1.cT.1 | exact H2.c0 | exact H2.cO.1 | exact H2.cM.1 | exact H2.cV.1 | assumption) rfl ?_
        refine X.aload iX6_drift_55 rfl ?_
        refine X.getf iX6_drift_56 (by first | exact H.c0 | exact H.cO.1 | exact H.cO.2.1 | exact H.cO.2.2.1 | exact H.cO.2.2.2.1 | exact H.cO.2.2.2.2.1 | exact H.cO.2.2.2.2.2 | exact H.cM.1 | exact H.cM.2.1 | exact H.cM.2.2 | exact H.cV.1 | exact H.cT.1 | exact H.cT.2 | exact H1.c0 | exact H1.cO.1 | exact H1.cM.1 | exact H1.cV.1 | exact H1.cM.2.2 | exact H1.cT.1 | exact H2.c0 | exact H2.cO.1 | exact H2.cM.1 | exact H2.cV.1 | assumption) rfl ?_
        refine X.getf iX6_drift_59 (by first | exact H.c0 | exact H.cO.1 | exact H.cO.2.1 | exact H.cO.2.2.1 | exact H.cO.2.2.2.1 | exact H.cO.2.2.2.2.1 | exact H.cO.2.2.2.2.2 | exact H.cM.1 | exact H.cM.2.1 | exact H.cM.2.2 | exact H.cV.1 | exact H.cT.1 | exact H.cT.2 | exact H1.c0 | exact H1.cO.1 | exact H1.cM.1 | exact H1.cV.1 | exact H1.cM.2.2 | exact H1.cT.1 | exact H2.c0 | exact H2.cO.1 | exact H2.cM.1 | exact H2.cV.1 | assumption) rfl ?_
        refine X.callVv iX6_drift_62 (rem_C (d := d + 2) H1 (drnV_le hk k)) (by first | exact H.c0 | exact H.cO.1 | exact H.cO.2.1 | exact H.cO.2.2.1 | exact H.cO.2.2.2.1 | exact H.cO.2.2.2.2.1 | exact H.cO.2.2.2.2.2 | exact H.cM.1 | exact H.cM.2.1 | exact H.cM.2.2 | exact H.cV.1 | exact H.cT.1 | exact H.cT.2 | exact H1.c0 | exact H1.cO.1 | exact H1.cM.1 | exact H1.cV.1 | exact H1.cM.2.2 | exact H1.cT.1 | exact H2.c0 | exact H2.cO.1 | exact H2.cM.1 | exact H2.cV.1 | assumption) rfl rfl (xfit _ _ _) (Nat.le_of_ble_eq_true rfl) ?_
        refine X.aload iX6_drift_65 rfl ?_
        refine X.getf iX6_drift_66 (by first | exact H.c0 | exact H.cO.1 | exact H.cO.2.1 | exact H.cO.2.2.1 | exact H.cO.2.2.2.1 | exact H.cO.2.2.2.2.1 | exact H.cO.2.2.2.2.2 | exact H.cM.1 | exact H.cM.2.1 | exact H.cM.2.2 | exact H.cV.1 | exact H.cT.1 | exact H.cT.2 | exact H1.c0 | exact H1.cO.1 | exact H1.cM.1 | exact H1.cV.1 | exact H1.cM.2.2 | exact H1.cT.1 | exact H2.c0 | exact H2.cO.1 | exact H2.cM.1 | exact H2.cV.1 | assumption) rfl ?_
        refine X.callVv iX6_drift_69 (GU) (by first | exact H.c0 | exact H.cO.1 | exact H.cO.2.1 | exact H.cO.2.2.1 | exact H.cO.2.2.2.1 | exact H.cO.2.2.2.2.1 | exact H.cO.2.2.2.2.2 | exact H.cM.1 | exact H.cM.2.1 | exact H.cM.2.2 | exact H.cV.1 | exact H.cT.1 | exact H.cT.2 | exact H1.c0 | exact H1.cO.1 | exact H1.cM.1 | exact H1.cV.1 | exact H1.cM.2.2 | exact H1.cT.1 | exact H2.c0 | exact H2.cO.1 | exact H2.cM.1 | exact H2.cV.1 | assumption) rfl rfl (xfit _ _ _) (Nat.le_of_ble_eq_true rfl) ?_
        refine X.aload iX6_drift_72 rfl ?_
        refine X.getf iX6_drift_73 H3.c0 rfl ?_
        refine X.aload iX6_drift_76 rfl ?_
        refine X.getf iX6_drift_77 H3.c0 rfl ?_
        refine X.getf iX6_drift_80 H3.cO.1 rfl ?_
        refine X.callVv iX6_drift_83 PA H3.cO.1 rfl rfl (xfit _ _ _) (Nat.le_of_ble_eq_true rfl) ?_
        refine X.iinc iX6_drift_86 rfl rfl rfl ?_
        refine X.goto iX6_drift_89 ?_
        rw [nI_1]
        exact ih _ (H3.afm _) (fun i hi => (sMo _ _ (by omega)).trans ((sMo _ _ (by omega)).trans ((sHo PS' (by omega)).trans (hg i hi))))
  refine MetX.of (by decide) rfl (Nat.le_of_ble_eq_true rfl) ?_
  refine X.iload iX6_drift_0 rfl ?_
  refine X.pushi (v := nI 1) iX6_drift_1 ?_
  refine X.pushi (v := nI 40) iX6_drift_2 ?_
  refine X.callSi iX6_drift_4 (c_X6_within (d + 4) h (nI n) (nI 1) (nI 40)) rfl rfl (xfit _ _ _) (Nat.le_of_ble_eq_true rfl) ?_
  refine X.ifneB iX6_drift_7 (fun c7 => ?_) (fun c7 => ?_)
  · refine X.aload iX6_drift_12 rfl ?_
    refine X.getf iX6_drift_13 (by first | exact H.c0 | exact H.cO.1 | exact H.cO.2.1 | exact H.cO.2.2.1 | exact H.cO.2.2.2.1 | exact H.cO.2.2.2.2.1 | exact H.cO.2.2.2.2.2 | exact H.cM.1 | exact H.cM.2.1 | exact H.cM.2.2 | exact H.cV.1 | exact H.cT.1 | exact H.cT.2 | exact H1.c0 | exact H1.cO.1 | exact H1.cM.1 | exact H1.cV.1 | exact H1.cM.2.2 | exact H1.cT.1 | exact H2.c0 | exact H2.cO.1 | exact H2.cM.1 | exact H2.cV.1 | assumption) rfl ?_
    refine X.getf iX6_drift_16 (by first | exact H.c0 | exact H.cO.1 | exact H.cO.2.1 | exact H.cO.2.2.1 | exact H.cO.2.2.2.1 | exact H.cO.2.2.2.2.1 | exact H.cO.2.2.2.2.2 | exact H.cM.1 | exact H.cM.2.1 | exact H.cM.2.2 | exact H.cV.1 | exact H.cT.1 | exact H.cT.2 | exact H1.c0 | exact H1.cO.1 | exact H1.cM.1 | exact H1.cV.1 | exact H1.cM.2.2 | exact H1.cT.1 | exact H2.c0 | exact H2.cO.1 | exact H2.cM.1 | exact H2.cV.1 | assumption) rfl ?_
    refine X.getf iX6_drift_19 (by first | exact H.c0 | exact H.cO.1 | exact H.cO.2.1 | exact H.cO.2.2.1 | exact H.cO.2.2.2.1 | exact H.cO.2.2.2.2.1 | exact H.cO.2.2.2.2.2 | exact H.cM.1 | exact H.cM.2.1 | exact H.cM.2.2 | exact H.cV.1 | exact H.cT.1 | exact H.cT.2 | exact H1.c0 | exact H1.cO.1 | exact H1.cM.1 | exact H1.cV.1 | exact H1.cM.2.2 | exact H1.cT.1 | exact H2.c0 | exact H2.cO.1 | exact H2.cM.1 | exact H2.cV.1 | assumption) rfl ?_
    rw [hd]
    refine X.iload iX6_drift_22 rfl ?_
    refine X.iadd iX6_drift_23 ?_
    rw [nI_add]
    refine X.pushi (v := nI 9999) iX6_drift_24 ?_
    refine X.cmle iX6_drift_27 (fun c27 => ?_) (fun c27 => ?_)
    · refine X.aload iX6_drift_33 rfl ?_
      refine X.getf iX6_drift_34 (by first | exact H.c0 | exact H.cO.1 | exact H.cO.2.1 | exact H.cO.2.2.1 | exact H.cO.2.2.2.1 | exact H.cO.2.2.2.2.1 | exact H.cO.2.2.2.2.2 | exact H.cM.1 | exact H.cM.2.1 | exact H.cM.2.2 | exact H.cV.1 | exact H.cT.1 | exact H.cT.2 | exact H1.c0 | exact H1.cO.1 | exact H1.cM.1 | exact H1.cV.1 | exact H1.cM.2.2 | exact H1.cT.1 | exact H2.c0 | exact H2.cO.1 | exact H2.cM.1 | exact H2.cV.1 | assumption) rfl ?_
      refine X.getf iX6_drift_37 (by first | exact H.c0 | exact H.cO.1 | exact H.cO.2.1 | exact H.cO.2.2.1 | exact H.cO.2.2.2.1 | exact H.cO.2.2.2.2.1 | exact H.cO.2.2.2.2.2 | exact H.cM.1 | exact H.cM.2.1 | exact H.cM.2.2 | exact H.cV.1 | exact H.cT.1 | exact H.cT.2 | exact H1.c0 | exact H1.cO.1 | exact H1.cM.1 | exact H1.cV.1 | exact H1.cM.2.2 | exact H1.cT.1 | exact H2.c0 | exact H2.cO.1 | exact H2.cM.1 | exact H2.cV.1 | assumption) rfl ?_
      refine X.getf iX6_drift_40 (by first | exact H.c0 | exact H.cO.1 | exact H.cO.2.1 | exact H.cO.2.2.1 | exact H.cO.2.2.2.1 | exact H.cO.2.2.2.2.1 | exact H.cO.2.2.2.2.2 | exact H.cM.1 | exact H.cM.2.1 | exact H.cM.2.2 | exact H.cV.1 | exact H.cT.1 | exact H.cT.2 | exact H1.c0 | exact H1.cO.1 | exact H1.cM.1 | exact H1.cV.1 | exact H1.cM.2.2 | exact H1.cT.1 | exact H2.c0 | exact H2.cO.1 | exact H2.cM.1 | exact H2.cV.1 | assumption) rfl ?_
      refine X.istore iX6_drift_43 rfl rfl ?_
      refine X.pushi (v := nI 0) iX6_drift_44 ?_
      refine X.istore iX6_drift_45 rfl rfl ?_
      exact P 0 (Nat.zero_le _) h H (fun _ _ => rfl)
    · exact absurd (nI_le (show dy + n ≤ 9999 by omega) (by decide)) c27
  · exact absurd (c7.symm.trans (inI_of h1 h2 (by decide))) (by decide)
