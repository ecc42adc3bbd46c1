/-! the reference: plans' entry, rounds -/
theorem c_X7_plan_bad {d nT nL : Nat} {n l : Int32} {h : XH} {nw tp ro rd ud as kp la sz : Nat → Int32} {it mv : Nat → Int64} {ty pl : Int32} {fa : Bool} {un ku : Int32} {ik : Bool} (wf : WF nw nT nL) (hb : inI n (nI 1) (nI 14) = false ∨ (¬ l = -4 ∧ isL nw l = false)) : MetI mX7_plan (d + 2, 0, 0) [.ref 98, .int n, .int l] (mh h nw tp ro rd ud as kp la sz it mv ty pl fa un ku ik) (-1) := by
  refine MetX.of (by decide) rfl (Nat.le_of_ble_eq_true rfl) ?_
  refine X.iload iX7_plan_0 rfl ?_
  refine X.i2l iX7_plan_1 ?_
  refine X.pushl iX7_plan_2 ?_
  refine X.pushl iX7_plan_3 ?_
  refine X.callSi iX7_plan_6 (c7_inI (d := d + 1) (a := nI 1) (b := nI 14) (by decide) (by decide)) rfl rfl (xfit _ _ _) (Nat.le_of_ble_eq_true rfl) ?_
  refine X.ifeqB iX7_plan_9 (fun c9 => ?_) (fun c9 => ?_)
  · refine X.pushi iX7_plan_26 ?_
    exact X.iret iX7_plan_27 ⟨rfl, rfl⟩
  · refine X.iload iX7_plan_12 rfl ?_
    refine X.pushi iX7_plan_13 ?_
    refine X.cmeq iX7_plan_15 (fun c15 => ?_) (fun c15 => ?_)
    · first
      | (exact absurd hb (by intro q; rcases q with q | q; exact absurd (c9.symm.trans q) (by decide); exact q.1 c15))
      | (exact absurd hb (by intro q; rcases q with q | q; exact absurd (c9.symm.trans q) (by decide); exact absurd (c23.symm.trans q.2) (by decide)))
    · refine X.aload iX7_plan_18 rfl ?_
      refine X.iload iX7_plan_19 rfl ?_
      refine X.callVi iX7_plan_20 (c_X7_isLadder (d := d) mh_MO) (by first | rfl | repeat (first | assumption | exact xup_eq _ _ _ | rw [xup_ne _ _ (by first | decide | omega | assumption)])) rfl rfl (xfit _ _ _) (Nat.le_of_ble_eq_true rfl) ?_
      refine X.ifneB iX7_plan_23 (fun c23 => ?_) (fun c23 => ?_)
      · first
        | (exact absurd hb (by intro q; rcases q with q | q; exact absurd (c9.symm.trans q) (by decide); exact q.1 c15))
        | (exact absurd hb (by intro q; rcases q with q | q; exact absurd (c9.symm.trans q) (by decide); exact absurd (c23.symm.trans q.2) (by decide)))
      · refine X.pushi iX7_plan_26 ?_
        exact X.iret iX7_plan_27 ⟨rfl, rfl⟩
theorem c_X7_plan_none {d nT nL : Nat} {n l : Int32} {h : XH} {nw tp ro rd ud as kp la sz : Nat → Int32} {it mv : Nat → Int64} {ty pl : Int32} {fa : Bool} {un ku : Int32} {ik : Bool} (wf : WF nw nT nL) (hn : inI n (nI 1) (nI 14) = true) (hl : l = -4 ∨ isL nw l = true) (hz : nT = 0 ∨ nL = 0) : MetI mX7_plan (d + 2, 0, 0) [.ref 98, .int n, .int l] (mh h nw tp ro rd ud as kp la sz it mv ty pl fa un ku ik) (-4) := by
  have hT := wf.2.2.1
  have hL := wf.2.2.2.1
  have fin : X xT mX7_plan (xR (d + 2, 0, 0)) (0, 0) 28 [some (.ref 98), some (.int n), some (.int l), none, none, none, none, none, none] [] (mh h nw tp ro rd ud as kp la sz it mv ty pl fa un ku ik) (fun v h' => v = some (.int (-4)) ∧ h' = (mh h nw tp ro rd ud as kp la sz it mv ty pl fa un ku ik)) := by
    refine X.aload iX7_plan_28 rfl ?_
    refine X.getf iX7_plan_29 (by first | rfl | repeat (first | assumption | exact xup_eq _ _ _ | rw [xup_ne _ _ (by first | decide | omega | assumption)])) rfl ?_
    refine X.pushi (v := nI 0) iX7_plan_32 ?_
    refine X.ialdN iX7_plan_33 (by first | rfl | repeat (first | assumption | exact xup_eq _ _ _ | rw [xup_ne _ _ (by first | decide | omega | assumption)])) (by omega) (by decide) ?_
    refine X.ifeq iX7_plan_34 (fun c34 => ?_) (fun c34 => ?_)
    · refine X.pushi iX7_plan_46 ?_
      exact X.iret iX7_plan_48 ⟨rfl, rfl⟩
    · refine X.aload iX7_plan_37 rfl ?_
      refine X.getf iX7_plan_38 (by first | rfl | repeat (first | assumption | exact xup_eq _ _ _ | rw [xup_ne _ _ (by first | decide | omega | assumption)])) rfl ?_
      refine X.pushi (v := nI 1) iX7_plan_41 ?_
      refine X.ialdN iX7_plan_42 (by first | rfl | repeat (first | assumption | exact xup_eq _ _ _ | rw [xup_ne _ _ (by first | decide | omega | assumption)])) (by omega) (by decide) ?_
      refine X.ifne iX7_plan_43 (fun c43 => ?_) (fun c43 => ?_)
      · exfalso
        rw [show nw 0 = nI nT from wf.1] at c34
        rw [show nw 1 = nI nL from wf.2.1] at c43
        rcases hz with q | q
        · exact c34 (by rw [q]; rfl)
        · exact c43 (by rw [q]; rfl)
      · refine X.pushi iX7_plan_46 ?_
        exact X.iret iX7_plan_48 ⟨rfl, rfl⟩
  refine MetX.of (by decide) rfl (Nat.le_of_ble_eq_true rfl) ?_
  refine X.iload iX7_plan_0 rfl ?_
  refine X.i2l iX7_plan_1 ?_
  refine X.pushl iX7_plan_2 ?_
  refine X.pushl iX7_plan_3 ?_
  refine X.callSi iX7_plan_6 (c7_inI (d := d + 1) (a := nI 1) (b := nI 14) (by decide) (by decide)) rfl rfl (xfit _ _ _) (Nat.le_of_ble_eq_true rfl) ?_
  refine X.ifeqB iX7_plan_9 (fun c9 => ?_) (fun c9 => ?_)
  · exact absurd (c9.symm.trans hn) (by decide)
  · refine X.iload iX7_plan_12 rfl ?_
    refine X.pushi iX7_plan_13 ?_
    refine X.cmeq iX7_plan_15 (fun c15 => ?_) (fun c15 => ?_)
    · exact fin
    · refine X.aload iX7_plan_18 rfl ?_
      refine X.iload iX7_plan_19 rfl ?_
      refine X.callVi iX7_plan_20 (c_X7_isLadder (d := d) mh_MO) (by first | rfl | repeat (first | assumption | exact xup_eq _ _ _ | rw [xup_ne _ _ (by first | decide | omega | assumption)])) rfl rfl (xfit _ _ _) (Nat.le_of_ble_eq_true rfl) ?_
      refine X.ifneB iX7_plan_23 (fun c23 => ?_) (fun c23 => ?_)
      · exact fin
      · exact absurd (c23.symm.trans (hl.resolve_left c15)) (by decide)
theorem c_X7_plan {d nT nL n : Nat} {l : Int32} {h : XH} {nw tp ro rd ud as kp la sz : Nat → Int32} {it mv : Nat → Int64} {ty pl : Int32} {fa : Bool} {un ku : Int32} {ik : Bool} (wf : WF nw nT nL) (h0 : 0 < nT) (h1 : 0 < nL) (hn1 : 1 ≤ n) (hn : n ≤ 14) (hl : l = -4 ∨ isL nw l = true) : MetH mX7_plan (d + 4, 0, 0) [.ref 98, .int (nI n), .int l] (mh h nw tp ro rd ud as kp la sz it mv ty pl fa un ku ik) (planF nw nT nL n l) (mh h nw tp ro rd ud (cp nw as 43) kp la sz it mv ty pl fa un ku ik) := by
  have hT := wf.2.2.1
  have hL := wf.2.2.2.1
  have fin : X xT mX7_plan (xR (d + 4, 0, 0)) (0, 0) 28 [some (.ref 98), some (.int (nI n)), some (.int l), none, none, none, none, none, none] [] (mh h nw tp ro rd ud as kp la sz it mv ty pl fa un ku ik) (fun v h' => v = some (.int (planF nw nT nL n l)) ∧ h' = (mh h nw tp ro rd ud (cp nw as 43) kp la sz it mv ty pl fa un ku ik)) := by
    refine X.aload iX7_plan_28 rfl ?_
    refine X.getf iX7_plan_29 (by first | rfl | repeat (first | assumption | exact xup_eq _ _ _ | rw [xup_ne _ _ (by first | decide | omega | assumption)])) rfl ?_
    refine X.pushi (v := nI 0) iX7_plan_32 ?_
    refine X.ialdN iX7_plan_33 (by first | rfl | repeat (first | assumption | exact xup_eq _ _ _ | rw [xup_ne _ _ (by first | decide | omega | assumption)])) (by omega) (by decide) ?_
    refine X.ifeq iX7_plan_34 (fun c34 => ?_) (fun c34 => ?_)
    · exact absurd (by rw [← show nw 0 = nI nT from wf.1]; exact c34) (nI_ne0 h0 (by omega))
    · refine X.aload iX7_plan_37 rfl ?_
      refine X.getf iX7_plan_38 (by first | rfl | repeat (first | assumption | exact xup_eq _ _ _ | rw [xup_ne _ _ (by first | decide | omega | assumption)])) rfl ?_
      refine X.pushi (v := nI 1) iX7_plan_41 ?_
      refine X.ialdN iX7_plan_42 (by first | rfl | repeat (first | assumption | exact xup_eq _ _ _ | rw [xup_ne _ _ (by first | decide | omega | assumption)])) (by omega) (by decide) ?_
      refine X.ifne iX7_plan_43 (fun c43 => ?_) (fun c43 => ?_)
      · refine X.aload iX7_plan_49 rfl ?_
        refine X.getf iX7_plan_50 (by first | rfl | repeat (first | assumption | exact xup_eq _ _ _ | rw [xup_ne _ _ (by first | decide | omega | assumption)])) rfl ?_
        refine X.pushi (v := nI 0) iX7_plan_53 ?_
        refine X.ialdN iX7_plan_54 (by first | rfl | repeat (first | assumption | exact xup_eq _ _ _ | rw [xup_ne _ _ (by first | decide | omega | assumption)])) (by omega) (by decide) ?_
        refine X.aload iX7_plan_55 rfl ?_
        refine X.getf iX7_plan_56 (by first | rfl | repeat (first | assumption | exact xup_eq _ _ _ | rw [xup_ne _ _ (by first | decide | omega | assumption)])) rfl ?_
        refine X.pushi (v := nI 1) iX7_plan_59 ?_
        refine X.ialdN iX7_plan_60 (by first | rfl | repeat (first | assumption | exact xup_eq _ _ _ | rw [xup_ne _ _ (by first | decide | omega | assumption)])) (by omega) (by decide) ?_
        rw [show nw 0 = nI nT from wf.1, show nw 1 = nI nL from wf.2.1]
        refine X.callSi iX7_plan_61 (c_X7_power (d + 3) _ nT nL (by omega)) rfl rfl (xfit _ _ _) (Nat.le_of_ble_eq_true rfl) ?_
        refine X.istore iX7_plan_64 rfl rfl ?_
        refine X.pushi (v := nI 0) iX7_plan_65 ?_
        refine X.istore iX7_plan_66 rfl rfl ?_
        refine X.pushi iX7_plan_68 ?_
        refine X.istore iX7_plan_69 rfl rfl ?_
        refine X.aload iX7_plan_71 rfl ?_
        refine X.callVv iX7_plan_72 (g_asides (d := d + 3)) (by first | rfl | repeat (first | assumption | exact xup_eq _ _ _ | rw [xup_ne _ _ (by first | decide | omega | assumption)])) rfl rfl (xfit _ _ _) (Nat.le_of_ble_eq_true rfl) ?_
        refine X.pushi (v := nI 0) iX7_plan_75 ?_
        refine X.istore iX7_plan_76 rfl rfl ?_
        exact plan_loop wf h0 hn (hl.imp id (fun q => isL_nat wf q)) 0 (Nat.zero_le _)
      · exact absurd (by rw [← show nw 1 = nI nL from wf.2.1]; exact c43) (nI_ne0 h1 (by omega))
  refine MetX.of (by decide) rfl (Nat.le_of_ble_eq_true rfl) ?_
  refine X.iload iX7_plan_0 rfl ?_
  refine X.i2l iX7_plan_1 ?_
  refine X.pushl iX7_plan_2 ?_
  refine X.pushl iX7_plan_3 ?_
  refine X.callSi iX7_plan_6 (c7_inI (d := d + 3) (a := nI 1) (b := nI 14) (by decide) (by decide)) rfl rfl (xfit _ _ _) (Nat.le_of_ble_eq_true rfl) ?_
  refine X.ifeqB iX7_plan_9 (fun c9 => ?_) (fun c9 => ?_)
  · exact absurd (c9.symm.trans (inI_of hn1 hn (by decide))) (by decide)
  · refine X.iload iX7_plan_12 rfl ?_
    refine X.pushi iX7_plan_13 ?_
    refine X.cmeq iX7_plan_15 (fun c15 => ?_) (fun c15 => ?_)
    · exact fin
    · refine X.aload iX7_plan_18 rfl ?_
      refine X.iload iX7_plan_19 rfl ?_
      refine X.callVi iX7_plan_20 (c_X7_isLadder (d := d + 2) mh_MO) (by first | rfl | repeat (first | assumption | exact xup_eq _ _ _ | rw [xup_ne _ _ (by first | decide | omega | assumption)])) rfl rfl (xfit _ _ _) (Nat.le_of_ble_eq_true rfl) ?_
      refine X.ifneB iX7_plan_23 (fun c23 => ?_) (fun c23 => ?_)
      · exact fin
      · exact absurd (c23.symm.trans (hl.resolve_left c15)) (by decide)
/-- one ladder goes from tree to tree by the digits of a way -/
def rdN (nw : Nat → Int32) (nT nL lad w n : Nat) : Nat → (Nat → Int32)
  | 0 => nw
  | j + 1 => gb (upd (rdN nw nT nL lad w n j) (27 + 4 * lad + 3) (nI (w / (nT ^ n / nT ^ (j + 1)) % nT))) nT nL (nI 0)
theorem rdN_wf {nw : Nat → Int32} {nT nL lad w n : Nat} (h0 : 0 < nT) (h : WF nw nT nL) : ∀ j, WF (rdN nw nT nL lad w n j) nT nL
  | 0 => h
  | j + 1 => gb_wf (wf_lean (rdN_wf h0 h j) (Nat.mod_lt _ h0)) _
theorem rdN_far {nw : Nat → Int32} {nT nL lad w n : Nat} (h0 : 0 < nT) (hl : lad < 4) (h : WF nw nT nL) : ∀ j, Far (rdN nw nT nL lad w n j) nw
  | 0 => Far.rf _
  | j + 1 => (gb_far (wf_lean (rdN_wf h0 h j) (Nat.mod_lt _ h0)) _).trans (((Far.rf _).upd (by omega) _).trans (rdN_far h0 hl h j))
def rdOwn (nw : Nat → Int32) (nT nL lad n w : Nat) : Int32 := rdN nw nT nL lad w n n 3 - nw 3
def roundF (nw : Nat → Int32) (nT nL lad n : Nat) (k : Int32) : Int32 :=
  if 0 ≤ k then (if k < nI n then nI ((bm (rdOwn nw nT nL lad n) (nT ^ n)).1 / nT ^ (n - 1 - k.toNatClampNeg) % nT) else -4) else (bm (rdOwn nw nT nL lad n) (nT ^ n)).2
theorem round_days {d nT nL lad n w : Nat} {L3 L5 L6 : Option Value} {Q : Option Value → XH → Prop} {h : XH} {nw tp ro rd ud as kp la sz : Nat → Int32} {it mv : Nat → Int64} {ty pl : Int32} {fa : Bool} {un ku : Int32} {ik : Bool} (wf : WF nw nT nL) (h0 : 0 < nT) (hl : lad < 4) (hn : n ≤ 4) (hw : w < nT ^ n) (K : X xT mX7_round (xR (d + 4, 0, 0)) (0, 0) 131 [some (.ref 98), some (.int (nI lad)), some (.int (nI n)), L3, some (.int (nI (nT ^ n))), L5, L6, some (.int (nI w)), none, none] [] (mh h (rdN nw nT nL lad w n n) tp ro rd ud as kp la sz it mv ty pl fa un ku ik) Q) : ∀ j, j ≤ n → X xT mX7_round (xR (d + 4, 0, 0)) (0, 0) 78 [some (.ref 98), some (.int (nI lad)), some (.int (nI n)), L3, some (.int (nI (nT ^ n))), L5, L6, some (.int (nI w)), some (.int (nI (nT ^ n / nT ^ j))), some (.int (nI j))] [] (mh h (rdN nw nT nL lad w n j) tp ro rd ud as kp la sz it mv ty pl fa un ku ik) Q := by
  have hT := wf.2.2.1
  have hp := pw_le hT hn
  refine xloop n ?_ ?_
  · refine X.iload iX7_round_78 rfl ?_
    refine X.iload iX7_round_80 rfl ?_
    refine X.cmge iX7_round_81 (fun c81 => ?_) (fun c81 => ?_)
    · exact X.unset 8 rfl (X.unset 9 rfl K)
    · exact absurd (Int32.le_refl _) c81
  · intro j hj ih
    have wk := rdN_wf (lad := lad) (w := w) (n := n) h0 wf j
    have e1 : nT ^ n / nT ^ j / nT = nT ^ n / nT ^ (j + 1) := by rw [Nat.div_div_eq_div_mul, Nat.pow_succ]
    have hu : 0 < nT ^ n / nT ^ (j + 1) := Nat.div_pos (Nat.pow_le_pow_right h0 hj) (Nat.pow_pos h0)
    have hu2 : nT ^ n / nT ^ (j + 1) ≤ nT ^ n := Nat.div_le_self _ _
    have hu3 : nT ^ n / nT ^ j ≤ nT ^ n := Nat.div_le_self _ _
    have w2 := wf_lean (l := lad) wk (Nat.mod_lt (w / (nT ^ n / nT ^ (j + 1))) h0)
    refine X.iload iX7_round_78 rfl ?_
    refine X.iload iX7_round_80 rfl ?_
    refine X.cmge iX7_round_81 (fun c81 => ?_) (fun c81 => ?_)
    · exact absurd c81 (nI_ge hj (by omega))
    · refine X.iload iX7_round_84 rfl ?_
      refine X.aload iX7_round_86 rfl ?_
      refine X.getf iX7_round_87 (by first | rfl | repeat (first | assumption | exact xup_eq _ _ _ | rw [xup_ne _ _ (by first | decide | omega | assumption)])) rfl ?_
      refine X.pushi (v := nI 0) iX7_round_90 ?_
      refine X.ialdN iX7_round_91 (by first | rfl | repeat (first | assumption | exact xup_eq _ _ _ | rw [xup_ne _ _ (by first | decide | omega | assumption)])) (by omega) (by decide) ?_
      rw [wk.1]
      refine X.idiv iX7_round_92 (nI_ne0 h0 (by omega)) ?_
      rw [pk_div (by omega) h0 (by omega), e1]
      refine X.istore iX7_round_93 rfl rfl ?_
      refine X.aload iX7_round_95 rfl ?_
      refine X.getf iX7_round_96 (by first | rfl | repeat (first | assumption | exact xup_eq _ _ _ | rw [xup_ne _ _ (by first | decide | omega | assumption)])) rfl ?_
      refine X.pushi (v := nI 27) iX7_round_99 ?_
      refine X.pushi (v := nI 4) iX7_round_101 ?_
      refine X.iload iX7_round_102 rfl ?_
      refine X.imul iX7_round_103 ?_
      refine X.iadd iX7_round_104 ?_
      refine X.pushi (v := nI 3) iX7_round_105 ?_
      refine X.iadd iX7_round_106 ?_
      refine X.iload iX7_round_107 rfl ?_
      refine X.iload iX7_round_109 rfl ?_
      refine X.idiv iX7_round_111 (nI_ne0 hu (by omega)) ?_
      rw [pk_div (by omega) hu (by omega)]
      refine X.aload iX7_round_112 rfl ?_
      refine X.getf iX7_round_113 rfl rfl ?_
      refine X.pushi (v := nI 0) iX7_round_116 ?_
      refine X.ialdN iX7_round_117 rfl (by omega) (by decide) ?_
      rw [wk.1]
      refine X.irem iX7_round_118 (nI_ne0 h0 (by omega)) ?_
      rw [pk_rem (Nat.lt_of_le_of_lt (Nat.div_le_self _ _) (by omega)) h0 (by omega)]
      refine X.iastE iX7_round_119 rfl (ixL lad 3) (by omega) (by decide) ?_
      rw [mh99]
      refine X.aload iX7_round_120 rfl ?_
      refine X.pushi (v := nI 0) iX7_round_121 ?_
      refine X.callVv iX7_round_122 (g_goesBy (d := d + 1) w2) rfl rfl rfl (xfit _ _ _) (Nat.le_of_ble_eq_true rfl) ?_
      refine X.iinc iX7_round_125 rfl rfl rfl ?_
      refine X.goto iX7_round_128 ?_
      rw [nI_1]
      exact ih
set_option maxHeartbeats 1000000 in
theorem round_more {d w : Nat} {L1 L2 L3 : Option Value} {x4 own : Int32} {bst : Nat × Int32} {g : Nat → Int32} {Q : Option Value → XH → Prop} {h : XH} {nw tp ro rd ud as kp la sz : Nat → Int32} {it mv : Nat → Int64} {ty pl : Int32} {fa : Bool} {un ku : Int32} {ik : Bool} (ih : X xT mX7_round (xR (d + 4, 0, 0)) (0, 0) 64 [some (.ref 98), L1, L2, L3, some (.int x4), some (.int (nI (if bst.2 < own then (w, own) else bst).1)), some (.int (if bst.2 < own then (w, own) else bst).2), some (.int (nI (w + 1))), none, none] [] (mh h nw tp ro rd ud (cp nw as 43) kp la sz it mv ty pl fa un ku ik) Q) (far : Far g nw) : X xT mX7_round (xR (d + 4, 0, 0)) (0, 0) 144 [some (.ref 98), L1, L2, L3, some (.int x4), some (.int (nI bst.1)), some (.int bst.2), some (.int (nI w)), none, none] [.int own] (mh h g tp ro rd ud (cp nw as 43) kp la sz it mv ty pl fa un ku ik) Q := by
  refine X.istore iX7_round_144 rfl rfl ?_
  refine X.iload iX7_round_146 rfl ?_
  refine X.iload iX7_round_148 rfl ?_
  refine X.cmle iX7_round_150 (fun c150 => ?_) (fun c150 => ?_)
  · refine X.iload iX7_round_158 rfl ?_
    refine X.istore iX7_round_160 rfl rfl ?_
    refine X.iload iX7_round_162 rfl ?_
    refine X.iload iX7_round_164 rfl ?_
    refine X.cmle iX7_round_166 (fun c166 => ?_) (fun c166 => ?_)
    · refine X.iload iX7_round_174 rfl ?_
      refine X.istore iX7_round_176 rfl rfl ?_
      refine X.aload iX7_round_178 rfl ?_
      refine X.callVv iX7_round_179 (g_backs (d := d + 3)) (by first | rfl | repeat (first | assumption | exact xup_eq _ _ _ | rw [xup_ne _ _ (by first | decide | omega | assumption)])) rfl rfl (xfit _ _ _) (Nat.le_of_ble_eq_true rfl) ?_
      rw [cp_back far]
      refine X.iinc iX7_round_182 rfl rfl rfl ?_
      refine X.goto iX7_round_185 ?_
      rw [nI_1]
      first
      | (rw [if_neg (Int32.not_lt.mpr c150)] at ih; first | exact X.unset 9 rfl ih | exact absurd c150 c166)
      | (rw [if_pos (Int32.not_le.mp c150)] at ih; first | exact X.unset 9 rfl ih | exact absurd c166 c150)
    · refine X.iload iX7_round_169 rfl ?_
      refine X.goto iX7_round_171 ?_
      refine X.istore iX7_round_176 rfl rfl ?_
      refine X.aload iX7_round_178 rfl ?_
      refine X.callVv iX7_round_179 (g_backs (d := d + 3)) (by first | rfl | repeat (first | assumption | exact xup_eq _ _ _ | rw [xup_ne _ _ (by first | decide | omega | assumption)])) rfl rfl (xfit _ _ _) (Nat.le_of_ble_eq_true rfl) ?_
      rw [cp_back far]
      refine X.iinc iX7_round_182 rfl rfl rfl ?_
      refine X.goto iX7_round_185 ?_
      rw [nI_1]
      first
      | (rw [if_neg (Int32.not_lt.mpr c150)] at ih; first | exact X.unset 9 rfl ih | exact absurd c150 c166)
      | (rw [if_pos (Int32.not_le.mp c150)] at ih; first | exact X.unset 9 rfl ih | exact absurd c166 c150)
  · refine X.iload iX7_round_153 rfl ?_
    refine X.goto iX7_round_155 ?_
    refine X.istore iX7_round_160 rfl rfl ?_
    refine X.iload iX7_round_162 rfl ?_
    refine X.iload iX7_round_164 rfl ?_
    refine X.cmle iX7_round_166 (fun c166 => ?_) (fun c166 => ?_)
    · refine X.iload iX7_round_174 rfl ?_
      refine X.istore iX7_round_176 rfl rfl ?_
      refine X.aload iX7_round_178 rfl ?_
      refine X.callVv iX7_round_179 (g_backs (d := d + 3)) (by first | rfl | repeat (first | assumption | exact xup_eq _ _ _ | rw [xup_ne _ _ (by first | decide | omega | assumption)])) rfl rfl (xfit _ _ _) (Nat.le_of_ble_eq_true rfl) ?_
      rw [cp_back far]
      refine X.iinc iX7_round_182 rfl rfl rfl ?_
      refine X.goto iX7_round_185 ?_
      rw [nI_1]
      first
      | (rw [if_neg (Int32.not_lt.mpr c150)] at ih; first | exact X.unset 9 rfl ih | exact absurd c150 c166)
      | (rw [if_pos (Int32.not_le.mp c150)] at ih; first | exact X.unset 9 rfl ih | exact absurd c166 c150)
    · refine X.iload iX7_round_169 rfl ?_
      refine X.goto iX7_round_171 ?_
      refine X.istore iX7_round_176 rfl rfl ?_
      refine X.aload iX7_round_178 rfl ?_
      refine X.callVv iX7_round_179 (g_backs (d := d + 3)) (by first | rfl | repeat (first | assumption | exact xup_eq _ _ _ | rw [xup_ne _ _ (by first | decide | omega | assumption)])) rfl rfl (xfit _ _ _) (Nat.le_of_ble_eq_true rfl) ?_
      rw [cp_back far]
      refine X.iinc iX7_round_182 rfl rfl rfl ?_
      refine X.goto iX7_round_185 ?_
      rw [nI_1]
      first
      | (rw [if_neg (Int32.not_lt.mpr c150)] at ih; first | exact X.unset 9 rfl ih | exact absurd c150 c166)
      | (rw [if_pos (Int32.not_le.mp c150)] at ih; first | exact X.unset 9 rfl ih | exact absurd c166 c150)
set_option maxHeartbeats 1000000 in
theorem round_loop {d nT nL lad n : Nat} {k : Int32} {h : XH} {nw tp ro rd ud as kp la sz : Nat → Int32} {it mv : Nat → Int64} {ty pl : Int32} {fa : Bool} {un ku : Int32} {ik : Bool} (wf : WF nw nT nL) (h0 : 0 < nT) (hl : lad < nL) (h1 : 1 ≤ n) (hn : n ≤ 4) : ∀ w, w ≤ nT ^ n → X xT mX7_round (xR (d + 4, 0, 0)) (0, 0) 64 [some (.ref 98), some (.int (nI lad)), some (.int (nI n)), some (.int k), some (.int (nI (nT ^ n))), some (.int (nI (bm (rdOwn nw nT nL lad n) w).1)), some (.int (bm (rdOwn nw nT nL lad n) w).2), some (.int (nI w)), none, none] [] (mh h nw tp ro rd ud (cp nw as 43) kp la sz it mv ty pl fa un ku ik) (fun v h' => v = some (.int (roundF nw nT nL lad n k)) ∧ h' = (mh h nw tp ro rd ud (cp nw as 43) kp la sz it mv ty pl fa un ku ik)) := by
  have hT := wf.2.2.1
  have hL := wf.2.2.2.1
  have hw := pw_le hT hn
  refine xloop _ ?_ ?_
  · have hb := bm_le (rdOwn nw nT nL lad n) (nT ^ n)
    refine X.iload iX7_round_64 rfl ?_
    refine X.iload iX7_round_66 rfl ?_
    refine X.cmge iX7_round_68 (fun c68 => ?_) (fun c68 => ?_)
    · refine X.iload iX7_round_188 rfl ?_
      refine X.ifge iX7_round_189 (fun c189 => ?_) (fun c189 => ?_)
      · refine X.iload iX7_round_197 rfl ?_
        refine X.iload iX7_round_198 rfl ?_
        refine X.cmlt iX7_round_199 (fun c199 => ?_) (fun c199 => ?_)
        · obtain ⟨k', hk', rfl⟩ : ∃ k', k' < n ∧ k = nI k' := by
            obtain ⟨q, hq, e⟩ := nI_of (Int32.not_lt.mpr c189)
            exact ⟨q, (nI_ltI hq (by omega)).mp (by rw [← e]; exact c199), e⟩
          have hp : 0 < nT ^ (n - 1 - k') := Nat.pow_pos h0
          have hp2 : nT ^ (n - 1 - k') ≤ 1296 := pw_le hT (by omega)
          have e : roundF nw nT nL lad n (nI k') = nI ((bm (rdOwn nw nT nL lad n) (nT ^ n)).1 / nT ^ (n - 1 - k') % nT) := by rw [roundF, if_pos c189, if_pos c199, nI_clamp (by omega)]
          rw [e]
          refine X.iload iX7_round_207 rfl ?_
          refine X.aload iX7_round_209 rfl ?_
          refine X.getf iX7_round_210 (by first | rfl | repeat (first | assumption | exact xup_eq _ _ _ | rw [xup_ne _ _ (by first | decide | omega | assumption)])) rfl ?_
          refine X.pushi (v := nI 0) iX7_round_213 ?_
          refine X.ialdN iX7_round_214 (by first | rfl | repeat (first | assumption | exact xup_eq _ _ _ | rw [xup_ne _ _ (by first | decide | omega | assumption)])) (by omega) (by decide) ?_
          refine X.iload iX7_round_215 rfl ?_
          refine X.pushi (v := nI 1) iX7_round_216 ?_
          refine X.isub iX7_round_217 ?_
          refine X.iload iX7_round_218 rfl ?_
          refine X.isub iX7_round_219 ?_
          rw [show nw 0 = nI nT from wf.1, pk_sub (by omega), pk_sub (by omega)]
          refine X.callSi iX7_round_220 (c_X7_power (d + 3) _ nT (n - 1 - k') (by omega)) rfl rfl (xfit _ _ _) (Nat.le_of_ble_eq_true rfl) ?_
          refine X.idiv iX7_round_223 (nI_ne0 hp (by omega)) ?_
          rw [pk_div (by omega) hp (by omega)]
          refine X.aload iX7_round_224 rfl ?_
          refine X.getf iX7_round_225 rfl rfl ?_
          refine X.pushi (v := nI 0) iX7_round_228 ?_
          refine X.ialdN iX7_round_229 rfl (by omega) (by decide) ?_
          rw [show nw 0 = nI nT from wf.1]
          refine X.irem iX7_round_230 (nI_ne0 h0 (by omega)) ?_
          rw [pk_rem (Nat.lt_of_le_of_lt (Nat.div_le_self _ _) (by omega)) h0 (by omega)]
          exact X.iret iX7_round_231 ⟨rfl, rfl⟩
        · refine X.pushi iX7_round_202 ?_
          refine X.goto iX7_round_204 ?_
          first
          | (refine X.iret iX7_round_231 ⟨?_, rfl⟩; rw [roundF, if_neg c189])
          | (refine X.iret iX7_round_231 ⟨?_, rfl⟩; rw [roundF, if_pos c189, if_neg c199])
      · refine X.iload iX7_round_192 rfl ?_
        refine X.goto iX7_round_194 ?_
        first
        | (refine X.iret iX7_round_231 ⟨?_, rfl⟩; rw [roundF, if_neg c189])
        | (refine X.iret iX7_round_231 ⟨?_, rfl⟩; rw [roundF, if_pos c189, if_neg c199])
    · exact absurd (Int32.le_refl _) c68
  · intro w hwk ih
    have far := rdN_far (lad := lad) (w := w) (n := n) h0 (by omega) wf n
    have eb : bm (rdOwn nw nT nL lad n) (w + 1) = if (bm (rdOwn nw nT nL lad n) w).2 < rdOwn nw nT nL lad n w then (w, rdOwn nw nT nL lad n w) else bm (rdOwn nw nT nL lad n) w := rfl
    rw [eb] at ih
    refine X.iload iX7_round_64 rfl ?_
    refine X.iload iX7_round_66 rfl ?_
    refine X.cmge iX7_round_68 (fun c68 => ?_) (fun c68 => ?_)
    · exact absurd c68 (nI_ge hwk (by omega))
    · refine X.iload iX7_round_71 rfl ?_
      refine X.istore iX7_round_73 rfl rfl ?_
      refine X.pushi (v := nI 0) iX7_round_75 ?_
      refine X.istore iX7_round_76 rfl rfl ?_
      have e0 : nT ^ n / nT ^ 0 = nT ^ n := by rw [Nat.pow_zero, Nat.div_one]
      have rd := round_days (d := d) (nw := nw) (tp := tp) (ro := ro) (rd := rd) (ud := ud) (as := cp nw as 43) (kp := kp) (la := la) (sz := sz) (it := it) (mv := mv) (ty := ty) (pl := pl) (fa := fa) (un := un) (ku := ku) (ik := ik) (h := h) (L3 := some (.int k)) (L5 := some (.int (nI (bm (rdOwn nw nT nL lad n) w).1))) (L6 := some (.int (bm (rdOwn nw nT nL lad n) w).2)) (Q := fun v h' => v = some (.int (roundF nw nT nL lad n k)) ∧ h' = (mh h nw tp ro rd ud (cp nw as 43) kp la sz it mv ty pl fa un ku ik)) wf h0 (show lad < 4 by omega) hn hwk ?_ 0 (Nat.zero_le _)
      · rw [e0] at rd
        exact rd
      · refine X.aload iX7_round_131 rfl ?_
        refine X.getf iX7_round_132 rfl rfl ?_
        refine X.pushi (v := nI 3) iX7_round_135 ?_
        refine X.ialdN iX7_round_136 rfl (by omega) (by decide) ?_
        refine X.aload iX7_round_137 rfl ?_
        refine X.getf iX7_round_138 rfl rfl ?_
        refine X.pushi (v := nI 3) iX7_round_141 ?_
        refine X.ialdN iX7_round_142 rfl (by omega) (by decide) ?_
        refine X.isub iX7_round_143 ?_
        exact round_more (own := rdOwn nw nT nL lad n w) ih far
theorem c_X7_round_bad {d nT nL : Nat} {l n k : Int32} {h : XH} {nw tp ro rd ud as kp la sz : Nat → Int32} {it mv : Nat → Int64} {ty pl : Int32} {fa : Bool} {un ku : Int32} {ik : Bool} (wf : WF nw nT nL) (hb : isL nw l = false ∨ inI n (nI 1) (nI 4) = false ∨ k < -1) : MetI mX7_round (d + 2, 0, 0) [.ref 98, .int l, .int n, .int k] (mh h nw tp ro rd ud as kp la sz it mv ty pl fa un ku ik) (-1) := by
  refine MetX.of (by decide) rfl (Nat.le_of_ble_eq_true rfl) ?_
  refine X.aload iX7_round_0 rfl ?_
  refine X.iload iX7_round_1 rfl ?_
  refine X.callVi iX7_round_2 (c_X7_isLadder (d := d) mh_MO) (by first | rfl | repeat (first | assumption | exact xup_eq _ _ _ | rw [xup_ne _ _ (by first | decide | omega | assumption)])) rfl rfl (xfit _ _ _) (Nat.le_of_ble_eq_true rfl) ?_
  refine X.ifeqB iX7_round_5 (fun c5 => ?_) (fun c5 => ?_)
  · refine X.pushi iX7_round_25 ?_
    exact X.iret iX7_round_26 ⟨rfl, rfl⟩
  · refine X.iload iX7_round_8 rfl ?_
    refine X.i2l iX7_round_9 ?_
    refine X.pushl iX7_round_10 ?_
    refine X.pushl iX7_round_11 ?_
    refine X.callSi iX7_round_14 (c7_inI (d := d + 1) (a := nI 1) (b := nI 4) (by decide) (by decide)) rfl rfl (xfit _ _ _) (Nat.le_of_ble_eq_true rfl) ?_
    refine X.ifeqB iX7_round_17 (fun c17 => ?_) (fun c17 => ?_)
    · refine X.pushi iX7_round_25 ?_
      exact X.iret iX7_round_26 ⟨rfl, rfl⟩
    · refine X.iload iX7_round_20 rfl ?_
      refine X.pushi iX7_round_21 ?_
      refine X.cmge iX7_round_22 (fun c22 => ?_) (fun c22 => ?_)
      · exact absurd hb (by intro q; rcases q with q | q | q; exact absurd (c5.symm.trans q) (by decide); exact absurd (c17.symm.trans q) (by decide); exact Int32.not_le.mpr q c22)
      · refine X.pushi iX7_round_25 ?_
        exact X.iret iX7_round_26 ⟨rfl, rfl⟩
theorem c_X7_round_none {d nT nL : Nat} {l n k : Int32} {h : XH} {nw tp ro rd ud as kp la sz : Nat → Int32} {it mv : Nat → Int64} {ty pl : Int32} {fa : Bool} {un ku : Int32} {ik : Bool} (wf : WF nw nT nL) (hl : isL nw l = true) (hn : inI n (nI 1) (nI 4) = true) (hk : ¬ k < -1) (hz : nT = 0) : MetI mX7_round (d + 2, 0, 0) [.ref 98, .int l, .int n, .int k] (mh h nw tp ro rd ud as kp la sz it mv ty pl fa un ku ik) (-4) := by
  refine MetX.of (by decide) rfl (Nat.le_of_ble_eq_true rfl) ?_
  refine X.aload iX7_round_0 rfl ?_
  refine X.iload iX7_round_1 rfl ?_
  refine X.callVi iX7_round_2 (c_X7_isLadder (d := d) mh_MO) (by first | rfl | repeat (first | assumption | exact xup_eq _ _ _ | rw [xup_ne _ _ (by first | decide | omega | assumption)])) rfl rfl (xfit _ _ _) (Nat.le_of_ble_eq_true rfl) ?_
  refine X.ifeqB iX7_round_5 (fun c5 => ?_) (fun c5 => ?_)
  · exact absurd (c5.symm.trans hl) (by decide)
  · refine X.iload iX7_round_8 rfl ?_
    refine X.i2l iX7_round_9 ?_
    refine X.pushl iX7_round_10 ?_
    refine X.pushl iX7_round_11 ?_
    refine X.callSi iX7_round_14 (c7_inI (d := d + 1) (a := nI 1) (b := nI 4) (by decide) (by decide)) rfl rfl (xfit _ _ _) (Nat.le_of_ble_eq_true rfl) ?_
    refine X.ifeqB iX7_round_17 (fun c17 => ?_) (fun c17 => ?_)
    · exact absurd (c17.symm.trans hn) (by decide)
    · refine X.iload iX7_round_20 rfl ?_
      refine X.pushi iX7_round_21 ?_
      refine X.cmge iX7_round_22 (fun c22 => ?_) (fun c22 => ?_)
      · refine X.aload iX7_round_27 rfl ?_
        refine X.getf iX7_round_28 (by first | rfl | repeat (first | assumption | exact xup_eq _ _ _ | rw [xup_ne _ _ (by first | decide | omega | assumption)])) rfl ?_
        refine X.pushi (v := nI 0) iX7_round_31 ?_
        refine X.ialdN iX7_round_32 (by first | rfl | repeat (first | assumption | exact xup_eq _ _ _ | rw [xup_ne _ _ (by first | decide | omega | assumption)])) (by omega) (by decide) ?_
        refine X.ifne iX7_round_33 (fun c33 => ?_) (fun c33 => ?_)
        · exact absurd (by rw [show nw 0 = nI nT from wf.1, hz]; rfl) c33
        · refine X.pushi iX7_round_36 ?_
          exact X.iret iX7_round_38 ⟨rfl, rfl⟩
      · exact absurd (Int32.not_lt.mp hk) c22
theorem c_X7_round {d nT nL l n : Nat} {k : Int32} {h : XH} {nw tp ro rd ud as kp la sz : Nat → Int32} {it mv : Nat → Int64} {ty pl : Int32} {fa : Bool} {un ku : Int32} {ik : Bool} (wf : WF nw nT nL) (h0 : 0 < nT) (hl : l < nL) (hn1 : 1 ≤ n) (hn : n ≤ 4) (hk : ¬ k < -1) : MetH mX7_round (d + 4, 0, 0) [.ref 98, .int (nI l), .int (nI n), .int k] (mh h nw tp ro rd ud as kp la sz it mv ty pl fa un ku ik) (roundF nw nT nL l n k) (mh h nw tp ro rd ud (cp nw as 43) kp la sz it mv ty pl fa un ku ik) := by
  have hT := wf.2.2.1
  refine MetX.of (by decide) rfl (Nat.le_of_ble_eq_true rfl) ?_
  refine X.aload iX7_round_0 rfl ?_
  refine X.iload iX7_round_1 rfl ?_
  refine X.callVi iX7_round_2 (c_X7_isLadder (d := d + 2) mh_MO) (by first | rfl | repeat (first | assumption | exact xup_eq _ _ _ | rw [xup_ne _ _ (by first | decide | omega | assumption)])) rfl rfl (xfit _ _ _) (Nat.le_of_ble_eq_true rfl) ?_
  refine X.ifeqB iX7_round_5 (fun c5 => ?_) (fun c5 => ?_)
  · exact absurd (c5.symm.trans (isL_of wf hl)) (by decide)
  · refine X.iload iX7_round_8 rfl ?_
    refine X.i2l iX7_round_9 ?_
    refine X.pushl iX7_round_10 ?_
    refine X.pushl iX7_round_11 ?_
    refine X.callSi iX7_round_14 (c7_inI (d := d + 3) (a := nI 1) (b := nI 4) (by decide) (by decide)) rfl rfl (xfit _ _ _) (Nat.le_of_ble_eq_true rfl) ?_
    refine X.ifeqB iX7_round_17 (fun c17 => ?_) (fun c17 => ?_)
    · exact absurd (c17.symm.trans (inI_of hn1 hn (by decide))) (by decide)
    · refine X.iload iX7_round_20 rfl ?_
      refine X.pushi iX7_round_21 ?_
      refine X.cmge iX7_round_22 (fun c22 => ?_) (fun c22 => ?_)
      · refine X.aload iX7_round_27 rfl ?_
        refine X.getf iX7_round_28 (by first | rfl | repeat (first | assumption | exact xup_eq _ _ _ | rw [xup_ne _ _ (by first | decide | omega | assumption)])) rfl ?_
        refine X.pushi (v := nI 0) iX7_round_31 ?_
        refine X.ialdN iX7_round_32 (by first | rfl | repeat (first | assumption | exact xup_eq _ _ _ | rw [xup_ne _ _ (by first | decide | omega | assumption)])) (by omega) (by decide) ?_
        refine X.ifne iX7_round_33 (fun c33 => ?_) (fun c33 => ?_)
        · refine X.aload iX7_round_39 rfl ?_
          refine X.getf iX7_round_40 (by first | rfl | repeat (first | assumption | exact xup_eq _ _ _ | rw [xup_ne _ _ (by first | decide | omega | assumption)])) rfl ?_
          refine X.pushi (v := nI 0) iX7_round_43 ?_
          refine X.ialdN iX7_round_44 (by first | rfl | repeat (first | assumption | exact xup_eq _ _ _ | rw [xup_ne _ _ (by first | decide | omega | assumption)])) (by omega) (by decide) ?_
          refine X.iload iX7_round_45 rfl ?_
          rw [show nw 0 = nI nT from wf.1]
          refine X.callSi iX7_round_46 (c_X7_power (d + 3) _ nT n (by omega)) rfl rfl (xfit _ _ _) (Nat.le_of_ble_eq_true rfl) ?_
          refine X.istore iX7_round_49 rfl rfl ?_
          refine X.pushi (v := nI 0) iX7_round_51 ?_
          refine X.istore iX7_round_52 rfl rfl ?_
          refine X.pushi iX7_round_54 ?_
          refine X.istore iX7_round_55 rfl rfl ?_
          refine X.aload iX7_round_57 rfl ?_
          refine X.callVv iX7_round_58 (g_asides (d := d + 3)) (by first | rfl | repeat (first | assumption | exact xup_eq _ _ _ | rw [xup_ne _ _ (by first | decide | omega | assumption)])) rfl rfl (xfit _ _ _) (Nat.le_of_ble_eq_true rfl) ?_
          refine X.pushi (v := nI 0) iX7_round_61 ?_
          refine X.istore iX7_round_62 rfl rfl ?_
          exact round_loop wf h0 hl hn1 hn 0 (Nat.zero_le _)
        · exact absurd (by rw [← show nw 0 = nI nT from wf.1]; exact c33) (nI_ne0 h0 (by omega))
      · exact absurd (Int32.not_lt.mp hk) c22
