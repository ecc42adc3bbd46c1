/-! the reference: leaning, shaking, drifts, undoing, what is foretold -/
theorem lN_of (x : Int64) : ∃ n, x = lN n := ⟨x.toBitVec.toNat, Int64.toBitVec_inj.mp (by show _ = BitVec.ofNat 64 _; simp)⟩
theorem lN_and (a b : Nat) : lN a &&& lN b = lN (a &&& b) := by
  apply Int64.toBitVec_inj.1
  show BitVec.ofNat 64 a &&& BitVec.ofNat 64 b = BitVec.ofNat 64 (a &&& b)
  apply BitVec.eq_of_getLsbD_eq
  intro i hi
  simp [hi]
def drw (x : Int32) : Int32 := ((x.toInt64 * 1103515245 + 12345) &&& 2147483647).toInt32
theorem drw_nat (x : Int32) : ∃ a, a < 2 ^ 31 ∧ drw x = nI a := by
  obtain ⟨n, hn⟩ := lN_of (x.toInt64 * 1103515245 + 12345)
  refine ⟨n % 2 ^ 31, Nat.mod_lt _ (by decide), ?_⟩
  unfold drw
  rw [hn, show (2147483647 : Int64) = lN (2 ^ 31 - 1) from rfl, lN_and, Nat.and_two_pow_sub_one_eq_mod, lN_i]
theorem c_X7_lean_bad {d nT nL : Nat} {l t : Int32} {h : XH} {nw tp ro rd ud as kp la sz : Nat → Int32} {it mv : Nat → Int64} {ty pl : Int32} {fa : Bool} {un ku : Int32} {ik : Bool} (wf : WF nw nT nL) (hb : isL nw l = false ∨ (¬ t = -4 ∧ isT nw t = false)) : MetI mX7_lean (d + 2, 0, 0) [.ref 98, .int l, .int t] (mh h nw tp ro rd ud as kp la sz it mv ty pl fa un ku ik) (-1) := by
  refine MetX.of (by decide) rfl (Nat.le_of_ble_eq_true rfl) ?_
  refine X.aload iX7_lean_0 rfl ?_
  refine X.iload iX7_lean_1 rfl ?_
  refine X.callVi iX7_lean_2 (c_X7_isLadder (d := d) mh_MO) (by first | rfl | repeat (first | assumption | exact xup_eq _ _ _ | rw [xup_ne _ _ (by first | decide | omega | assumption)])) rfl rfl (xfit _ _ _) (Nat.le_of_ble_eq_true rfl) ?_
  refine X.ifeqB iX7_lean_5 (fun c5 => ?_) (fun c5 => ?_)
  · refine X.pushi iX7_lean_22 ?_
    exact X.iret iX7_lean_23 ⟨rfl, rfl⟩
  · refine X.iload iX7_lean_8 rfl ?_
    refine X.pushi iX7_lean_9 ?_
    refine X.cmeq iX7_lean_11 (fun c11 => ?_) (fun c11 => ?_)
    · first
      | (exact absurd hb (by intro q; rcases q with q | q; exact absurd (c5.symm.trans q) (by decide); exact q.1 c11))
      | (exact absurd hb (by intro q; rcases q with q | q; exact absurd (c5.symm.trans q) (by decide); exact absurd (c19.symm.trans q.2) (by decide)))
    · refine X.aload iX7_lean_14 rfl ?_
      refine X.iload iX7_lean_15 rfl ?_
      refine X.callVi iX7_lean_16 (c_X7_isTree (d := d) mh_MO) (by first | rfl | repeat (first | assumption | exact xup_eq _ _ _ | rw [xup_ne _ _ (by first | decide | omega | assumption)])) rfl rfl (xfit _ _ _) (Nat.le_of_ble_eq_true rfl) ?_
      refine X.ifneB iX7_lean_19 (fun c19 => ?_) (fun c19 => ?_)
      · first
        | (exact absurd hb (by intro q; rcases q with q | q; exact absurd (c5.symm.trans q) (by decide); exact q.1 c11))
        | (exact absurd hb (by intro q; rcases q with q | q; exact absurd (c5.symm.trans q) (by decide); exact absurd (c19.symm.trans q.2) (by decide)))
      · refine X.pushi iX7_lean_22 ?_
        exact X.iret iX7_lean_23 ⟨rfl, rfl⟩
theorem c_X7_lean {d nT nL l u : Nat} {t : Int32} {h : XH} {nw tp ro rd ud as kp la sz : Nat → Int32} {it mv : Nat → Int64} {ty pl : Int32} {fa : Bool} {un ku : Int32} {ik : Bool} (wf : WF nw nT nL) (hl : l < nL) (ht : t = -4 ∨ isT nw t = true) (hu : u ≤ 8) (eu : un = nI u) : MetH mX7_lean (d + 3, 0, 0) [.ref 98, .int (nI l), .int t] (mh h nw tp ro rd ud as kp la sz it mv ty pl fa un ku ik) (if nw (30 + 4 * l) = t then -2 else nw (30 + 4 * l)) (if nw (30 + 4 * l) = t then (mh h nw tp ro rd ud as kp la sz it mv ty pl fa un ku ik) else (mh h (upd nw (27 + 4 * l + 3) t) tp ro rd (noteF ud nw u) as kp la sz it mv ty pl fa (nI (noteN u)) ku ik)) := by
  have hL := wf.2.2.2.1
  refine MetX.of (by decide) rfl (Nat.le_of_ble_eq_true rfl) ?_
  refine X.aload iX7_lean_0 rfl ?_
  refine X.iload iX7_lean_1 rfl ?_
  refine X.callVi iX7_lean_2 (c_X7_isLadder (d := d + 1) mh_MO) (by first | rfl | repeat (first | assumption | exact xup_eq _ _ _ | rw [xup_ne _ _ (by first | decide | omega | assumption)])) rfl rfl (xfit _ _ _) (Nat.le_of_ble_eq_true rfl) ?_
  refine X.ifeqB iX7_lean_5 (fun c5 => ?_) (fun c5 => ?_)
  · exact absurd (c5.symm.trans (isL_of wf hl)) (by decide)
  · refine X.iload iX7_lean_8 rfl ?_
    refine X.pushi iX7_lean_9 ?_
    refine X.cmeq iX7_lean_11 (fun c11 => ?_) (fun c11 => ?_)
    · refine X.aload iX7_lean_24 rfl ?_
      refine X.iload iX7_lean_25 rfl ?_
      refine X.callVi iX7_lean_26 (c_X7_leansAt (d := d + 1) mh_MO (by omega)) (by first | rfl | repeat (first | assumption | exact xup_eq _ _ _ | rw [xup_ne _ _ (by first | decide | omega | assumption)])) rfl rfl (xfit _ _ _) (Nat.le_of_ble_eq_true rfl) ?_
      refine X.istore iX7_lean_29 rfl rfl ?_
      refine X.iload iX7_lean_30 rfl ?_
      refine X.iload iX7_lean_31 rfl ?_
      refine X.cmne iX7_lean_32 (fun c32 => ?_) (fun c32 => ?_)
      · rw [if_neg c32, if_neg c32]
        refine X.aload iX7_lean_38 rfl ?_
        refine X.callVv iX7_lean_39 (c_X7_notes (d := d) hu eu) (by first | rfl | repeat (first | assumption | exact xup_eq _ _ _ | rw [xup_ne _ _ (by first | decide | omega | assumption)])) rfl rfl (xfit _ _ _) (Nat.le_of_ble_eq_true rfl) ?_
        refine X.aload iX7_lean_42 rfl ?_
        refine X.getf iX7_lean_43 (by first | rfl | repeat (first | assumption | exact xup_eq _ _ _ | rw [xup_ne _ _ (by first | decide | omega | assumption)])) rfl ?_
        refine X.pushi (v := nI 27) iX7_lean_46 ?_
        refine X.pushi (v := nI 4) iX7_lean_48 ?_
        refine X.iload iX7_lean_49 rfl ?_
        refine X.imul iX7_lean_50 ?_
        refine X.iadd iX7_lean_51 ?_
        refine X.pushi (v := nI 3) iX7_lean_52 ?_
        refine X.iadd iX7_lean_53 ?_
        refine X.iload iX7_lean_54 rfl ?_
        refine X.iastE iX7_lean_55 (by first | rfl | repeat (first | assumption | exact xup_eq _ _ _ | rw [xup_ne _ _ (by first | decide | omega | assumption)])) (ixL l 3) (by omega) (by decide) ?_
        rw [mh99]
        refine X.iload iX7_lean_56 rfl ?_
        exact X.iret iX7_lean_57 ⟨rfl, rfl⟩
      · refine X.pushi iX7_lean_35 ?_
        exact X.iret iX7_lean_37 ⟨by rw [if_pos c32], by rw [if_pos c32]⟩
    · refine X.aload iX7_lean_14 rfl ?_
      refine X.iload iX7_lean_15 rfl ?_
      refine X.callVi iX7_lean_16 (c_X7_isTree (d := d + 1) mh_MO) (by first | rfl | repeat (first | assumption | exact xup_eq _ _ _ | rw [xup_ne _ _ (by first | decide | omega | assumption)])) rfl rfl (xfit _ _ _) (Nat.le_of_ble_eq_true rfl) ?_
      refine X.ifneB iX7_lean_19 (fun c19 => ?_) (fun c19 => ?_)
      · refine X.aload iX7_lean_24 rfl ?_
        refine X.iload iX7_lean_25 rfl ?_
        refine X.callVi iX7_lean_26 (c_X7_leansAt (d := d + 1) mh_MO (by omega)) (by first | rfl | repeat (first | assumption | exact xup_eq _ _ _ | rw [xup_ne _ _ (by first | decide | omega | assumption)])) rfl rfl (xfit _ _ _) (Nat.le_of_ble_eq_true rfl) ?_
        refine X.istore iX7_lean_29 rfl rfl ?_
        refine X.iload iX7_lean_30 rfl ?_
        refine X.iload iX7_lean_31 rfl ?_
        refine X.cmne iX7_lean_32 (fun c32 => ?_) (fun c32 => ?_)
        · rw [if_neg c32, if_neg c32]
          refine X.aload iX7_lean_38 rfl ?_
          refine X.callVv iX7_lean_39 (c_X7_notes (d := d) hu eu) (by first | rfl | repeat (first | assumption | exact xup_eq _ _ _ | rw [xup_ne _ _ (by first | decide | omega | assumption)])) rfl rfl (xfit _ _ _) (Nat.le_of_ble_eq_true rfl) ?_
          refine X.aload iX7_lean_42 rfl ?_
          refine X.getf iX7_lean_43 (by first | rfl | repeat (first | assumption | exact xup_eq _ _ _ | rw [xup_ne _ _ (by first | decide | omega | assumption)])) rfl ?_
          refine X.pushi (v := nI 27) iX7_lean_46 ?_
          refine X.pushi (v := nI 4) iX7_lean_48 ?_
          refine X.iload iX7_lean_49 rfl ?_
          refine X.imul iX7_lean_50 ?_
          refine X.iadd iX7_lean_51 ?_
          refine X.pushi (v := nI 3) iX7_lean_52 ?_
          refine X.iadd iX7_lean_53 ?_
          refine X.iload iX7_lean_54 rfl ?_
          refine X.iastE iX7_lean_55 (by first | rfl | repeat (first | assumption | exact xup_eq _ _ _ | rw [xup_ne _ _ (by first | decide | omega | assumption)])) (ixL l 3) (by omega) (by decide) ?_
          rw [mh99]
          refine X.iload iX7_lean_56 rfl ?_
          exact X.iret iX7_lean_57 ⟨rfl, rfl⟩
        · refine X.pushi iX7_lean_35 ?_
          exact X.iret iX7_lean_37 ⟨by rw [if_pos c32], by rw [if_pos c32]⟩
      · exact absurd (c19.symm.trans (ht.resolve_left c11)) (by decide)
def shkN (nw : Nat → Int32) (t : Nat) : Nat → Int32 := gbLose nw t (nw (9 + 3 * t + 1) / nI 2)
theorem c_X7_shakes {d t : Nat} {h : XH} {nw tp ro rd ud as kp la sz : Nat → Int32} {it mv : Nat → Int64} {ty pl : Int32} {fa : Bool} {un ku : Int32} {ik : Bool} (ht : t < 6) : MetH mX7_shakes (d + 1, 0, 0) [.ref 98, .int (nI t)] (mh h nw tp ro rd ud as kp la sz it mv ty pl fa un ku ik) (nw (9 + 3 * t + 1) / nI 2) (mh h (shkN nw t) tp ro rd ud as kp la sz it mv ty pl fa un ku ik) := by
  refine MetX.of (by decide) rfl (Nat.le_of_ble_eq_true rfl) ?_
  refine X.aload iX7_shakes_0 rfl ?_
  refine X.iload iX7_shakes_1 rfl ?_
  refine X.pushi (v := nI 1) iX7_shakes_2 ?_
  refine X.callVi iX7_shakes_3 (c_X7_ofTree (d := d) (w := 1) mh_MO (by omega)) (by first | rfl | repeat (first | assumption | exact xup_eq _ _ _ | rw [xup_ne _ _ (by first | decide | omega | assumption)])) rfl rfl (xfit _ _ _) (Nat.le_of_ble_eq_true rfl) ?_
  refine X.pushi (v := nI 2) iX7_shakes_6 ?_
  refine X.idiv iX7_shakes_7 (by decide) ?_
  refine X.istore iX7_shakes_8 rfl rfl ?_
  refine X.aload iX7_shakes_9 rfl ?_
  refine X.iload iX7_shakes_10 rfl ?_
  refine X.iload iX7_shakes_11 rfl ?_
  refine X.callVv iX7_shakes_12 (g_takes (d := d) ht) (by first | rfl | repeat (first | assumption | exact xup_eq _ _ _ | rw [xup_ne _ _ (by first | decide | omega | assumption)])) rfl rfl (xfit _ _ _) (Nat.le_of_ble_eq_true rfl) ?_
  refine X.aload iX7_shakes_15 rfl ?_
  refine X.getf iX7_shakes_16 (by first | rfl | repeat (first | assumption | exact xup_eq _ _ _ | rw [xup_ne _ _ (by first | decide | omega | assumption)])) rfl ?_
  refine X.pushi (v := nI 5) iX7_shakes_19 ?_
  refine X.dup2 iX7_shakes_20 ?_
  refine X.ialdN iX7_shakes_21 (by first | rfl | repeat (first | assumption | exact xup_eq _ _ _ | rw [xup_ne _ _ (by first | decide | omega | assumption)])) (by omega) (by decide) ?_
  refine X.iload iX7_shakes_22 rfl ?_
  refine X.iadd iX7_shakes_23 ?_
  refine X.iastN iX7_shakes_24 (by first | rfl | repeat (first | assumption | exact xup_eq _ _ _ | rw [xup_ne _ _ (by first | decide | omega | assumption)])) (by omega) (by decide) ?_
  rw [mh99]
  refine X.iload iX7_shakes_25 rfl ?_
  exact X.iret iX7_shakes_26 ⟨rfl, rfl⟩
theorem c_X7_shake_bad {d : Nat} {t : Int32} {h : XH} {nw tp ro rd ud as kp la sz : Nat → Int32} {it mv : Nat → Int64} {ty pl : Int32} {fa : Bool} {un ku : Int32} {ik : Bool} (hb : isT nw t = false) : MetI mX7_shake (d + 2, 0, 0) [.ref 98, .int t] (mh h nw tp ro rd ud as kp la sz it mv ty pl fa un ku ik) (-1) := by
  refine MetX.of (by decide) rfl (Nat.le_of_ble_eq_true rfl) ?_
  refine X.aload iX7_shake_0 rfl ?_
  refine X.iload iX7_shake_1 rfl ?_
  refine X.callVi iX7_shake_2 (c_X7_isTree (d := d) mh_MO) (by first | rfl | repeat (first | assumption | exact xup_eq _ _ _ | rw [xup_ne _ _ (by first | decide | omega | assumption)])) rfl rfl (xfit _ _ _) (Nat.le_of_ble_eq_true rfl) ?_
  refine X.ifneB iX7_shake_5 (fun c5 => ?_) (fun c5 => ?_)
  · exact absurd (c5.symm.trans hb) (by decide)
  · refine X.pushi iX7_shake_8 ?_
    exact X.iret iX7_shake_9 ⟨rfl, rfl⟩
theorem c_X7_shake {d nT nL t u : Nat} {h : XH} {nw tp ro rd ud as kp la sz : Nat → Int32} {it mv : Nat → Int64} {ty pl : Int32} {fa : Bool} {un ku : Int32} {ik : Bool} (wf : WF nw nT nL) (ht : t < nT) (hu : u ≤ 8) (eu : un = nI u) : MetH mX7_shake (d + 3, 0, 0) [.ref 98, .int (nI t)] (mh h nw tp ro rd ud as kp la sz it mv ty pl fa un ku ik) (if nw (9 + 3 * t + 1) = 0 then -2 else nw (9 + 3 * t + 1) / nI 2) (if nw (9 + 3 * t + 1) = 0 then (mh h nw tp ro rd ud as kp la sz it mv ty pl fa un ku ik) else (mh h (shkN nw t) tp ro rd (noteF ud nw u) as kp la sz it mv ty pl fa (nI (noteN u)) ku ik)) := by
  have hT := wf.2.2.1
  refine MetX.of (by decide) rfl (Nat.le_of_ble_eq_true rfl) ?_
  refine X.aload iX7_shake_0 rfl ?_
  refine X.iload iX7_shake_1 rfl ?_
  refine X.callVi iX7_shake_2 (c_X7_isTree (d := d + 1) mh_MO) (by first | rfl | repeat (first | assumption | exact xup_eq _ _ _ | rw [xup_ne _ _ (by first | decide | omega | assumption)])) rfl rfl (xfit _ _ _) (Nat.le_of_ble_eq_true rfl) ?_
  refine X.ifneB iX7_shake_5 (fun c5 => ?_) (fun c5 => ?_)
  · refine X.aload iX7_shake_10 rfl ?_
    refine X.iload iX7_shake_11 rfl ?_
    refine X.pushi (v := nI 1) iX7_shake_12 ?_
    refine X.callVi iX7_shake_13 (c_X7_ofTree (d := d + 2) (w := 1) mh_MO (by omega)) (by first | rfl | repeat (first | assumption | exact xup_eq _ _ _ | rw [xup_ne _ _ (by first | decide | omega | assumption)])) rfl rfl (xfit _ _ _) (Nat.le_of_ble_eq_true rfl) ?_
    refine X.ifne iX7_shake_16 (fun c16 => ?_) (fun c16 => ?_)
    · rw [if_neg c16, if_neg c16]
      refine X.aload iX7_shake_22 rfl ?_
      refine X.callVv iX7_shake_23 (c_X7_notes (d := d) hu eu) (by first | rfl | repeat (first | assumption | exact xup_eq _ _ _ | rw [xup_ne _ _ (by first | decide | omega | assumption)])) rfl rfl (xfit _ _ _) (Nat.le_of_ble_eq_true rfl) ?_
      refine X.aload iX7_shake_26 rfl ?_
      refine X.iload iX7_shake_27 rfl ?_
      refine X.callVi iX7_shake_28 (c_X7_shakes (d := d + 1) (by omega)) (by first | rfl | repeat (first | assumption | exact xup_eq _ _ _ | rw [xup_ne _ _ (by first | decide | omega | assumption)])) rfl rfl (xfit _ _ _) (Nat.le_of_ble_eq_true rfl) ?_
      exact X.iret iX7_shake_31 ⟨rfl, rfl⟩
    · refine X.pushi iX7_shake_19 ?_
      exact X.iret iX7_shake_21 ⟨by rw [if_pos c16], by rw [if_pos c16]⟩
  · exact absurd (c5.symm.trans (isT_of wf ht)) (by decide)
/-- the draw goes on; perhaps it shakes a tree -/
def gustH (nw : Nat → Int32) : Int32 := drw (nw 8) / nI 65536
def gustN (nw : Nat → Int32) (nT : Nat) : Nat → Int32 :=
  if gustH nw - gustH nw / nI 4 * nI 4 = 0 ∧ 0 < nT then shkN (upd nw 8 (drw (nw 8))) ((gustH nw).toNatClampNeg % nT) else upd nw 8 (drw (nw 8))
theorem gustN_wf {nw : Nat → Int32} {nT nL : Nat} (h : WF nw nT nL) : WF (gustN nw nT) nT nL := by
  have h1 := h.upd 8 (drw (nw 8)) (by omega)
  have := h.2.2.1
  unfold gustN
  split
  · rename_i c
    have hm := Nat.mod_lt (gustH nw).toNatClampNeg c.2
    exact (h1.upd _ _ (by omega)).upd _ _ (by omega)
  · exact h1
/-- a day of a drift -/
def drN (nw : Nat → Int32) (nT nL : Nat) : Nat → (Nat → Int32)
  | 0 => nw
  | k + 1 => gb (gustN (drN nw nT nL k) nT) nT nL (nI 0)
theorem drN_wf {nw : Nat → Int32} {nT nL : Nat} (h : WF nw nT nL) : ∀ k, WF (drN nw nT nL k) nT nL
  | 0 => h
  | k + 1 => gb_wf (gustN_wf (drN_wf h k)) _
def drU (nw ud : Nat → Int32) (nT nL u : Nat) : Nat → (Nat → Int32) × Nat
  | 0 => (ud, u)
  | k + 1 => (noteF (drU nw ud nT nL u k).1 (drN nw nT nL k) (drU nw ud nT nL u k).2, noteN (drU nw ud nT nL u k).2)
theorem drU_le {nw ud : Nat → Int32} {nT nL u : Nat} (hu : u ≤ 8) : ∀ k, (drU nw ud nT nL u k).2 ≤ 8
  | 0 => hu
  | k + 1 => noteN_le (drU_le hu k)
theorem c_X7_drift_bad {d : Nat} {n : Int32} {h : XH} {nw tp ro rd ud as kp la sz : Nat → Int32} {it mv : Nat → Int64} {ty pl : Int32} {fa : Bool} {un ku : Int32} {ik : Bool} (hn : inI n (nI 1) (nI 40) = false) : MetI mX7_drift (d + 1, 0, 0) [.ref 98, .int n] (mh h nw tp ro rd ud as kp la sz it mv ty pl fa un ku ik) (-1) := by
  refine MetX.of (by decide) rfl (Nat.le_of_ble_eq_true rfl) ?_
  refine X.iload iX7_drift_0 rfl ?_
  refine X.i2l iX7_drift_1 ?_
  refine X.pushl iX7_drift_2 ?_
  refine X.pushl iX7_drift_3 ?_
  refine X.callSi iX7_drift_6 (c7_inI (d := d) (a := nI 1) (b := nI 40) (by decide) (by decide)) rfl rfl (xfit _ _ _) (Nat.le_of_ble_eq_true rfl) ?_
  refine X.ifneB iX7_drift_9 (fun c9 => ?_) (fun c9 => ?_)
  · exact absurd (c9.symm.trans hn) (by decide)
  · refine X.pushi iX7_drift_12 ?_
    exact X.iret iX7_drift_13 ⟨rfl, rfl⟩
theorem drift_gust {d nT nL : Nat} {L0 L1 L2 : Option Value} {k3 : Int32} {Q : Option Value → XH → Prop} {h : XH} {nw tp ro rd ud as kp la sz : Nat → Int32} {it mv : Nat → Int64} {ty pl : Int32} {fa : Bool} {un ku : Int32} {ik : Bool} (wf : WF nw nT nL) (hL0 : L0 = some (.ref 98)) (K : X xT mX7_drift (xR (d + 3, 0, 0)) (0, 0) 119 [L0, L1, L2, some (.int k3), none] [] (mh h (gustN nw nT) tp ro rd ud as kp la sz it mv ty pl fa un ku ik) Q) : X xT mX7_drift (xR (d + 3, 0, 0)) (0, 0) 49 [L0, L1, L2, some (.int k3), none] [] (mh h nw tp ro rd ud as kp la sz it mv ty pl fa un ku ik) Q := by
  subst hL0
  have hT := wf.2.2.1
  obtain ⟨a, ha, ea⟩ := drw_nat (nw 8)
  have eg : gustH nw = nI (a / 65536) := by rw [gustH, ea, pk_div ha (by decide) (by decide)]
  have hlt : a / 65536 < 2 ^ 31 := Nat.lt_of_le_of_lt (Nat.div_le_self _ _) ha
  have w0 : upd nw 8 (drw (nw 8)) 0 = nI nT := (wf.upd 8 (drw (nw 8)) (by omega)).1
  unfold gustN at K
  refine X.aload iX7_drift_49 rfl ?_
  refine X.getf iX7_drift_50 (by first | rfl | repeat (first | assumption | exact xup_eq _ _ _ | rw [xup_ne _ _ (by first | decide | omega | assumption)])) rfl ?_
  refine X.pushi (v := nI 8) iX7_drift_53 ?_
  refine X.aload iX7_drift_55 rfl ?_
  refine X.getf iX7_drift_56 (by first | rfl | repeat (first | assumption | exact xup_eq _ _ _ | rw [xup_ne _ _ (by first | decide | omega | assumption)])) rfl ?_
  refine X.pushi (v := nI 8) iX7_drift_59 ?_
  refine X.ialdN iX7_drift_61 (by first | rfl | repeat (first | assumption | exact xup_eq _ _ _ | rw [xup_ne _ _ (by first | decide | omega | assumption)])) (by omega) (by decide) ?_
  refine X.i2l iX7_drift_62 ?_
  refine X.pushl iX7_drift_63 ?_
  refine X.lmul iX7_drift_66 ?_
  refine X.pushl iX7_drift_67 ?_
  refine X.ladd iX7_drift_70 ?_
  refine X.pushl iX7_drift_71 ?_
  refine X.land iX7_drift_74 ?_
  refine X.l2i iX7_drift_75 ?_
  refine X.iastN iX7_drift_76 (by first | rfl | repeat (first | assumption | exact xup_eq _ _ _ | rw [xup_ne _ _ (by first | decide | omega | assumption)])) (by omega) (by decide) ?_
  rw [mh99]
  refine X.heap (h' := (mh h (upd nw 8 (drw (nw 8))) tp ro rd ud as kp la sz it mv ty pl fa un ku ik)) rfl ?_
  refine X.aload iX7_drift_77 rfl ?_
  refine X.getf iX7_drift_78 (by first | rfl | repeat (first | assumption | exact xup_eq _ _ _ | rw [xup_ne _ _ (by first | decide | omega | assumption)])) rfl ?_
  refine X.pushi (v := nI 8) iX7_drift_81 ?_
  refine X.ialdN iX7_drift_83 (by first | rfl | repeat (first | assumption | exact xup_eq _ _ _ | rw [xup_ne _ _ (by first | decide | omega | assumption)])) (by omega) (by decide) ?_
  refine X.pushi (v := nI 65536) iX7_drift_84 ?_
  refine X.idiv iX7_drift_86 (by decide) ?_
  refine X.weak (L' := [some (.ref 98), L1, L2, some (.int k3), none]) (fun _ _ q => q) ?_
  refine (show X xT mX7_drift (xR (d + 3, 0, 0)) (0, 0) 87 [some (.ref 98), L1, L2, some (.int k3), none] [.int (gustH nw)] (mh h (upd nw 8 (drw (nw 8))) tp ro rd ud as kp la sz it mv ty pl fa un ku ik) Q from ?_)
  refine X.istore iX7_drift_87 rfl rfl ?_
  refine X.iload iX7_drift_89 rfl ?_
  refine X.pushi (v := nI 4) iX7_drift_91 ?_
  refine X.irem iX7_drift_92 (by decide) ?_
  refine X.ifne iX7_drift_93 (fun c93 => ?_) (fun c93 => ?_)
  · first
    | (rw [if_neg (fun q => c93 q.1)] at K; exact X.unset 4 rfl K)
    | (rw [if_neg (fun q => nI_nle q.2 (by omega) c102)] at K; exact X.unset 4 rfl K)
  · refine X.aload iX7_drift_96 rfl ?_
    refine X.getf iX7_drift_97 (by first | rfl | repeat (first | assumption | exact xup_eq _ _ _ | rw [xup_ne _ _ (by first | decide | omega | assumption)])) rfl ?_
    refine X.pushi (v := nI 0) iX7_drift_100 ?_
    refine X.ialdN iX7_drift_101 (by first | rfl | repeat (first | assumption | exact xup_eq _ _ _ | rw [xup_ne _ _ (by first | decide | omega | assumption)])) (by omega) (by decide) ?_
    rw [w0]
    refine X.ifle iX7_drift_102 (fun c102 => ?_) (fun c102 => ?_)
    · first
      | (rw [if_neg (fun q => c93 q.1)] at K; exact X.unset 4 rfl K)
      | (rw [if_neg (fun q => nI_nle q.2 (by omega) c102)] at K; exact X.unset 4 rfl K)
    · have h0 : 0 < nT := by
        rcases Nat.eq_zero_or_pos nT with q | q
        · rw [q] at c102; exact absurd (Int32.le_refl _) c102
        · exact q
      rw [if_pos (And.intro c93 h0), eg, nI_clamp hlt] at K
      have hm := Nat.mod_lt (a / 65536) h0
      rw [eg]
      refine X.aload iX7_drift_105 rfl ?_
      refine X.iload iX7_drift_106 rfl ?_
      refine X.aload iX7_drift_108 rfl ?_
      refine X.getf iX7_drift_109 (by first | rfl | repeat (first | assumption | exact xup_eq _ _ _ | rw [xup_ne _ _ (by first | decide | omega | assumption)])) rfl ?_
      refine X.pushi (v := nI 0) iX7_drift_112 ?_
      refine X.ialdN iX7_drift_113 (by first | rfl | repeat (first | assumption | exact xup_eq _ _ _ | rw [xup_ne _ _ (by first | decide | omega | assumption)])) (by omega) (by decide) ?_
      rw [w0]
      refine X.irem iX7_drift_114 (nI_ne0 h0 (by omega)) ?_
      rw [pk_rem hlt h0 (by omega)]
      refine X.callVi iX7_drift_115 (c_X7_shakes (d := d + 1) (by omega)) rfl rfl rfl (xfit _ _ _) (Nat.le_of_ble_eq_true rfl) ?_
      refine X.popi iX7_drift_118 ?_
      exact X.unset 4 rfl K
theorem c_X7_drift {d n nT nL u dy : Nat} {h : XH} {nw tp ro rd ud as kp la sz : Nat → Int32} {it mv : Nat → Int64} {ty pl : Int32} {fa : Bool} {un ku : Int32} {ik : Bool} (wf : WF nw nT nL) (h1 : 1 ≤ n) (h2 : n ≤ 40) (hd : nw 2 = nI dy) (hdy : dy ≤ 20000) (hu : u ≤ 8) (eu : un = nI u) : MetH mX7_drift (d + 3, 0, 0) [.ref 98, .int (nI n)] (mh h nw tp ro rd ud as kp la sz it mv ty pl fa un ku ik) (if 9999 < dy + n then -3 else drN nw nT nL n 5 - nw 5) (if 9999 < dy + n then (mh h nw tp ro rd ud as kp la sz it mv ty pl fa un ku ik) else (mh h (drN nw nT nL n) tp ro rd ((drU nw ud nT nL u n).1) as kp la sz it mv ty pl fa (nI (drU nw ud nT nL u n).2) ku ik)) := by
  subst eu
  refine MetX.of (by decide) rfl (Nat.le_of_ble_eq_true rfl) ?_
  have P : ∀ k, k ≤ n → X xT mX7_drift (xR (d + 3, 0, 0)) (0, 0) 40 [some (.ref 98), some (.int (nI n)), some (.int (nw 5)), some (.int (nI k)), none] [] (mh h (drN nw nT nL k) tp ro rd ((drU nw ud nT nL u k).1) as kp la sz it mv ty pl fa (nI (drU nw ud nT nL u k).2) ku ik) (fun v h' => v = some (.int (drN nw nT nL n 5 - nw 5)) ∧ h' = (mh h (drN nw nT nL n) tp ro rd ((drU nw ud nT nL u n).1) as kp la sz it mv ty pl fa (nI (drU nw ud nT nL u n).2) ku ik)) := by
    refine xloop n ?_ ?_
    · refine X.iload iX7_drift_40 rfl ?_
      refine X.iload iX7_drift_41 rfl ?_
      refine X.cmge iX7_drift_42 (fun c42 => ?_) (fun c42 => ?_)
      · refine X.aload iX7_drift_130 rfl ?_
        refine X.getf iX7_drift_131 (by first | rfl | repeat (first | assumption | exact xup_eq _ _ _ | rw [xup_ne _ _ (by first | decide | omega | assumption)])) rfl ?_
        refine X.pushi (v := nI 5) iX7_drift_134 ?_
        refine X.ialdN iX7_drift_135 (by first | rfl | repeat (first | assumption | exact xup_eq _ _ _ | rw [xup_ne _ _ (by first | decide | omega | assumption)])) (by omega) (by decide) ?_
        refine X.iload iX7_drift_136 rfl ?_
        refine X.isub iX7_drift_137 ?_
        exact X.iret iX7_drift_138 ⟨rfl, rfl⟩
      · exact absurd (Int32.le_refl _) c42
    · intro k hk ih
      refine X.iload iX7_drift_40 rfl ?_
      refine X.iload iX7_drift_41 rfl ?_
      refine X.cmge iX7_drift_42 (fun c42 => ?_) (fun c42 => ?_)
      · exact absurd c42 (nI_ge hk (by omega))
      · refine X.aload iX7_drift_45 rfl ?_
        refine X.callVv iX7_drift_46 (c_X7_notes (d := d) (drU_le hu k) rfl) (by first | rfl | repeat (first | assumption | exact xup_eq _ _ _ | rw [xup_ne _ _ (by first | decide | omega | assumption)])) rfl rfl (xfit _ _ _) (Nat.le_of_ble_eq_true rfl) ?_
        refine drift_gust (drN_wf wf k) rfl ?_
        refine X.aload iX7_drift_119 rfl ?_
        refine X.pushi (v := nI 0) iX7_drift_120 ?_
        refine X.callVv iX7_drift_121 (g_goesBy (d := d) (gustN_wf (drN_wf wf k))) rfl rfl rfl (xfit _ _ _) (Nat.le_of_ble_eq_true rfl) ?_
        refine X.iinc iX7_drift_124 rfl rfl rfl ?_
        refine X.goto iX7_drift_127 ?_
        rw [nI_1]
        exact ih
  refine X.iload iX7_drift_0 rfl ?_
  refine X.i2l iX7_drift_1 ?_
  refine X.pushl iX7_drift_2 ?_
  refine X.pushl iX7_drift_3 ?_
  refine X.callSi iX7_drift_6 (c7_inI (d := d + 2) (a := nI 1) (b := nI 40) (by decide) (by decide)) rfl rfl (xfit _ _ _) (Nat.le_of_ble_eq_true rfl) ?_
  refine X.ifneB iX7_drift_9 (fun c9 => ?_) (fun c9 => ?_)
  · refine X.aload iX7_drift_14 rfl ?_
    refine X.getf iX7_drift_15 (by first | rfl | repeat (first | assumption | exact xup_eq _ _ _ | rw [xup_ne _ _ (by first | decide | omega | assumption)])) rfl ?_
    refine X.pushi (v := nI 2) iX7_drift_18 ?_
    refine X.ialdN iX7_drift_19 (by first | rfl | repeat (first | assumption | exact xup_eq _ _ _ | rw [xup_ne _ _ (by first | decide | omega | assumption)])) (by omega) (by decide) ?_
    refine X.iload iX7_drift_20 rfl ?_
    refine X.iadd iX7_drift_21 ?_
    rw [hd, nI_add]
    refine X.pushi (v := nI 9999) iX7_drift_22 ?_
    refine X.cmle iX7_drift_25 (fun c25 => ?_) (fun c25 => ?_)
    · have q : ¬ 9999 < dy + n := by have := (nI_leI (by omega) (by decide)).mp c25; omega
      rw [if_neg q, if_neg q]
      refine X.aload iX7_drift_31 rfl ?_
      refine X.getf iX7_drift_32 (by first | rfl | repeat (first | assumption | exact xup_eq _ _ _ | rw [xup_ne _ _ (by first | decide | omega | assumption)])) rfl ?_
      refine X.pushi (v := nI 5) iX7_drift_35 ?_
      refine X.ialdN iX7_drift_36 (by first | rfl | repeat (first | assumption | exact xup_eq _ _ _ | rw [xup_ne _ _ (by first | decide | omega | assumption)])) (by omega) (by decide) ?_
      refine X.istore iX7_drift_37 rfl rfl ?_
      refine X.pushi (v := nI 0) iX7_drift_38 ?_
      refine X.istore iX7_drift_39 rfl rfl ?_
      exact P 0 (Nat.zero_le _)
    · refine X.pushi iX7_drift_28 ?_
      have q : 9999 < dy + n := by
        rcases Nat.lt_or_ge 9999 (dy + n) with q | q
        · exact q
        · exact absurd (nI_le q (by decide)) c25
      exact X.iret iX7_drift_30 ⟨by rw [if_pos q], by rw [if_pos q]⟩
  · exact absurd (c9.symm.trans (inI_of h1 h2 (by decide))) (by decide)
theorem c_X7_seed {d : Nat} {v : Int32} {h : XH} {nw tp ro rd ud as kp la sz : Nat → Int32} {it mv : Nat → Int64} {ty pl : Int32} {fa : Bool} {un ku : Int32} {ik : Bool} : MetH mX7_seed (d, 0, 0) [.ref 98, .int v] (mh h nw tp ro rd ud as kp la sz it mv ty pl fa un ku ik) (if 0 ≤ v then nw 8 else -1) (if 0 ≤ v then (mh h (upd nw 8 v) tp ro rd ud as kp la sz it mv ty pl fa un ku ik) else (mh h nw tp ro rd ud as kp la sz it mv ty pl fa un ku ik)) := by
  refine MetX.of (by decide) rfl (Nat.le_of_ble_eq_true rfl) ?_
  refine X.iload iX7_seed_0 rfl ?_
  refine X.ifge iX7_seed_1 (fun c1 => ?_) (fun c1 => ?_)
  · rw [if_pos c1, if_pos c1]
    refine X.aload iX7_seed_6 rfl ?_
    refine X.getf iX7_seed_7 (by first | rfl | repeat (first | assumption | exact xup_eq _ _ _ | rw [xup_ne _ _ (by first | decide | omega | assumption)])) rfl ?_
    refine X.pushi (v := nI 8) iX7_seed_10 ?_
    refine X.ialdN iX7_seed_12 (by first | rfl | repeat (first | assumption | exact xup_eq _ _ _ | rw [xup_ne _ _ (by first | decide | omega | assumption)])) (by omega) (by decide) ?_
    refine X.istore iX7_seed_13 rfl rfl ?_
    refine X.aload iX7_seed_14 rfl ?_
    refine X.getf iX7_seed_15 (by first | rfl | repeat (first | assumption | exact xup_eq _ _ _ | rw [xup_ne _ _ (by first | decide | omega | assumption)])) rfl ?_
    refine X.pushi (v := nI 8) iX7_seed_18 ?_
    refine X.iload iX7_seed_20 rfl ?_
    refine X.iastN iX7_seed_21 (by first | rfl | repeat (first | assumption | exact xup_eq _ _ _ | rw [xup_ne _ _ (by first | decide | omega | assumption)])) (by omega) (by decide) ?_
    rw [mh99]
    refine X.iload iX7_seed_22 rfl ?_
    exact X.iret iX7_seed_23 ⟨rfl, rfl⟩
  · refine X.pushi iX7_seed_4 ?_
    exact X.iret iX7_seed_5 ⟨by rw [if_neg c1], by rw [if_neg c1]⟩
def aheadF (nw : Nat → Int32) (nT nL n w : Nat) : Int32 := gbN nw nT nL n (3 + w)
theorem c_X7_ahead_bad {d : Nat} {n w : Int32} {h : XH} {nw tp ro rd ud as kp la sz : Nat → Int32} {it mv : Nat → Int64} {ty pl : Int32} {fa : Bool} {un ku : Int32} {ik : Bool} (hb : inI n (nI 0) (nI 60) = false ∨ inI w (nI 0) (nI 2) = false) : MetI mX7_ahead (d + 1, 0, 0) [.ref 98, .int n, .int w] (mh h nw tp ro rd ud as kp la sz it mv ty pl fa un ku ik) (-1) := by
  refine MetX.of (by decide) rfl (Nat.le_of_ble_eq_true rfl) ?_
  refine X.iload iX7_ahead_0 rfl ?_
  refine X.i2l iX7_ahead_1 ?_
  refine X.pushl iX7_ahead_2 ?_
  refine X.pushl iX7_ahead_3 ?_
  refine X.callSi iX7_ahead_6 (c7_inI (d := d) (a := nI 0) (b := nI 60) (by decide) (by decide)) rfl rfl (xfit _ _ _) (Nat.le_of_ble_eq_true rfl) ?_
  refine X.ifeqB iX7_ahead_9 (fun c9 => ?_) (fun c9 => ?_)
  · refine X.pushi iX7_ahead_24 ?_
    exact X.iret iX7_ahead_25 ⟨rfl, rfl⟩
  · refine X.iload iX7_ahead_12 rfl ?_
    refine X.i2l iX7_ahead_13 ?_
    refine X.pushl iX7_ahead_14 ?_
    refine X.pushl iX7_ahead_15 ?_
    refine X.callSi iX7_ahead_18 (c7_inI (d := d) (a := nI 0) (b := nI 2) (by decide) (by decide)) rfl rfl (xfit _ _ _) (Nat.le_of_ble_eq_true rfl) ?_
    refine X.ifneB iX7_ahead_21 (fun c21 => ?_) (fun c21 => ?_)
    · exact absurd hb (by intro q; rcases q with q | q; exact absurd (c9.symm.trans q) (by decide); exact absurd (c21.symm.trans q) (by decide))
    · refine X.pushi iX7_ahead_24 ?_
      exact X.iret iX7_ahead_25 ⟨rfl, rfl⟩
theorem c_X7_ahead {d nT nL n w : Nat} {h : XH} {nw tp ro rd ud as kp la sz : Nat → Int32} {it mv : Nat → Int64} {ty pl : Int32} {fa : Bool} {un ku : Int32} {ik : Bool} (wf : WF nw nT nL) (hn : n ≤ 60) (hw : w ≤ 2) : MetH mX7_ahead (d + 4, 0, 0) [.ref 98, .int (nI n), .int (nI w)] (mh h nw tp ro rd ud as kp la sz it mv ty pl fa un ku ik) (gbN nw nT nL n (3 + w)) (mh h nw tp ro rd ud (cp nw as 43) kp la sz it mv ty pl fa un ku ik) := by
  refine MetX.of (by decide) rfl (Nat.le_of_ble_eq_true rfl) ?_
  refine X.iload iX7_ahead_0 rfl ?_
  refine X.i2l iX7_ahead_1 ?_
  refine X.pushl iX7_ahead_2 ?_
  refine X.pushl iX7_ahead_3 ?_
  refine X.callSi iX7_ahead_6 (c7_inI (d := d + 3) (a := nI 0) (b := nI 60) (by decide) (by decide)) rfl rfl (xfit _ _ _) (Nat.le_of_ble_eq_true rfl) ?_
  refine X.ifeqB iX7_ahead_9 (fun c9 => ?_) (fun c9 => ?_)
  · exact absurd (c9.symm.trans (inI_of (Nat.zero_le _) hn (by decide))) (by decide)
  · refine X.iload iX7_ahead_12 rfl ?_
    refine X.i2l iX7_ahead_13 ?_
    refine X.pushl iX7_ahead_14 ?_
    refine X.pushl iX7_ahead_15 ?_
    refine X.callSi iX7_ahead_18 (c7_inI (d := d + 3) (a := nI 0) (b := nI 2) (by decide) (by decide)) rfl rfl (xfit _ _ _) (Nat.le_of_ble_eq_true rfl) ?_
    refine X.ifneB iX7_ahead_21 (fun c21 => ?_) (fun c21 => ?_)
    · refine X.aload iX7_ahead_26 rfl ?_
      refine X.callVv iX7_ahead_27 (g_asides (d := d + 3)) (by first | rfl | repeat (first | assumption | exact xup_eq _ _ _ | rw [xup_ne _ _ (by first | decide | omega | assumption)])) rfl rfl (xfit _ _ _) (Nat.le_of_ble_eq_true rfl) ?_
      refine X.aload iX7_ahead_30 rfl ?_
      refine X.iload iX7_ahead_31 rfl ?_
      refine X.callVv iX7_ahead_32 (g_goesOn (d := d) wf (by omega)) (by first | rfl | repeat (first | assumption | exact xup_eq _ _ _ | rw [xup_ne _ _ (by first | decide | omega | assumption)])) rfl rfl (xfit _ _ _) (Nat.le_of_ble_eq_true rfl) ?_
      refine X.aload iX7_ahead_35 rfl ?_
      refine X.getf iX7_ahead_36 (by first | rfl | repeat (first | assumption | exact xup_eq _ _ _ | rw [xup_ne _ _ (by first | decide | omega | assumption)])) rfl ?_
      refine X.pushi (v := nI 3) iX7_ahead_39 ?_
      refine X.iload iX7_ahead_40 rfl ?_
      refine X.iadd iX7_ahead_41 ?_
      refine X.ialdE iX7_ahead_42 (by first | rfl | repeat (first | assumption | exact xup_eq _ _ _ | rw [xup_ne _ _ (by first | decide | omega | assumption)])) (nI_add 3 w) (by omega) (by decide) ?_
      refine X.istore iX7_ahead_43 rfl rfl ?_
      refine X.aload iX7_ahead_44 rfl ?_
      refine X.callVv iX7_ahead_45 (g_backs (d := d + 3)) (by first | rfl | repeat (first | assumption | exact xup_eq _ _ _ | rw [xup_ne _ _ (by first | decide | omega | assumption)])) rfl rfl (xfit _ _ _) (Nat.le_of_ble_eq_true rfl) ?_
      rw [cp_back (gbN_far wf n)]
      refine X.iload iX7_ahead_48 rfl ?_
      exact X.iret iX7_ahead_49 ⟨rfl, rfl⟩
    · exact absurd (c21.symm.trans (inI_of (Nat.zero_le _) hw (by decide))) (by decide)
theorem c_X7_fruit_bad {d : Nat} {t n : Int32} {h : XH} {nw tp ro rd ud as kp la sz : Nat → Int32} {it mv : Nat → Int64} {ty pl : Int32} {fa : Bool} {un ku : Int32} {ik : Bool} (hb : isT nw t = false ∨ inI n (nI 0) (nI 60) = false) : MetI mX7_fruit (d + 2, 0, 0) [.ref 98, .int t, .int n] (mh h nw tp ro rd ud as kp la sz it mv ty pl fa un ku ik) (-1) := by
  refine MetX.of (by decide) rfl (Nat.le_of_ble_eq_true rfl) ?_
  refine X.aload iX7_fruit_0 rfl ?_
  refine X.iload iX7_fruit_1 rfl ?_
  refine X.callVi iX7_fruit_2 (c_X7_isTree (d := d) mh_MO) (by first | rfl | repeat (first | assumption | exact xup_eq _ _ _ | rw [xup_ne _ _ (by first | decide | omega | assumption)])) rfl rfl (xfit _ _ _) (Nat.le_of_ble_eq_true rfl) ?_
  refine X.ifeqB iX7_fruit_5 (fun c5 => ?_) (fun c5 => ?_)
  · refine X.pushi iX7_fruit_20 ?_
    exact X.iret iX7_fruit_21 ⟨rfl, rfl⟩
  · refine X.iload iX7_fruit_8 rfl ?_
    refine X.i2l iX7_fruit_9 ?_
    refine X.pushl iX7_fruit_10 ?_
    refine X.pushl iX7_fruit_11 ?_
    refine X.callSi iX7_fruit_14 (c7_inI (d := d + 1) (a := nI 0) (b := nI 60) (by decide) (by decide)) rfl rfl (xfit _ _ _) (Nat.le_of_ble_eq_true rfl) ?_
    refine X.ifneB iX7_fruit_17 (fun c17 => ?_) (fun c17 => ?_)
    · exact absurd hb (by intro q; rcases q with q | q; exact absurd (c5.symm.trans q) (by decide); exact absurd (c17.symm.trans q) (by decide))
    · refine X.pushi iX7_fruit_20 ?_
      exact X.iret iX7_fruit_21 ⟨rfl, rfl⟩
theorem c_X7_fruit {d nT nL t n : Nat} {h : XH} {nw tp ro rd ud as kp la sz : Nat → Int32} {it mv : Nat → Int64} {ty pl : Int32} {fa : Bool} {un ku : Int32} {ik : Bool} (wf : WF nw nT nL) (ht : t < nT) (hn : n ≤ 60) : MetH mX7_fruit (d + 4, 0, 0) [.ref 98, .int (nI t), .int (nI n)] (mh h nw tp ro rd ud as kp la sz it mv ty pl fa un ku ik) (gbN nw nT nL n (9 + 3 * t + 1)) (mh h nw tp ro rd ud (cp nw as 43) kp la sz it mv ty pl fa un ku ik) := by
  have hT := wf.2.2.1
  refine MetX.of (by decide) rfl (Nat.le_of_ble_eq_true rfl) ?_
  refine X.aload iX7_fruit_0 rfl ?_
  refine X.iload iX7_fruit_1 rfl ?_
  refine X.callVi iX7_fruit_2 (c_X7_isTree (d := d + 2) mh_MO) (by first | rfl | repeat (first | assumption | exact xup_eq _ _ _ | rw [xup_ne _ _ (by first | decide | omega | assumption)])) rfl rfl (xfit _ _ _) (Nat.le_of_ble_eq_true rfl) ?_
  refine X.ifeqB iX7_fruit_5 (fun c5 => ?_) (fun c5 => ?_)
  · exact absurd (c5.symm.trans (isT_of wf ht)) (by decide)
  · refine X.iload iX7_fruit_8 rfl ?_
    refine X.i2l iX7_fruit_9 ?_
    refine X.pushl iX7_fruit_10 ?_
    refine X.pushl iX7_fruit_11 ?_
    refine X.callSi iX7_fruit_14 (c7_inI (d := d + 3) (a := nI 0) (b := nI 60) (by decide) (by decide)) rfl rfl (xfit _ _ _) (Nat.le_of_ble_eq_true rfl) ?_
    refine X.ifneB iX7_fruit_17 (fun c17 => ?_) (fun c17 => ?_)
    · refine X.aload iX7_fruit_22 rfl ?_
      refine X.callVv iX7_fruit_23 (g_asides (d := d + 3)) (by first | rfl | repeat (first | assumption | exact xup_eq _ _ _ | rw [xup_ne _ _ (by first | decide | omega | assumption)])) rfl rfl (xfit _ _ _) (Nat.le_of_ble_eq_true rfl) ?_
      refine X.aload iX7_fruit_26 rfl ?_
      refine X.iload iX7_fruit_27 rfl ?_
      refine X.callVv iX7_fruit_28 (g_goesOn (d := d) wf (by omega)) (by first | rfl | repeat (first | assumption | exact xup_eq _ _ _ | rw [xup_ne _ _ (by first | decide | omega | assumption)])) rfl rfl (xfit _ _ _) (Nat.le_of_ble_eq_true rfl) ?_
      refine X.aload iX7_fruit_31 rfl ?_
      refine X.iload iX7_fruit_32 rfl ?_
      refine X.pushi (v := nI 1) iX7_fruit_33 ?_
      refine X.callVi iX7_fruit_34 (c_X7_ofTree (d := d + 3) (w := 1) mh_MO (by omega)) (by first | rfl | repeat (first | assumption | exact xup_eq _ _ _ | rw [xup_ne _ _ (by first | decide | omega | assumption)])) rfl rfl (xfit _ _ _) (Nat.le_of_ble_eq_true rfl) ?_
      refine X.istore iX7_fruit_37 rfl rfl ?_
      refine X.aload iX7_fruit_38 rfl ?_
      refine X.callVv iX7_fruit_39 (g_backs (d := d + 3)) (by first | rfl | repeat (first | assumption | exact xup_eq _ _ _ | rw [xup_ne _ _ (by first | decide | omega | assumption)])) rfl rfl (xfit _ _ _) (Nat.le_of_ble_eq_true rfl) ?_
      rw [cp_back (gbN_far wf n)]
      refine X.iload iX7_fruit_42 rfl ?_
      exact X.iret iX7_fruit_43 ⟨rfl, rfl⟩
    · exact absurd (c17.symm.trans (inI_of (Nat.zero_le _) hn (by decide))) (by decide)
def reachedF (nw : Nat → Int32) (nL : Nat) (t n : Int32) : Int32 := if isT nw t = true ∧ inI n (nI 0) (nI 60) = true then rcF nw t.toNatClampNeg (nw 2 + n) false nL else -1
theorem c_X7_reached {d nT nL : Nat} {t n : Int32} {h : XH} {nw tp ro rd ud as kp la sz : Nat → Int32} {it mv : Nat → Int64} {ty pl : Int32} {fa : Bool} {un ku : Int32} {ik : Bool} (wf : WF nw nT nL) : MetI mX7_reached (d + 3, 0, 0) [.ref 98, .int t, .int n] (mh h nw tp ro rd ud as kp la sz it mv ty pl fa un ku ik) (reachedF nw nL t n) := by
  have hT := wf.2.2.1
  refine MetX.of (by decide) rfl (Nat.le_of_ble_eq_true rfl) ?_
  refine X.aload iX7_reached_0 rfl ?_
  refine X.iload iX7_reached_1 rfl ?_
  refine X.callVi iX7_reached_2 (c_X7_isTree (d := d + 1) mh_MO) (by first | rfl | repeat (first | assumption | exact xup_eq _ _ _ | rw [xup_ne _ _ (by first | decide | omega | assumption)])) rfl rfl (xfit _ _ _) (Nat.le_of_ble_eq_true rfl) ?_
  refine X.ifeqB iX7_reached_5 (fun c5 => ?_) (fun c5 => ?_)
  · refine X.pushi iX7_reached_37 ?_
    first
    | (refine X.iret iX7_reached_38 ⟨?_, rfl⟩; rw [e])
    | (refine X.iret iX7_reached_38 ⟨?_, rfl⟩; rw [reachedF, if_neg (fun q => Bool.noConfusion (c5.symm.trans q.1))])
    | (refine X.iret iX7_reached_38 ⟨?_, rfl⟩; rw [reachedF, if_neg (fun q => Bool.noConfusion (c17.symm.trans q.2))])
  · refine X.iload iX7_reached_8 rfl ?_
    refine X.i2l iX7_reached_9 ?_
    refine X.pushl iX7_reached_10 ?_
    refine X.pushl iX7_reached_11 ?_
    refine X.callSi iX7_reached_14 (c7_inI (d := d + 2) (a := nI 0) (b := nI 60) (by decide) (by decide)) rfl rfl (xfit _ _ _) (Nat.le_of_ble_eq_true rfl) ?_
    refine X.ifeqB iX7_reached_17 (fun c17 => ?_) (fun c17 => ?_)
    · refine X.pushi iX7_reached_37 ?_
      first
      | (refine X.iret iX7_reached_38 ⟨?_, rfl⟩; rw [e])
      | (refine X.iret iX7_reached_38 ⟨?_, rfl⟩; rw [reachedF, if_neg (fun q => Bool.noConfusion (c5.symm.trans q.1))])
      | (refine X.iret iX7_reached_38 ⟨?_, rfl⟩; rw [reachedF, if_neg (fun q => Bool.noConfusion (c17.symm.trans q.2))])
    · obtain ⟨t', ht, rfl⟩ := isT_nat wf c5
      have e : reachedF nw nL (nI t') n = _ := if_pos ⟨c5, c17⟩
      rw [nI_clamp (by omega)] at e
      refine X.aload iX7_reached_20 rfl ?_
      refine X.iload iX7_reached_21 rfl ?_
      refine X.aload iX7_reached_22 rfl ?_
      refine X.getf iX7_reached_23 (by first | rfl | repeat (first | assumption | exact xup_eq _ _ _ | rw [xup_ne _ _ (by first | decide | omega | assumption)])) rfl ?_
      refine X.pushi (v := nI 2) iX7_reached_26 ?_
      refine X.ialdN iX7_reached_27 (by first | rfl | repeat (first | assumption | exact xup_eq _ _ _ | rw [xup_ne _ _ (by first | decide | omega | assumption)])) (by omega) (by decide) ?_
      refine X.iload iX7_reached_28 rfl ?_
      refine X.iadd iX7_reached_29 ?_
      refine X.pushi (v := nI 0) iX7_reached_30 ?_
      refine X.callVi iX7_reached_31 (c_X7_reachers (d := d) (lean := false) mh_MO wf.2.1 wf.2.2.2.1 (by omega)) (by first | rfl | repeat (first | assumption | exact xup_eq _ _ _ | rw [xup_ne _ _ (by first | decide | omega | assumption)])) rfl rfl (xfit _ _ _) (Nat.le_of_ble_eq_true rfl) ?_
      refine X.goto iX7_reached_34 ?_
      first
      | (refine X.iret iX7_reached_38 ⟨?_, rfl⟩; rw [e])
      | (refine X.iret iX7_reached_38 ⟨?_, rfl⟩; rw [reachedF, if_neg (fun q => Bool.noConfusion (c5.symm.trans q.1))])
      | (refine X.iret iX7_reached_38 ⟨?_, rfl⟩; rw [reachedF, if_neg (fun q => Bool.noConfusion (c17.symm.trans q.2))])
/-- the first day, from k on, f of them looked at, behind which nothing is left -/
def gaN (nw : Nat → Int32) (nT nL : Nat) : Nat → Nat → Nat
  | 0, k => k
  | f + 1, k => if 0 < sumF (gbN nw nT nL k) nT then gaN nw nT nL f (k + 1) else k
theorem gaN_le (nw : Nat → Int32) (nT nL : Nat) : ∀ f k, gaN nw nT nL f k ≤ k + f
  | 0, k => Nat.le_refl _
  | f + 1, k => by
    unfold gaN
    split
    · have := gaN_le nw nT nL f (k + 1); omega
    · omega
theorem gathered_loop {d nT nL : Nat} {h : XH} {nw tp ro rd ud as kp la sz : Nat → Int32} {it mv : Nat → Int64} {ty pl : Int32} {fa : Bool} {un ku : Int32} {ik : Bool} (wf : WF nw nT nL) : ∀ f k, k + f = 61 → X xT mX7_gathered (xR (d + 3, 0, 0)) (0, 0) 6 [some (.ref 98), some (.int (nI k))] [] (mh h (gbN nw nT nL k) tp ro rd ud (cp nw as 43) kp la sz it mv ty pl fa un ku ik) (fun v h' => v = some (.int (if gaN nw nT nL f k < 61 then nI (gaN nw nT nL f k) else -4)) ∧ h' = (mh h nw tp ro rd ud (cp nw as 43) kp la sz it mv ty pl fa un ku ik)) := by
  have fin : ∀ k m, k ≤ 61 → m = k → X xT mX7_gathered (xR (d + 3, 0, 0)) (0, 0) 30 [some (.ref 98), some (.int (nI k))] [] (mh h (gbN nw nT nL k) tp ro rd ud (cp nw as 43) kp la sz it mv ty pl fa un ku ik) (fun v h' => v = some (.int (if m < 61 then nI m else -4)) ∧ h' = (mh h nw tp ro rd ud (cp nw as 43) kp la sz it mv ty pl fa un ku ik)) := by
    intro k m hk hm
    subst hm
    refine X.aload iX7_gathered_30 rfl ?_
    refine X.callVv iX7_gathered_31 (g_backs (d := d + 2)) (by first | rfl | repeat (first | assumption | exact xup_eq _ _ _ | rw [xup_ne _ _ (by first | decide | omega | assumption)])) rfl rfl (xfit _ _ _) (Nat.le_of_ble_eq_true rfl) ?_
    rw [cp_back (gbN_far wf m)]
    refine X.iload iX7_gathered_34 rfl ?_
    refine X.pushi (v := nI 61) iX7_gathered_35 ?_
    refine X.cmge iX7_gathered_37 (fun c37 => ?_) (fun c37 => ?_)
    · refine X.pushi iX7_gathered_44 ?_
      first
      | (refine X.iret iX7_gathered_46 ⟨?_, rfl⟩; rw [if_neg (fun q => nI_ge q (by decide) c37)])
      | (refine X.iret iX7_gathered_46 ⟨?_, rfl⟩; rw [if_pos (Nat.lt_of_not_le (fun q => c37 (nI_le q (by omega))))])
    · refine X.iload iX7_gathered_40 rfl ?_
      refine X.goto iX7_gathered_41 ?_
      first
      | (refine X.iret iX7_gathered_46 ⟨?_, rfl⟩; rw [if_neg (fun q => nI_ge q (by decide) c37)])
      | (refine X.iret iX7_gathered_46 ⟨?_, rfl⟩; rw [if_pos (Nat.lt_of_not_le (fun q => c37 (nI_le q (by omega))))])
  intro f
  induction f with
  | zero =>
    intro k hk
    have : k = 61 := by omega
    subst this
    refine X.iload iX7_gathered_6 rfl ?_
    refine X.pushi (v := nI 61) iX7_gathered_7 ?_
    refine X.cmge iX7_gathered_9 (fun c9 => ?_) (fun c9 => ?_)
    · exact fin 61 _ (by omega) rfl
    · exact absurd (Int32.le_refl _) c9
  | succ f ih =>
    intro k hk
    have e : gaN nw nT nL (f + 1) k = if 0 < sumF (gbN nw nT nL k) nT then gaN nw nT nL f (k + 1) else k := rfl
    rw [e]
    refine X.iload iX7_gathered_6 rfl ?_
    refine X.pushi (v := nI 61) iX7_gathered_7 ?_
    refine X.cmge iX7_gathered_9 (fun c9 => ?_) (fun c9 => ?_)
    · exact absurd c9 (nI_ge (by omega) (by decide))
    · refine X.aload iX7_gathered_12 rfl ?_
      refine X.callVi iX7_gathered_13 (c_X7_allFruit (d := d + 1) mh_MO (gbN_wf wf k).1 wf.2.2.1) (by first | rfl | repeat (first | assumption | exact xup_eq _ _ _ | rw [xup_ne _ _ (by first | decide | omega | assumption)])) rfl rfl (xfit _ _ _) (Nat.le_of_ble_eq_true rfl) ?_
      refine X.ifle iX7_gathered_16 (fun c16 => ?_) (fun c16 => ?_)
      · rw [if_neg (Int32.not_lt.mpr c16)]
        exact fin k k (by omega) rfl
      · refine X.aload iX7_gathered_19 rfl ?_
        refine X.pushi (v := nI 0) iX7_gathered_20 ?_
        refine X.callVv iX7_gathered_21 (g_goesBy (d := d) (gbN_wf wf k)) (by first | rfl | repeat (first | assumption | exact xup_eq _ _ _ | rw [xup_ne _ _ (by first | decide | omega | assumption)])) rfl rfl (xfit _ _ _) (Nat.le_of_ble_eq_true rfl) ?_
        refine X.iinc iX7_gathered_24 rfl rfl rfl ?_
        refine X.goto iX7_gathered_27 ?_
        rw [if_pos (Int32.not_le.mp c16), nI_1]
        exact ih (k + 1) (by omega)
theorem c_X7_gathered {d nT nL : Nat} {h : XH} {nw tp ro rd ud as kp la sz : Nat → Int32} {it mv : Nat → Int64} {ty pl : Int32} {fa : Bool} {un ku : Int32} {ik : Bool} (wf : WF nw nT nL) : MetH mX7_gathered (d + 3, 0, 0) [.ref 98] (mh h nw tp ro rd ud as kp la sz it mv ty pl fa un ku ik) (if gaN nw nT nL 61 0 < 61 then nI (gaN nw nT nL 61 0) else -4) (mh h nw tp ro rd ud (cp nw as 43) kp la sz it mv ty pl fa un ku ik) := by
  refine MetX.of (by decide) rfl (Nat.le_of_ble_eq_true rfl) ?_
  refine X.aload iX7_gathered_0 rfl ?_
  refine X.callVv iX7_gathered_1 (g_asides (d := d + 2)) (by first | rfl | repeat (first | assumption | exact xup_eq _ _ _ | rw [xup_ne _ _ (by first | decide | omega | assumption)])) rfl rfl (xfit _ _ _) (Nat.le_of_ble_eq_true rfl) ?_
  refine X.pushi (v := nI 0) iX7_gathered_4 ?_
  refine X.istore iX7_gathered_5 rfl rfl ?_
  exact gathered_loop wf 61 0 rfl
