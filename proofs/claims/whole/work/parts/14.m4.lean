/-! the reference: its public calls, first half, over the cells mh -/
theorem g_goesBy {d nT nL : Nat} {away : Int32} {h : XH} {nw tp ro rd ud as kp la sz : Nat → Int32} {it mv : Nat → Int64} {ty pl : Int32} {fa : Bool} {un ku : Int32} {ik : Bool} (wf : WF nw nT nL) : MetV mX7_goesBy (d + 2, 0, 0) [.ref 98, .int away] (mh h nw tp ro rd ud as kp la sz it mv ty pl fa un ku ik) (mh h (gb nw nT nL away) tp ro rd ud as kp la sz it mv ty pl fa un ku ik) := by
  have := c_X7_goesBy (d := d) (away := away) (h := (mh h nw tp ro rd ud as kp la sz it mv ty pl fa un ku ik)) mh_MO wf
  rwa [mh99] at this
theorem g_goesOn {d nT nL n : Nat} {h : XH} {nw tp ro rd ud as kp la sz : Nat → Int32} {it mv : Nat → Int64} {ty pl : Int32} {fa : Bool} {un ku : Int32} {ik : Bool} (wf : WF nw nT nL) (hn : n < 2 ^ 31) : MetV mX7_goesOn (d + 3, 0, 0) [.ref 98, .int (nI n)] (mh h nw tp ro rd ud as kp la sz it mv ty pl fa un ku ik) (mh h (gbN nw nT nL n) tp ro rd ud as kp la sz it mv ty pl fa un ku ik) := by
  have := c_X7_goesOn (d := d) (h := (mh h nw tp ro rd ud as kp la sz it mv ty pl fa un ku ik)) mh_MO wf hn
  rwa [mh99] at this
theorem g_asides {d : Nat} {h : XH} {nw tp ro rd ud as kp la sz : Nat → Int32} {it mv : Nat → Int64} {ty pl : Int32} {fa : Bool} {un ku : Int32} {ik : Bool} : MetV mX7_asides (d, 0, 0) [.ref 98] (mh h nw tp ro rd ud as kp la sz it mv ty pl fa un ku ik) (mh h nw tp ro rd ud (cp nw as 43) kp la sz it mv ty pl fa un ku ik) := by
  have := c_X7_asides (d := d) (h := (mh h nw tp ro rd ud as kp la sz it mv ty pl fa un ku ik)) rfl rfl rfl
  rwa [mh104] at this
theorem g_backs {d : Nat} {h : XH} {nw tp ro rd ud as kp la sz : Nat → Int32} {it mv : Nat → Int64} {ty pl : Int32} {fa : Bool} {un ku : Int32} {ik : Bool} : MetV mX7_backs (d, 0, 0) [.ref 98] (mh h nw tp ro rd ud as kp la sz it mv ty pl fa un ku ik) (mh h (cp as nw 43) tp ro rd ud as kp la sz it mv ty pl fa un ku ik) := by
  have := c_X7_backs (d := d) (h := (mh h nw tp ro rd ud as kp la sz it mv ty pl fa un ku ik)) rfl rfl rfl
  rwa [mh99] at this
theorem g_takes {d t : Nat} {n : Int32} {h : XH} {nw tp ro rd ud as kp la sz : Nat → Int32} {it mv : Nat → Int64} {ty pl : Int32} {fa : Bool} {un ku : Int32} {ik : Bool} (ht : t < 6) : MetV mX7_takes (d, 0, 0) [.ref 98, .int (nI t), .int n] (mh h nw tp ro rd ud as kp la sz it mv ty pl fa un ku ik) (mh h (upd nw (9 + 3 * t + 1) (nw (9 + 3 * t + 1) - n)) tp ro rd ud as kp la sz it mv ty pl fa un ku ik) := by
  have := c_X7_takes (d := d) (n := n) (h := (mh h nw tp ro rd ud as kp la sz it mv ty pl fa un ku ik)) mh_MO ht
  rwa [mh99] at this
/-- what is 43 and on, a day leaves -/
def Far (f g : Nat → Int32) : Prop := ∀ i, 43 ≤ i → f i = g i
theorem Far.upd {f g : Nat → Int32} (h : Far f g) {k : Nat} (hk : k < 43) (x : Int32) : Far (upd f k x) g := fun i hi => by rw [upd_ne _ _ (by omega)]; exact h i hi
theorem Far.trans {f g k : Nat → Int32} (h : Far f g) (h2 : Far g k) : Far f k := fun i hi => (h i hi).trans (h2 i hi)
theorem Far.rf (f : Nat → Int32) : Far f f := fun _ _ => rfl
theorem gbL_far {nw : Nat → Int32} {nT nL : Nat} (h : WF nw nT nL) (away : Int32) {l : Nat} (hl : l < nL) : Far (gbL nw away l) nw := by
  unfold gbL
  split
  · exact Far.rf _
  · rename_i c
    obtain ⟨t, ht, et⟩ := (h.2.2.2.2 l hl).resolve_left c
    have := h.2.2.1
    split
    · rw [et, nI_clamp (by omega)]
      exact ((((Far.rf nw).upd (by omega) _).upd (by omega) _).upd (by omega) _)
    · exact (Far.rf nw).upd (by omega) _
theorem gb1_far {nw : Nat → Int32} {nT nL : Nat} (h : WF nw nT nL) (away : Int32) : ∀ k, k ≤ nL → Far (gb1 nw away k) nw
  | 0, _ => Far.rf _
  | k + 1, hk => (gbL_far (gb1_wf h away k (by omega)) away (by omega)).trans (gb1_far h away k (by omega))
theorem gb2_far {nw : Nat → Int32} : ∀ k, k ≤ 6 → Far (gb2 nw k) nw
  | 0, _ => Far.rf _
  | k + 1, hk => ((gb2_far k (by omega)).upd (by omega) _).upd (by omega) _
theorem gb_far {nw : Nat → Int32} {nT nL : Nat} (h : WF nw nT nL) (away : Int32) : Far (gb nw nT nL away) nw := ((gb2_far nT h.2.2.1).upd (by omega) _).trans (gb1_far h away nL (Nat.le_refl _))
theorem gbN_far {nw : Nat → Int32} {nT nL : Nat} (h : WF nw nT nL) : ∀ k, Far (gbN nw nT nL k) nw
  | 0 => Far.rf _
  | k + 1 => (gb_far (gbN_wf h k) _).trans (gbN_far h k)
theorem cp_back {nw as f : Nat → Int32} (h : Far f nw) : cp (cp nw as 43) f 43 = nw := by
  funext i
  unfold cp
  by_cases hi : i < 43
  · rw [if_pos hi, if_pos hi]
  · rw [if_neg hi]; exact h i (by omega)
def ofF (nw : Nat → Int32) (nL : Nat) (t w : Int32) : Int32 :=
  if isT nw t = true ∧ inI w (nI 0) (nI 4) = true then (if w < nI 3 then nw (9 + 3 * t.toNatClampNeg + w.toNatClampNeg) else if w = nI 3 then lnF nw t nL else rcF nw t.toNatClampNeg (nw 2) true nL) else -1
theorem c_X7_of {d nT nL : Nat} {t w : Int32} {h : XH} {nw tp ro rd ud as kp la sz : Nat → Int32} {it mv : Nat → Int64} {ty pl : Int32} {fa : Bool} {un ku : Int32} {ik : Bool} (wf : WF nw nT nL) : MetI mX7_of (d + 3, 0, 0) [.ref 98, .int t, .int w] (mh h nw tp ro rd ud as kp la sz it mv ty pl fa un ku ik) (ofF nw nL t w) := by
  have hT := wf.2.2.1
  have hL := wf.2.2.2.1
  refine MetX.of (by decide) rfl (Nat.le_of_ble_eq_true rfl) ?_
  refine X.aload iX7_of_0 rfl ?_
  refine X.iload iX7_of_1 rfl ?_
  refine X.callVi iX7_of_2 (c_X7_isTree (d := d + 1) mh_MO) (by first | rfl | repeat (first | assumption | exact xup_eq _ _ _ | rw [xup_ne _ _ (by first | decide | omega | assumption)])) rfl rfl (xfit _ _ _) (Nat.le_of_ble_eq_true rfl) ?_
  refine X.ifeqB iX7_of_5 (fun c5 => ?_) (fun c5 => ?_)
  · refine X.pushi iX7_of_20 ?_
    first
    | (refine X.iret iX7_of_21 ⟨?_, rfl⟩; rw [ofF, if_neg (fun q => Bool.noConfusion (c5.symm.trans q.1))])
    | (refine X.iret iX7_of_21 ⟨?_, rfl⟩; rw [ofF, if_neg (fun q => Bool.noConfusion (c17.symm.trans q.2))])
  · refine X.iload iX7_of_8 rfl ?_
    refine X.i2l iX7_of_9 ?_
    refine X.pushl iX7_of_10 ?_
    refine X.pushl iX7_of_11 ?_
    refine X.callSi iX7_of_14 (c7_inI (d := d + 2) (a := nI 0) (b := nI 4) (by decide) (by decide)) rfl rfl (xfit _ _ _) (Nat.le_of_ble_eq_true rfl) ?_
    refine X.ifneB iX7_of_17 (fun c17 => ?_) (fun c17 => ?_)
    · obtain ⟨t', ht, rfl⟩ := isT_nat wf c5
      obtain ⟨w', -, hw, rfl⟩ := inI_nat (by decide) (by decide) c17
      have e : ofF nw nL (nI t') (nI w') = _ := if_pos ⟨c5, c17⟩
      rw [nI_clamp (by omega), nI_clamp (by omega)] at e
      refine X.iload iX7_of_22 rfl ?_
      refine X.pushi (v := nI 3) iX7_of_23 ?_
      refine X.cmge iX7_of_24 (fun c24 => ?_) (fun c24 => ?_)
      · refine X.iload iX7_of_36 rfl ?_
        refine X.pushi (v := nI 3) iX7_of_37 ?_
        refine X.cmne iX7_of_38 (fun c38 => ?_) (fun c38 => ?_)
        · refine X.aload iX7_of_49 rfl ?_
          refine X.iload iX7_of_50 rfl ?_
          refine X.aload iX7_of_51 rfl ?_
          refine X.getf iX7_of_52 (by first | rfl | repeat (first | assumption | exact xup_eq _ _ _ | rw [xup_ne _ _ (by first | decide | omega | assumption)])) rfl ?_
          refine X.pushi (v := nI 2) iX7_of_55 ?_
          refine X.ialdN iX7_of_56 (by first | rfl | repeat (first | assumption | exact xup_eq _ _ _ | rw [xup_ne _ _ (by first | decide | omega | assumption)])) (by omega) (by decide) ?_
          refine X.pushi (v := nI 1) iX7_of_57 ?_
          refine X.callVi iX7_of_58 (c_X7_reachers (d := d) (lean := true) mh_MO wf.2.1 hL (by omega)) (by first | rfl | repeat (first | assumption | exact xup_eq _ _ _ | rw [xup_ne _ _ (by first | decide | omega | assumption)])) rfl rfl (xfit _ _ _) (Nat.le_of_ble_eq_true rfl) ?_
          first
          | (refine X.iret iX7_of_61 ⟨?_, rfl⟩; rw [e, if_pos (Int32.not_le.mp c24)])
          | (refine X.iret iX7_of_61 ⟨?_, rfl⟩; rw [e, if_neg (Int32.not_lt.mpr c24), if_pos c38])
          | (refine X.iret iX7_of_61 ⟨?_, rfl⟩; rw [e, if_neg (Int32.not_lt.mpr c24), if_neg c38])
        · refine X.aload iX7_of_41 rfl ?_
          refine X.iload iX7_of_42 rfl ?_
          refine X.callVi iX7_of_43 (c_X7_leaners (d := d) mh_MO wf.2.1 hL) (by first | rfl | repeat (first | assumption | exact xup_eq _ _ _ | rw [xup_ne _ _ (by first | decide | omega | assumption)])) rfl rfl (xfit _ _ _) (Nat.le_of_ble_eq_true rfl) ?_
          refine X.goto iX7_of_46 ?_
          first
          | (refine X.iret iX7_of_61 ⟨?_, rfl⟩; rw [e, if_pos (Int32.not_le.mp c24)])
          | (refine X.iret iX7_of_61 ⟨?_, rfl⟩; rw [e, if_neg (Int32.not_lt.mpr c24), if_pos c38])
          | (refine X.iret iX7_of_61 ⟨?_, rfl⟩; rw [e, if_neg (Int32.not_lt.mpr c24), if_neg c38])
      · refine X.aload iX7_of_27 rfl ?_
        refine X.iload iX7_of_28 rfl ?_
        refine X.iload iX7_of_29 rfl ?_
        have w3 : w' < 3 := by rcases Nat.lt_or_ge w' 3 with q | q; exact q; exact absurd (nI_le q (by omega)) c24
        refine X.callVi iX7_of_30 (c_X7_ofTree (d := d + 2) mh_MO (by omega)) (by first | rfl | repeat (first | assumption | exact xup_eq _ _ _ | rw [xup_ne _ _ (by first | decide | omega | assumption)])) rfl rfl (xfit _ _ _) (Nat.le_of_ble_eq_true rfl) ?_
        refine X.goto iX7_of_33 ?_
        first
        | (refine X.iret iX7_of_61 ⟨?_, rfl⟩; rw [e, if_pos (Int32.not_le.mp c24)])
        | (refine X.iret iX7_of_61 ⟨?_, rfl⟩; rw [e, if_neg (Int32.not_lt.mpr c24), if_pos c38])
        | (refine X.iret iX7_of_61 ⟨?_, rfl⟩; rw [e, if_neg (Int32.not_lt.mpr c24), if_neg c38])
    · refine X.pushi iX7_of_20 ?_
      first
      | (refine X.iret iX7_of_21 ⟨?_, rfl⟩; rw [ofF, if_neg (fun q => Bool.noConfusion (c5.symm.trans q.1))])
      | (refine X.iret iX7_of_21 ⟨?_, rfl⟩; rw [ofF, if_neg (fun q => Bool.noConfusion (c17.symm.trans q.2))])
/-- the trees that a ladder reaches -/
def trF (nw : Nat → Int32) (l : Nat) (day : Int32) : Nat → Int32
  | 0 => nI 0
  | k + 1 => trF nw l day k ||| (if rcI nw l k day = true then bitI k else nI 0)
def atF (nw : Nat → Int32) (nT : Nat) (l w : Int32) : Int32 :=
  if isL nw l = true ∧ inI w (nI 0) (nI 5) = true then (if w < nI 4 then nw (27 + 4 * l.toNatClampNeg + w.toNatClampNeg) else if w = nI 4 then reachI (nw (27 + 4 * l.toNatClampNeg + 0)) (nw (27 + 4 * l.toNatClampNeg + 1)) (nw 2) else trF nw l.toNatClampNeg (nw 2) nT) else -1
theorem at_loop {d nT nL l w : Nat} {h : XH} {nw tp ro rd ud as kp la sz : Nat → Int32} {it mv : Nat → Int64} {ty pl : Int32} {fa : Bool} {un ku : Int32} {ik : Bool} (wf : WF nw nT nL) (hl : l < nL) (hw : w ≤ 5) (hw4 : 4 ≤ w) : ∀ k, k ≤ nT → X xT mX7_at (xR (d + 2, 0, 0)) (0, 0) 39 [some (.ref 98), some (.int (nI l)), some (.int (nI w)), some (.int (trF nw l (nw 2) k)), some (.int (nI k))] [] (mh h nw tp ro rd ud as kp la sz it mv ty pl fa un ku ik) (fun v h' => v = some (.int (if nI w = nI 4 then reachI (nw (27 + 4 * l + 0)) (nw (27 + 4 * l + 1)) (nw 2) else trF nw l (nw 2) nT)) ∧ h' = (mh h nw tp ro rd ud as kp la sz it mv ty pl fa un ku ik)) := by
  have hT := wf.2.2.1
  have hL := wf.2.2.2.1
  refine xloop nT ?_ ?_
  · refine X.iload iX7_at_39 rfl ?_
    refine X.aload iX7_at_41 rfl ?_
    refine X.getf iX7_at_42 (by first | rfl | repeat (first | assumption | exact xup_eq _ _ _ | rw [xup_ne _ _ (by first | decide | omega | assumption)])) rfl ?_
    refine X.pushi (v := nI 0) iX7_at_45 ?_
    refine X.ialdN iX7_at_46 (by first | rfl | repeat (first | assumption | exact xup_eq _ _ _ | rw [xup_ne _ _ (by first | decide | omega | assumption)])) (by omega) (by decide) ?_
    refine X.cmge iX7_at_47 (fun c47 => ?_) (fun c47 => ?_)
    · refine X.iload iX7_at_83 rfl ?_
      refine X.pushi (v := nI 4) iX7_at_84 ?_
      refine X.cmne iX7_at_85 (fun c85 => ?_) (fun c85 => ?_)
      · refine X.iload iX7_at_112 rfl ?_
        first
        | (refine X.iret iX7_at_113 ⟨?_, rfl⟩; rw [if_pos c85])
        | (refine X.iret iX7_at_113 ⟨?_, rfl⟩; rw [if_neg c85])
      · refine X.aload iX7_at_88 rfl ?_
        refine X.iload iX7_at_89 rfl ?_
        refine X.pushi (v := nI 0) iX7_at_90 ?_
        refine X.callVi iX7_at_91 (c_X7_ofLadder (d := d + 1) (w := 0) mh_MO (by omega)) (by first | rfl | repeat (first | assumption | exact xup_eq _ _ _ | rw [xup_ne _ _ (by first | decide | omega | assumption)])) rfl rfl (xfit _ _ _) (Nat.le_of_ble_eq_true rfl) ?_
        refine X.aload iX7_at_94 rfl ?_
        refine X.iload iX7_at_95 rfl ?_
        refine X.pushi (v := nI 1) iX7_at_96 ?_
        refine X.callVi iX7_at_97 (c_X7_ofLadder (d := d + 1) (w := 1) mh_MO (by omega)) (by first | rfl | repeat (first | assumption | exact xup_eq _ _ _ | rw [xup_ne _ _ (by first | decide | omega | assumption)])) rfl rfl (xfit _ _ _) (Nat.le_of_ble_eq_true rfl) ?_
        refine X.aload iX7_at_100 rfl ?_
        refine X.getf iX7_at_101 (by first | rfl | repeat (first | assumption | exact xup_eq _ _ _ | rw [xup_ne _ _ (by first | decide | omega | assumption)])) rfl ?_
        refine X.pushi (v := nI 2) iX7_at_104 ?_
        refine X.ialdN iX7_at_105 (by first | rfl | repeat (first | assumption | exact xup_eq _ _ _ | rw [xup_ne _ _ (by first | decide | omega | assumption)])) (by omega) (by decide) ?_
        refine X.callSi iX7_at_106 (c_X7_reaches (d + 1) _ _ _ _) rfl rfl (xfit _ _ _) (Nat.le_of_ble_eq_true rfl) ?_
        refine X.goto iX7_at_109 ?_
        first
        | (refine X.iret iX7_at_113 ⟨?_, rfl⟩; rw [if_pos c85])
        | (refine X.iret iX7_at_113 ⟨?_, rfl⟩; rw [if_neg c85])
    · exact absurd (by rw [show nw 0 = nI nT from wf.1]; exact nI_le (Nat.le_refl _) (by omega)) c47
  · intro k hk ih
    rw [show trF nw l (nw 2) (k + 1) = trF nw l (nw 2) k ||| (if rcI nw l k (nw 2) = true then bitI k else nI 0) from rfl] at ih
    refine X.iload iX7_at_39 rfl ?_
    refine X.aload iX7_at_41 rfl ?_
    refine X.getf iX7_at_42 (by first | rfl | repeat (first | assumption | exact xup_eq _ _ _ | rw [xup_ne _ _ (by first | decide | omega | assumption)])) rfl ?_
    refine X.pushi (v := nI 0) iX7_at_45 ?_
    refine X.ialdN iX7_at_46 (by first | rfl | repeat (first | assumption | exact xup_eq _ _ _ | rw [xup_ne _ _ (by first | decide | omega | assumption)])) (by omega) (by decide) ?_
    refine X.cmge iX7_at_47 (fun c47 => ?_) (fun c47 => ?_)
    · exact absurd (by rw [← show nw 0 = nI nT from wf.1]; exact c47) (nI_ge hk (by omega))
    · refine X.iload iX7_at_50 rfl ?_
      refine X.aload iX7_at_51 rfl ?_
      refine X.iload iX7_at_52 rfl ?_
      refine X.iload iX7_at_53 rfl ?_
      refine X.aload iX7_at_55 rfl ?_
      refine X.getf iX7_at_56 (by first | rfl | repeat (first | assumption | exact xup_eq _ _ _ | rw [xup_ne _ _ (by first | decide | omega | assumption)])) rfl ?_
      refine X.pushi (v := nI 2) iX7_at_59 ?_
      refine X.ialdN iX7_at_60 (by first | rfl | repeat (first | assumption | exact xup_eq _ _ _ | rw [xup_ne _ _ (by first | decide | omega | assumption)])) (by omega) (by decide) ?_
      refine X.callVi iX7_at_61 (c_X7_isReached (d := d) mh_MO (by omega) (by omega)) (by first | rfl | repeat (first | assumption | exact xup_eq _ _ _ | rw [xup_ne _ _ (by first | decide | omega | assumption)])) rfl rfl (xfit _ _ _) (Nat.le_of_ble_eq_true rfl) ?_
      refine X.ifeqB iX7_at_64 (fun c64 => ?_) (fun c64 => ?_)
      · refine X.pushi (v := nI 0) iX7_at_74 ?_
        refine X.ior iX7_at_75 ?_
        refine X.istore iX7_at_76 rfl rfl ?_
        refine X.iinc iX7_at_77 rfl rfl rfl ?_
        refine X.goto iX7_at_80 ?_
        rw [nI_1]
        first
        | (rw [if_pos c64] at ih; exact ih)
        | (rw [if_neg (fun q => Bool.noConfusion (c64.symm.trans q))] at ih; exact ih)
      · refine X.pushi (v := nI 1) iX7_at_67 ?_
        refine X.iload iX7_at_68 rfl ?_
        refine X.ishl iX7_at_70 ?_
        refine X.goto iX7_at_71 ?_
        refine X.ior iX7_at_75 ?_
        refine X.istore iX7_at_76 rfl rfl ?_
        refine X.iinc iX7_at_77 rfl rfl rfl ?_
        refine X.goto iX7_at_80 ?_
        rw [nI_1]
        first
        | (rw [if_pos c64] at ih; exact ih)
        | (rw [if_neg (fun q => Bool.noConfusion (c64.symm.trans q))] at ih; exact ih)
theorem c_X7_at {d nT nL : Nat} {l w : Int32} {h : XH} {nw tp ro rd ud as kp la sz : Nat → Int32} {it mv : Nat → Int64} {ty pl : Int32} {fa : Bool} {un ku : Int32} {ik : Bool} (wf : WF nw nT nL) : MetI mX7_at (d + 2, 0, 0) [.ref 98, .int l, .int w] (mh h nw tp ro rd ud as kp la sz it mv ty pl fa un ku ik) (atF nw nT l w) := by
  have hT := wf.2.2.1
  have hL := wf.2.2.2.1
  refine MetX.of (by decide) rfl (Nat.le_of_ble_eq_true rfl) ?_
  refine X.aload iX7_at_0 rfl ?_
  refine X.iload iX7_at_1 rfl ?_
  refine X.callVi iX7_at_2 (c_X7_isLadder (d := d) mh_MO) (by first | rfl | repeat (first | assumption | exact xup_eq _ _ _ | rw [xup_ne _ _ (by first | decide | omega | assumption)])) rfl rfl (xfit _ _ _) (Nat.le_of_ble_eq_true rfl) ?_
  refine X.ifeqB iX7_at_5 (fun c5 => ?_) (fun c5 => ?_)
  · refine X.pushi iX7_at_20 ?_
    first
    | (refine X.iret iX7_at_21 ⟨?_, rfl⟩; rw [atF, if_neg (fun q => Bool.noConfusion (c5.symm.trans q.1))])
    | (refine X.iret iX7_at_21 ⟨?_, rfl⟩; rw [atF, if_neg (fun q => Bool.noConfusion (c17.symm.trans q.2))])
  · refine X.iload iX7_at_8 rfl ?_
    refine X.i2l iX7_at_9 ?_
    refine X.pushl iX7_at_10 ?_
    refine X.pushl iX7_at_11 ?_
    refine X.callSi iX7_at_14 (c7_inI (d := d + 1) (a := nI 0) (b := nI 5) (by decide) (by decide)) rfl rfl (xfit _ _ _) (Nat.le_of_ble_eq_true rfl) ?_
    refine X.ifneB iX7_at_17 (fun c17 => ?_) (fun c17 => ?_)
    · obtain ⟨l', hl, rfl⟩ := isL_nat wf c5
      obtain ⟨w', -, hw, rfl⟩ := inI_nat (by decide) (by decide) c17
      have e : atF nw nT (nI l') (nI w') = _ := if_pos ⟨c5, c17⟩
      rw [nI_clamp (by omega), nI_clamp (by omega)] at e
      rw [e]
      refine X.iload iX7_at_22 rfl ?_
      refine X.pushi (v := nI 4) iX7_at_23 ?_
      refine X.cmge iX7_at_24 (fun c24 => ?_) (fun c24 => ?_)
      · refine X.pushi (v := nI 0) iX7_at_34 ?_
        refine X.istore iX7_at_35 rfl rfl ?_
        refine X.pushi (v := nI 0) iX7_at_36 ?_
        refine X.istore iX7_at_37 rfl rfl ?_
        rw [if_neg (Int32.not_lt.mpr c24)]
        exact at_loop wf hl hw ((nI_leI (by decide) (by omega)).mp c24) 0 (Nat.zero_le _)
      · refine X.aload iX7_at_27 rfl ?_
        refine X.iload iX7_at_28 rfl ?_
        refine X.iload iX7_at_29 rfl ?_
        have w3 : w' < 4 := by rcases Nat.lt_or_ge w' 4 with q | q; exact q; exact absurd (nI_le q (by omega)) c24
        refine X.callVi iX7_at_30 (c_X7_ofLadder (d := d + 1) mh_MO (by omega)) (by first | rfl | repeat (first | assumption | exact xup_eq _ _ _ | rw [xup_ne _ _ (by first | decide | omega | assumption)])) rfl rfl (xfit _ _ _) (Nat.le_of_ble_eq_true rfl) ?_
        refine X.iret iX7_at_33 ⟨?_, rfl⟩
        rw [if_pos (Int32.not_le.mp c24)]
    · refine X.pushi iX7_at_20 ?_
      first
      | (refine X.iret iX7_at_21 ⟨?_, rfl⟩; rw [atF, if_neg (fun q => Bool.noConfusion (c5.symm.trans q.1))])
      | (refine X.iret iX7_at_21 ⟨?_, rfl⟩; rw [atF, if_neg (fun q => Bool.noConfusion (c17.symm.trans q.2))])
def ruleOk (w v : Int32) : Bool := (w == nI 0 && inI v (nI 1) (nI 30)) || (w == nI 1 && inI v (nI 0) (nI 9))
def ruleF (nw : Nat → Int32) (w v : Int32) : Int32 := if ruleOk w v = true then nw (6 + w.toNatClampNeg) else -1
def ruleN (nw : Nat → Int32) (w v : Int32) : Nat → Int32 := if ruleOk w v = true then upd nw (6 + w.toNatClampNeg) v else nw
theorem c_X7_rule {d : Nat} {w v : Int32} {h : XH} {nw tp ro rd ud as kp la sz : Nat → Int32} {it mv : Nat → Int64} {ty pl : Int32} {fa : Bool} {un ku : Int32} {ik : Bool} : MetH mX7_rule (d + 1, 0, 0) [.ref 98, .int w, .int v] (mh h nw tp ro rd ud as kp la sz it mv ty pl fa un ku ik) (ruleF nw w v) (mh h (ruleN nw w v) tp ro rd ud as kp la sz it mv ty pl fa un ku ik) := by
  refine MetX.of (by decide) rfl (Nat.le_of_ble_eq_true rfl) ?_
  refine X.iload iX7_rule_0 rfl ?_
  refine X.ifne iX7_rule_1 (fun c1 => ?_) (fun c1 => ?_)
  · refine X.iload iX7_rule_19 rfl ?_
    refine X.pushi (v := nI 1) iX7_rule_20 ?_
    refine X.cmne iX7_rule_21 (fun c21 => ?_) (fun c21 => ?_)
    · refine X.pushi iX7_rule_36 ?_
      have hb : ruleOk w v = false := by
        unfold ruleOk
        first
        | (subst c1; rw [c13]; rfl)
        | (rw [beq_false_of_ne (show w ≠ nI 0 from c1), beq_false_of_ne (show w ≠ nI 1 from c21)]; rfl)
        | (rw [beq_false_of_ne (show w ≠ nI 0 from c1), c33, Bool.and_false, Bool.false_and]; rfl)
      refine X.iret iX7_rule_37 ⟨?_, ?_⟩
      · rw [ruleF, hb]; rfl
      · rw [ruleN, hb]; rfl
    · refine X.iload iX7_rule_24 rfl ?_
      refine X.i2l iX7_rule_25 ?_
      refine X.pushl iX7_rule_26 ?_
      refine X.pushl iX7_rule_27 ?_
      refine X.callSi iX7_rule_30 (c7_inI (d := d) (a := nI 0) (b := nI 9) (by decide) (by decide)) rfl rfl (xfit _ _ _) (Nat.le_of_ble_eq_true rfl) ?_
      refine X.ifneB iX7_rule_33 (fun c33 => ?_) (fun c33 => ?_)
      · have hb : ∃ n, n ≤ 1 ∧ w = nI n ∧ ruleOk w v = true := by
          unfold ruleOk
          first
          | (exact ⟨0, by omega, c1, by rw [c13, show w = nI 0 from c1]; rfl⟩)
          | (exact ⟨1, by omega, c21, by rw [c33, show w = nI 1 from c21]; rfl⟩)
        obtain ⟨n, hn, rfl, hb⟩ := hb
        have er : ruleF nw (nI n) v = nw (6 + n) := by rw [ruleF, if_pos hb, nI_clamp (by omega)]
        have en : ruleN nw (nI n) v = upd nw (6 + n) v := by rw [ruleN, if_pos hb, nI_clamp (by omega)]
        rw [er, en]
        refine X.aload iX7_rule_38 rfl ?_
        refine X.getf iX7_rule_39 (by first | rfl | repeat (first | assumption | exact xup_eq _ _ _ | rw [xup_ne _ _ (by first | decide | omega | assumption)])) rfl ?_
        refine X.pushi (v := nI 6) iX7_rule_42 ?_
        refine X.iload iX7_rule_44 rfl ?_
        refine X.iadd iX7_rule_45 ?_
        refine X.ialdE iX7_rule_46 (by first | rfl | repeat (first | assumption | exact xup_eq _ _ _ | rw [xup_ne _ _ (by first | decide | omega | assumption)])) (nI_add 6 n) (by omega) (by decide) ?_
        refine X.istore iX7_rule_47 rfl rfl ?_
        refine X.aload iX7_rule_48 rfl ?_
        refine X.getf iX7_rule_49 (by first | rfl | repeat (first | assumption | exact xup_eq _ _ _ | rw [xup_ne _ _ (by first | decide | omega | assumption)])) rfl ?_
        refine X.pushi (v := nI 6) iX7_rule_52 ?_
        refine X.iload iX7_rule_54 rfl ?_
        refine X.iadd iX7_rule_55 ?_
        refine X.iload iX7_rule_56 rfl ?_
        refine X.iastE iX7_rule_57 (by first | rfl | repeat (first | assumption | exact xup_eq _ _ _ | rw [xup_ne _ _ (by first | decide | omega | assumption)])) (nI_add 6 n) (by omega) (by decide) ?_
        rw [mh99]
        refine X.iload iX7_rule_58 rfl ?_
        exact X.iret iX7_rule_59 ⟨rfl, rfl⟩
      · refine X.pushi iX7_rule_36 ?_
        have hb : ruleOk w v = false := by
          unfold ruleOk
          first
          | (subst c1; rw [c13]; rfl)
          | (rw [beq_false_of_ne (show w ≠ nI 0 from c1), beq_false_of_ne (show w ≠ nI 1 from c21)]; rfl)
          | (rw [beq_false_of_ne (show w ≠ nI 0 from c1), c33, Bool.and_false, Bool.false_and]; rfl)
        refine X.iret iX7_rule_37 ⟨?_, ?_⟩
        · rw [ruleF, hb]; rfl
        · rw [ruleN, hb]; rfl
  · refine X.iload iX7_rule_4 rfl ?_
    refine X.i2l iX7_rule_5 ?_
    refine X.pushl iX7_rule_6 ?_
    refine X.pushl iX7_rule_7 ?_
    refine X.callSi iX7_rule_10 (c7_inI (d := d) (a := nI 1) (b := nI 30) (by decide) (by decide)) rfl rfl (xfit _ _ _) (Nat.le_of_ble_eq_true rfl) ?_
    refine X.ifneB iX7_rule_13 (fun c13 => ?_) (fun c13 => ?_)
    · have hb : ∃ n, n ≤ 1 ∧ w = nI n ∧ ruleOk w v = true := by
        unfold ruleOk
        first
        | (exact ⟨0, by omega, c1, by rw [c13, show w = nI 0 from c1]; rfl⟩)
        | (exact ⟨1, by omega, c21, by rw [c33, show w = nI 1 from c21]; rfl⟩)
      obtain ⟨n, hn, rfl, hb⟩ := hb
      have er : ruleF nw (nI n) v = nw (6 + n) := by rw [ruleF, if_pos hb, nI_clamp (by omega)]
      have en : ruleN nw (nI n) v = upd nw (6 + n) v := by rw [ruleN, if_pos hb, nI_clamp (by omega)]
      rw [er, en]
      refine X.aload iX7_rule_38 rfl ?_
      refine X.getf iX7_rule_39 (by first | rfl | repeat (first | assumption | exact xup_eq _ _ _ | rw [xup_ne _ _ (by first | decide | omega | assumption)])) rfl ?_
      refine X.pushi (v := nI 6) iX7_rule_42 ?_
      refine X.iload iX7_rule_44 rfl ?_
      refine X.iadd iX7_rule_45 ?_
      refine X.ialdE iX7_rule_46 (by first | rfl | repeat (first | assumption | exact xup_eq _ _ _ | rw [xup_ne _ _ (by first | decide | omega | assumption)])) (nI_add 6 n) (by omega) (by decide) ?_
      refine X.istore iX7_rule_47 rfl rfl ?_
      refine X.aload iX7_rule_48 rfl ?_
      refine X.getf iX7_rule_49 (by first | rfl | repeat (first | assumption | exact xup_eq _ _ _ | rw [xup_ne _ _ (by first | decide | omega | assumption)])) rfl ?_
      refine X.pushi (v := nI 6) iX7_rule_52 ?_
      refine X.iload iX7_rule_54 rfl ?_
      refine X.iadd iX7_rule_55 ?_
      refine X.iload iX7_rule_56 rfl ?_
      refine X.iastE iX7_rule_57 (by first | rfl | repeat (first | assumption | exact xup_eq _ _ _ | rw [xup_ne _ _ (by first | decide | omega | assumption)])) (nI_add 6 n) (by omega) (by decide) ?_
      rw [mh99]
      refine X.iload iX7_rule_58 rfl ?_
      exact X.iret iX7_rule_59 ⟨rfl, rfl⟩
    · refine X.goto iX7_rule_16 ?_
      refine X.pushi iX7_rule_36 ?_
      have hb : ruleOk w v = false := by
        unfold ruleOk
        first
        | (subst c1; rw [c13]; rfl)
        | (rw [beq_false_of_ne (show w ≠ nI 0 from c1), beq_false_of_ne (show w ≠ nI 1 from c21)]; rfl)
        | (rw [beq_false_of_ne (show w ≠ nI 0 from c1), c33, Bool.and_false, Bool.false_and]; rfl)
      refine X.iret iX7_rule_37 ⟨?_, ?_⟩
      · rw [ruleF, hb]; rfl
      · rw [ruleN, hb]; rfl
def countF (nw : Nat → Int32) (nT : Nat) (un w : Int32) : Int32 :=
  if inI w (nI 0) (nI 5) = true then nw w.toNatClampNeg else if w = nI 6 then sumF nw nT else if w = nI 7 then nw 6 else if w = nI 8 then nw 7 else if w = nI 9 then un else -1
theorem c_X7_count {d nT nL : Nat} {w : Int32} {h : XH} {nw tp ro rd ud as kp la sz : Nat → Int32} {it mv : Nat → Int64} {ty pl : Int32} {fa : Bool} {un ku : Int32} {ik : Bool} (wf : WF nw nT nL) : MetI mX7_count (d + 2, 0, 0) [.ref 98, .int w] (mh h nw tp ro rd ud as kp la sz it mv ty pl fa un ku ik) (countF nw nT un w) := by
  refine MetX.of (by decide) rfl (Nat.le_of_ble_eq_true rfl) ?_
  refine X.iload iX7_count_0 rfl ?_
  refine X.i2l iX7_count_1 ?_
  refine X.pushl iX7_count_2 ?_
  refine X.pushl iX7_count_3 ?_
  refine X.callSi iX7_count_6 (c7_inI (d := d + 1) (a := nI 0) (b := nI 5) (by decide) (by decide)) rfl rfl (xfit _ _ _) (Nat.le_of_ble_eq_true rfl) ?_
  refine X.ifeqB iX7_count_9 (fun c9 => ?_) (fun c9 => ?_)
  · have c9' : ¬ inI w (nI 0) (nI 5) = true := fun q => Bool.noConfusion (c9.symm.trans q)
    refine X.iload iX7_count_21 rfl ?_
    refine X.pushi (v := nI 6) iX7_count_22 ?_
    refine X.cmne iX7_count_24 (fun c24 => ?_) (fun c24 => ?_)
    · refine X.iload iX7_count_34 rfl ?_
      refine X.pushi (v := nI 7) iX7_count_35 ?_
      refine X.cmne iX7_count_37 (fun c37 => ?_) (fun c37 => ?_)
      · refine X.iload iX7_count_50 rfl ?_
        refine X.pushi (v := nI 8) iX7_count_51 ?_
        refine X.cmne iX7_count_53 (fun c53 => ?_) (fun c53 => ?_)
        · refine X.iload iX7_count_66 rfl ?_
          refine X.pushi (v := nI 9) iX7_count_67 ?_
          refine X.cmne iX7_count_69 (fun c69 => ?_) (fun c69 => ?_)
          · refine X.pushi iX7_count_79 ?_
            first
            | (refine X.iret iX7_count_80 ⟨?_, rfl⟩; rw [e])
            | (refine X.iret iX7_count_80 ⟨?_, rfl⟩; rw [countF, if_neg c9', if_pos c24])
            | (refine X.iret iX7_count_80 ⟨?_, rfl⟩; rw [countF, if_neg c9', if_neg c24, if_pos c37])
            | (refine X.iret iX7_count_80 ⟨?_, rfl⟩; rw [countF, if_neg c9', if_neg c24, if_neg c37, if_pos c53])
            | (refine X.iret iX7_count_80 ⟨?_, rfl⟩; rw [countF, if_neg c9', if_neg c24, if_neg c37, if_neg c53, if_pos c69])
            | (refine X.iret iX7_count_80 ⟨?_, rfl⟩; rw [countF, if_neg c9', if_neg c24, if_neg c37, if_neg c53, if_neg c69])
          · refine X.aload iX7_count_72 rfl ?_
            refine X.getf iX7_count_73 (by first | rfl | repeat (first | assumption | exact xup_eq _ _ _ | rw [xup_ne _ _ (by first | decide | omega | assumption)])) rfl ?_
            refine X.goto iX7_count_76 ?_
            first
            | (refine X.iret iX7_count_80 ⟨?_, rfl⟩; rw [e])
            | (refine X.iret iX7_count_80 ⟨?_, rfl⟩; rw [countF, if_neg c9', if_pos c24])
            | (refine X.iret iX7_count_80 ⟨?_, rfl⟩; rw [countF, if_neg c9', if_neg c24, if_pos c37])
            | (refine X.iret iX7_count_80 ⟨?_, rfl⟩; rw [countF, if_neg c9', if_neg c24, if_neg c37, if_pos c53])
            | (refine X.iret iX7_count_80 ⟨?_, rfl⟩; rw [countF, if_neg c9', if_neg c24, if_neg c37, if_neg c53, if_pos c69])
            | (refine X.iret iX7_count_80 ⟨?_, rfl⟩; rw [countF, if_neg c9', if_neg c24, if_neg c37, if_neg c53, if_neg c69])
        · refine X.aload iX7_count_56 rfl ?_
          refine X.getf iX7_count_57 (by first | rfl | repeat (first | assumption | exact xup_eq _ _ _ | rw [xup_ne _ _ (by first | decide | omega | assumption)])) rfl ?_
          refine X.pushi (v := nI 7) iX7_count_60 ?_
          refine X.ialdN iX7_count_62 (by first | rfl | repeat (first | assumption | exact xup_eq _ _ _ | rw [xup_ne _ _ (by first | decide | omega | assumption)])) (by omega) (by decide) ?_
          refine X.goto iX7_count_63 ?_
          first
          | (refine X.iret iX7_count_80 ⟨?_, rfl⟩; rw [e])
          | (refine X.iret iX7_count_80 ⟨?_, rfl⟩; rw [countF, if_neg c9', if_pos c24])
          | (refine X.iret iX7_count_80 ⟨?_, rfl⟩; rw [countF, if_neg c9', if_neg c24, if_pos c37])
          | (refine X.iret iX7_count_80 ⟨?_, rfl⟩; rw [countF, if_neg c9', if_neg c24, if_neg c37, if_pos c53])
          | (refine X.iret iX7_count_80 ⟨?_, rfl⟩; rw [countF, if_neg c9', if_neg c24, if_neg c37, if_neg c53, if_pos c69])
          | (refine X.iret iX7_count_80 ⟨?_, rfl⟩; rw [countF, if_neg c9', if_neg c24, if_neg c37, if_neg c53, if_neg c69])
      · refine X.aload iX7_count_40 rfl ?_
        refine X.getf iX7_count_41 (by first | rfl | repeat (first | assumption | exact xup_eq _ _ _ | rw [xup_ne _ _ (by first | decide | omega | assumption)])) rfl ?_
        refine X.pushi (v := nI 6) iX7_count_44 ?_
        refine X.ialdN iX7_count_46 (by first | rfl | repeat (first | assumption | exact xup_eq _ _ _ | rw [xup_ne _ _ (by first | decide | omega | assumption)])) (by omega) (by decide) ?_
        refine X.goto iX7_count_47 ?_
        first
        | (refine X.iret iX7_count_80 ⟨?_, rfl⟩; rw [e])
        | (refine X.iret iX7_count_80 ⟨?_, rfl⟩; rw [countF, if_neg c9', if_pos c24])
        | (refine X.iret iX7_count_80 ⟨?_, rfl⟩; rw [countF, if_neg c9', if_neg c24, if_pos c37])
        | (refine X.iret iX7_count_80 ⟨?_, rfl⟩; rw [countF, if_neg c9', if_neg c24, if_neg c37, if_pos c53])
        | (refine X.iret iX7_count_80 ⟨?_, rfl⟩; rw [countF, if_neg c9', if_neg c24, if_neg c37, if_neg c53, if_pos c69])
        | (refine X.iret iX7_count_80 ⟨?_, rfl⟩; rw [countF, if_neg c9', if_neg c24, if_neg c37, if_neg c53, if_neg c69])
    · refine X.aload iX7_count_27 rfl ?_
      refine X.callVi iX7_count_28 (c_X7_allFruit (d := d) mh_MO wf.1 wf.2.2.1) (by first | rfl | repeat (first | assumption | exact xup_eq _ _ _ | rw [xup_ne _ _ (by first | decide | omega | assumption)])) rfl rfl (xfit _ _ _) (Nat.le_of_ble_eq_true rfl) ?_
      refine X.goto iX7_count_31 ?_
      first
      | (refine X.iret iX7_count_80 ⟨?_, rfl⟩; rw [e])
      | (refine X.iret iX7_count_80 ⟨?_, rfl⟩; rw [countF, if_neg c9', if_pos c24])
      | (refine X.iret iX7_count_80 ⟨?_, rfl⟩; rw [countF, if_neg c9', if_neg c24, if_pos c37])
      | (refine X.iret iX7_count_80 ⟨?_, rfl⟩; rw [countF, if_neg c9', if_neg c24, if_neg c37, if_pos c53])
      | (refine X.iret iX7_count_80 ⟨?_, rfl⟩; rw [countF, if_neg c9', if_neg c24, if_neg c37, if_neg c53, if_pos c69])
      | (refine X.iret iX7_count_80 ⟨?_, rfl⟩; rw [countF, if_neg c9', if_neg c24, if_neg c37, if_neg c53, if_neg c69])
  · obtain ⟨w', -, hw, rfl⟩ := inI_nat (by decide) (by decide) c9
    have e : countF nw nT un (nI w') = nw w' := by rw [countF, if_pos c9, nI_clamp (by omega)]
    refine X.aload iX7_count_12 rfl ?_
    refine X.getf iX7_count_13 (by first | rfl | repeat (first | assumption | exact xup_eq _ _ _ | rw [xup_ne _ _ (by first | decide | omega | assumption)])) rfl ?_
    refine X.iload iX7_count_16 rfl ?_
    refine X.ialdN iX7_count_17 (by first | rfl | repeat (first | assumption | exact xup_eq _ _ _ | rw [xup_ne _ _ (by first | decide | omega | assumption)])) (by omega) (by decide) ?_
    refine X.goto iX7_count_18 ?_
    first
    | (refine X.iret iX7_count_80 ⟨?_, rfl⟩; rw [e])
    | (refine X.iret iX7_count_80 ⟨?_, rfl⟩; rw [countF, if_neg c9', if_pos c24])
    | (refine X.iret iX7_count_80 ⟨?_, rfl⟩; rw [countF, if_neg c9', if_neg c24, if_pos c37])
    | (refine X.iret iX7_count_80 ⟨?_, rfl⟩; rw [countF, if_neg c9', if_neg c24, if_neg c37, if_pos c53])
    | (refine X.iret iX7_count_80 ⟨?_, rfl⟩; rw [countF, if_neg c9', if_neg c24, if_neg c37, if_neg c53, if_pos c69])
    | (refine X.iret iX7_count_80 ⟨?_, rfl⟩; rw [countF, if_neg c9', if_neg c24, if_neg c37, if_neg c53, if_neg c69])
theorem c_X7_type_bad {d : Nat} {c : Int32} {h : XH} {nw tp ro rd ud as kp la sz : Nat → Int32} {it mv : Nat → Int64} {ty pl : Int32} {fa : Bool} {un ku : Int32} {ik : Bool} (hc : inI c (nI 32) (nI 126) = false) : MetI mX7_type (d + 1, 0, 0) [.ref 98, .int c] (mh h nw tp ro rd ud as kp la sz it mv ty pl fa un ku ik) (-1) := by
  refine MetX.of (by decide) rfl (Nat.le_of_ble_eq_true rfl) ?_
  refine X.iload iX7_type_0 rfl ?_
  refine X.i2l iX7_type_1 ?_
  refine X.pushl iX7_type_2 ?_
  refine X.pushl iX7_type_5 ?_
  refine X.callSi iX7_type_8 (c7_inI (d := d) (a := nI 32) (b := nI 126) (by decide) (by decide)) rfl rfl (xfit _ _ _) (Nat.le_of_ble_eq_true rfl) ?_
  refine X.ifneB iX7_type_11 (fun c11 => ?_) (fun c11 => ?_)
  · exact absurd (c11.symm.trans hc) (by decide)
  · refine X.pushi iX7_type_14 ?_
    exact X.iret iX7_type_15 ⟨rfl, rfl⟩
theorem c_X7_type {d n : Nat} {c : Int32} {h : XH} {nw tp ro rd ud as kp la sz : Nat → Int32} {it mv : Nat → Int64} {ty pl : Int32} {fa : Bool} {un ku : Int32} {ik : Bool} (hc : inI c (nI 32) (nI 126) = true) (hn : n ≤ 90) (e : ty = nI n) : MetH mX7_type (d + 1, 0, 0) [.ref 98, .int c] (mh h nw tp ro rd ud as kp la sz it mv ty pl fa un ku ik) (if n = 90 then -3 else nI (n + 1)) (if n = 90 then (mh h nw tp ro rd ud as kp la sz it mv ty pl fa un ku ik) else (mh h nw (upd tp n c) ro rd ud as kp la sz it mv (nI (n + 1)) pl fa un ku ik)) := by
  subst e
  refine MetX.of (by decide) rfl (Nat.le_of_ble_eq_true rfl) ?_
  refine X.iload iX7_type_0 rfl ?_
  refine X.i2l iX7_type_1 ?_
  refine X.pushl iX7_type_2 ?_
  refine X.pushl iX7_type_5 ?_
  refine X.callSi iX7_type_8 (c7_inI (d := d) (a := nI 32) (b := nI 126) (by decide) (by decide)) rfl rfl (xfit _ _ _) (Nat.le_of_ble_eq_true rfl) ?_
  refine X.ifneB iX7_type_11 (fun c11 => ?_) (fun c11 => ?_)
  · refine X.aload iX7_type_16 rfl ?_
    refine X.getf iX7_type_17 (by first | rfl | repeat (first | assumption | exact xup_eq _ _ _ | rw [xup_ne _ _ (by first | decide | omega | assumption)])) rfl ?_
    refine X.pushi (v := nI 90) iX7_type_20 ?_
    refine X.cmne iX7_type_22 (fun c22 => ?_) (fun c22 => ?_)
    · have e6 : ¬ n = 90 := fun q => c22 (by rw [q])
      rw [if_neg e6, if_neg e6]
      refine X.aload iX7_type_28 rfl ?_
      refine X.getf iX7_type_29 (by first | rfl | repeat (first | assumption | exact xup_eq _ _ _ | rw [xup_ne _ _ (by first | decide | omega | assumption)])) rfl ?_
      refine X.aload iX7_type_32 rfl ?_
      refine X.getf iX7_type_33 (by first | rfl | repeat (first | assumption | exact xup_eq _ _ _ | rw [xup_ne _ _ (by first | decide | omega | assumption)])) rfl ?_
      refine X.iload iX7_type_36 rfl ?_
      refine X.iastN iX7_type_37 (by first | rfl | repeat (first | assumption | exact xup_eq _ _ _ | rw [xup_ne _ _ (by first | decide | omega | assumption)])) (by omega) (by decide) ?_
      rw [mh100]
      refine X.aload iX7_type_38 rfl ?_
      refine X.dupa iX7_type_39 ?_
      refine X.getf iX7_type_40 (by first | rfl | repeat (first | assumption | exact xup_eq _ _ _ | rw [xup_ne _ _ (by first | decide | omega | assumption)])) rfl ?_
      refine X.pushi (v := nI 1) iX7_type_43 ?_
      refine X.iadd iX7_type_44 ?_
      rw [nI_add]
      refine X.puti iX7_type_45 rfl (Nat.le_of_ble_eq_true rfl) ?_
      rw [mh98_2]
      refine X.aload iX7_type_48 rfl ?_
      refine X.getf iX7_type_49 rfl rfl ?_
      exact X.iret iX7_type_52 ⟨rfl, rfl⟩
    · refine X.pushi iX7_type_25 ?_
      have e6 : n = 90 := (nI_eq (by omega) (by decide)).mp c22
      exact X.iret iX7_type_27 ⟨by rw [if_pos e6], by rw [if_pos e6]⟩
  · exact absurd (c11.symm.trans hc) (by decide)
