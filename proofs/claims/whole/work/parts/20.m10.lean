/-! the reference: sheets -/
theorem rng (x : Int32) : -2147483648 ≤ x.toInt ∧ x.toInt < 2147483648 := by
  have h1 := Int32.le_toInt x
  have h2 := Int32.toInt_lt x
  omega
theorem wadd (a b c : Int32) : a.toInt64 + b.toInt64 ≤ c.toInt64 ↔ a.toInt + b.toInt ≤ c.toInt := by
  have ha := rng a
  have hb := rng b
  rw [Int64.le_iff_toInt_le, Int64.toInt_add, Int32.toInt_toInt64, Int32.toInt_toInt64, Int32.toInt_toInt64, Int.bmod_eq_of_le (by omega) (by omega)]
theorem c_X7_isSheet {d : Nat} {h : XH} {s : Int32} : MetI mX7_isSheet (d + 1, 0, 0) [.int s] h (bI (inI s (nI 0) (nI 3))) := by
  refine MetX.of (by decide) rfl (Nat.le_of_ble_eq_true rfl) ?_
  refine X.iload iX7_isSheet_0 rfl ?_
  refine X.i2l iX7_isSheet_1 ?_
  refine X.pushl iX7_isSheet_2 ?_
  refine X.pushl iX7_isSheet_3 ?_
  refine X.callSi iX7_isSheet_6 (c7_inI (d := d) (a := nI 0) (b := nI 3) (by decide) (by decide)) rfl rfl (xfit _ _ _) (Nat.le_of_ble_eq_true rfl) ?_
  exact X.zret iX7_isSheet_9 ⟨rfl, rfl⟩
theorem c_X7_isLane {d : Nat} {h : XH} {s : Int32} : MetI mX7_isLane (d + 1, 0, 0) [.int s] h (bI (inI s (nI 0) (nI 3))) := by
  refine MetX.of (by decide) rfl (Nat.le_of_ble_eq_true rfl) ?_
  refine X.iload iX7_isLane_0 rfl ?_
  refine X.i2l iX7_isLane_1 ?_
  refine X.pushl iX7_isLane_2 ?_
  refine X.pushl iX7_isLane_3 ?_
  refine X.callSi iX7_isLane_6 (c7_inI (d := d) (a := nI 0) (b := nI 3) (by decide) (by decide)) rfl rfl (xfit _ _ _) (Nat.le_of_ble_eq_true rfl) ?_
  exact X.zret iX7_isLane_9 ⟨rfl, rfl⟩
def whyF (la sz : Nat → Int32) (s : Nat) (lane fr n : Int32) : Int32 :=
  if 0 ≤ la s then (if la s = lane then (if fr < 0 ∨ n < 0 ∨ (sz s).toInt < fr.toInt + n.toInt then -13 else nI 0) else -12) else -11
theorem whyF_0 {la sz : Nat → Int32} {s z : Nat} {lane fr n : Int32} (hz : sz s = nI z) (hz2 : z ≤ 24) (h : 0 ≤ whyF la sz s lane fr n) : 0 ≤ la s ∧ la s = lane ∧ ∃ i m, fr = nI i ∧ n = nI m ∧ i + m ≤ z ∧ whyF la sz s lane fr n = nI 0 := by
  unfold whyF at h
  by_cases c1 : 0 ≤ la s
  · rw [if_pos c1] at h
    by_cases c2 : la s = lane
    · rw [if_pos c2] at h
      by_cases c3 : fr < 0 ∨ n < 0 ∨ (sz s).toInt < fr.toInt + n.toInt
      · rw [if_pos c3] at h
        exact absurd h (by decide)
      · refine ⟨c1, c2, ?_⟩
        have q1 : ¬ fr < 0 := fun q => c3 (Or.inl q)
        have q2 : ¬ n < 0 := fun q => c3 (Or.inr (Or.inl q))
        have q3 : ¬ (sz s).toInt < fr.toInt + n.toInt := fun q => c3 (Or.inr (Or.inr q))
        obtain ⟨i, hi, rfl⟩ := nI_of q1
        obtain ⟨m, hm, rfl⟩ := nI_of q2
        rw [hz, nI_toInt (by omega), nI_toInt hi, nI_toInt hm] at q3
        refine ⟨i, m, rfl, rfl, by omega, ?_⟩
        rw [whyF, if_pos c1, if_pos c2, if_neg c3]
    · rw [if_neg c2] at h
      exact absurd h (by decide)
  · rw [if_neg c1] at h
    exact absurd h (by decide)
theorem c_X7_why {d s : Nat} {lane fr n : Int32} {h : XH} {nw tp ro rd ud as kp la sz : Nat → Int32} {it mv : Nat → Int64} {ty pl : Int32} {fa : Bool} {un ku : Int32} {ik : Bool} (hs : s < 4) : MetI mX7_why (d, 0, 0) [.ref 98, .int (nI s), .int lane, .int fr, .int n] (mh h nw tp ro rd ud as kp la sz it mv ty pl fa un ku ik) (whyF la sz s lane fr n) := by
  refine MetX.of (by decide) rfl (Nat.le_of_ble_eq_true rfl) ?_
  refine X.aload iX7_why_0 rfl ?_
  refine X.getf iX7_why_1 (by first | rfl | repeat (first | assumption | exact xup_eq _ _ _ | rw [xup_ne _ _ (by first | decide | omega | assumption)])) rfl ?_
  refine X.iload iX7_why_4 rfl ?_
  refine X.ialdN iX7_why_5 (by first | rfl | repeat (first | assumption | exact xup_eq _ _ _ | rw [xup_ne _ _ (by first | decide | omega | assumption)])) (by omega) (by decide) ?_
  refine X.ifge iX7_why_6 (fun c6 => ?_) (fun c6 => ?_)
  · refine X.aload iX7_why_12 rfl ?_
    refine X.getf iX7_why_13 (by first | rfl | repeat (first | assumption | exact xup_eq _ _ _ | rw [xup_ne _ _ (by first | decide | omega | assumption)])) rfl ?_
    refine X.iload iX7_why_16 rfl ?_
    refine X.ialdN iX7_why_17 (by first | rfl | repeat (first | assumption | exact xup_eq _ _ _ | rw [xup_ne _ _ (by first | decide | omega | assumption)])) (by omega) (by decide) ?_
    refine X.iload iX7_why_18 rfl ?_
    refine X.cmeq iX7_why_19 (fun c19 => ?_) (fun c19 => ?_)
    · refine X.iload iX7_why_25 rfl ?_
      refine X.iflt iX7_why_26 (fun c26 => ?_) (fun c26 => ?_)
      · refine X.pushi iX7_why_51 ?_
        refine X.goto iX7_why_53 ?_
        have fin : ∀ q : Prop, (q ↔ (fr < 0 ∨ n < 0 ∨ (sz s).toInt < fr.toInt + n.toInt)) → (q → whyF la sz s lane fr n = -13) ∧ (¬ q → whyF la sz s lane fr n = nI 0) := by
          intro q hq
          exact ⟨fun h => by rw [whyF, if_pos c6, if_pos c19, if_pos (hq.mp h)], fun h => by rw [whyF, if_pos c6, if_pos c19, if_neg (fun z => h (hq.mpr z))]⟩
        refine X.iret iX7_why_57 ⟨?_, rfl⟩
        first
        | (rw [(fin _ Iff.rfl).1 (Or.inl c26)]; done)
        | (rw [(fin _ Iff.rfl).1 (Or.inr (Or.inl c31))]; done)
        | (rw [(fin _ Iff.rfl).1 (Or.inr (Or.inr (Int.lt_of_not_ge (fun q => c48 ((lg_cmp_le _ _).mpr ((wadd _ _ _).mpr q))))))]; done)
        | (rw [(fin _ Iff.rfl).2 (fun q => q.elim c26 (fun q => q.elim c31 (fun q => absurd ((wadd _ _ _).mp ((lg_cmp_le _ _).mp c48)) (Int.not_le.mpr q))))]; done)
      · refine X.iload iX7_why_29 rfl ?_
        refine X.iflt iX7_why_31 (fun c31 => ?_) (fun c31 => ?_)
        · refine X.pushi iX7_why_51 ?_
          refine X.goto iX7_why_53 ?_
          have fin : ∀ q : Prop, (q ↔ (fr < 0 ∨ n < 0 ∨ (sz s).toInt < fr.toInt + n.toInt)) → (q → whyF la sz s lane fr n = -13) ∧ (¬ q → whyF la sz s lane fr n = nI 0) := by
            intro q hq
            exact ⟨fun h => by rw [whyF, if_pos c6, if_pos c19, if_pos (hq.mp h)], fun h => by rw [whyF, if_pos c6, if_pos c19, if_neg (fun z => h (hq.mpr z))]⟩
          refine X.iret iX7_why_57 ⟨?_, rfl⟩
          first
          | (rw [(fin _ Iff.rfl).1 (Or.inl c26)]; done)
          | (rw [(fin _ Iff.rfl).1 (Or.inr (Or.inl c31))]; done)
          | (rw [(fin _ Iff.rfl).1 (Or.inr (Or.inr (Int.lt_of_not_ge (fun q => c48 ((lg_cmp_le _ _).mpr ((wadd _ _ _).mpr q))))))]; done)
          | (rw [(fin _ Iff.rfl).2 (fun q => q.elim c26 (fun q => q.elim c31 (fun q => absurd ((wadd _ _ _).mp ((lg_cmp_le _ _).mp c48)) (Int.not_le.mpr q))))]; done)
        · refine X.iload iX7_why_34 rfl ?_
          refine X.i2l iX7_why_35 ?_
          refine X.iload iX7_why_36 rfl ?_
          refine X.i2l iX7_why_38 ?_
          refine X.ladd iX7_why_39 ?_
          refine X.aload iX7_why_40 rfl ?_
          refine X.getf iX7_why_41 (by first | rfl | repeat (first | assumption | exact xup_eq _ _ _ | rw [xup_ne _ _ (by first | decide | omega | assumption)])) rfl ?_
          refine X.iload iX7_why_44 rfl ?_
          refine X.ialdN iX7_why_45 (by first | rfl | repeat (first | assumption | exact xup_eq _ _ _ | rw [xup_ne _ _ (by first | decide | omega | assumption)])) (by omega) (by decide) ?_
          refine X.i2l iX7_why_46 ?_
          refine X.lcmp iX7_why_47 ?_
          refine X.ifle iX7_why_48 (fun c48 => ?_) (fun c48 => ?_)
          · refine X.pushi (v := nI 0) iX7_why_56 ?_
            have fin : ∀ q : Prop, (q ↔ (fr < 0 ∨ n < 0 ∨ (sz s).toInt < fr.toInt + n.toInt)) → (q → whyF la sz s lane fr n = -13) ∧ (¬ q → whyF la sz s lane fr n = nI 0) := by
              intro q hq
              exact ⟨fun h => by rw [whyF, if_pos c6, if_pos c19, if_pos (hq.mp h)], fun h => by rw [whyF, if_pos c6, if_pos c19, if_neg (fun z => h (hq.mpr z))]⟩
            refine X.iret iX7_why_57 ⟨?_, rfl⟩
            first
            | (rw [(fin _ Iff.rfl).1 (Or.inl c26)]; done)
            | (rw [(fin _ Iff.rfl).1 (Or.inr (Or.inl c31))]; done)
            | (rw [(fin _ Iff.rfl).1 (Or.inr (Or.inr (Int.lt_of_not_ge (fun q => c48 ((lg_cmp_le _ _).mpr ((wadd _ _ _).mpr q))))))]; done)
            | (rw [(fin _ Iff.rfl).2 (fun q => q.elim c26 (fun q => q.elim c31 (fun q => absurd ((wadd _ _ _).mp ((lg_cmp_le _ _).mp c48)) (Int.not_le.mpr q))))]; done)
          · refine X.pushi iX7_why_51 ?_
            refine X.goto iX7_why_53 ?_
            have fin : ∀ q : Prop, (q ↔ (fr < 0 ∨ n < 0 ∨ (sz s).toInt < fr.toInt + n.toInt)) → (q → whyF la sz s lane fr n = -13) ∧ (¬ q → whyF la sz s lane fr n = nI 0) := by
              intro q hq
              exact ⟨fun h => by rw [whyF, if_pos c6, if_pos c19, if_pos (hq.mp h)], fun h => by rw [whyF, if_pos c6, if_pos c19, if_neg (fun z => h (hq.mpr z))]⟩
            refine X.iret iX7_why_57 ⟨?_, rfl⟩
            first
            | (rw [(fin _ Iff.rfl).1 (Or.inl c26)]; done)
            | (rw [(fin _ Iff.rfl).1 (Or.inr (Or.inl c31))]; done)
            | (rw [(fin _ Iff.rfl).1 (Or.inr (Or.inr (Int.lt_of_not_ge (fun q => c48 ((lg_cmp_le _ _).mpr ((wadd _ _ _).mpr q))))))]; done)
            | (rw [(fin _ Iff.rfl).2 (fun q => q.elim c26 (fun q => q.elim c31 (fun q => absurd ((wadd _ _ _).mp ((lg_cmp_le _ _).mp c48)) (Int.not_le.mpr q))))]; done)
    · refine X.pushi iX7_why_22 ?_
      exact X.iret iX7_why_24 ⟨(by rw [whyF, if_pos c6, if_neg c19]), rfl⟩
  · refine X.pushi iX7_why_9 ?_
    exact X.iret iX7_why_11 ⟨(by rw [whyF, if_neg c6]), rfl⟩
theorem c_X7_drop_bad {d : Nat} {s : Int32} {h : XH} {nw tp ro rd ud as kp la sz : Nat → Int32} {it mv : Nat → Int64} {ty pl : Int32} {fa : Bool} {un ku : Int32} {ik : Bool} (hb : inI s (nI 0) (nI 3) = false) : MetI mX7_drop (d + 2, 0, 0) [.ref 98, .int s] (mh h nw tp ro rd ud as kp la sz it mv ty pl fa un ku ik) (-1) := by
  refine MetX.of (by decide) rfl (Nat.le_of_ble_eq_true rfl) ?_
  refine X.iload iX7_drop_0 rfl ?_
  refine X.callSi iX7_drop_1 (c_X7_isSheet (d := d)) rfl rfl (xfit _ _ _) (Nat.le_of_ble_eq_true rfl) ?_
  refine X.ifneB iX7_drop_4 (fun c4 => ?_) (fun c4 => ?_)
  · exact absurd (c4.symm.trans hb) (by decide)
  · refine X.pushi iX7_drop_7 ?_
    exact X.iret iX7_drop_8 ⟨rfl, rfl⟩
theorem c_X7_drop {d s : Nat} {h : XH} {nw tp ro rd ud as kp la sz : Nat → Int32} {it mv : Nat → Int64} {ty pl : Int32} {fa : Bool} {un ku : Int32} {ik : Bool} (hs : s < 4) : MetH mX7_drop (d + 2, 0, 0) [.ref 98, .int (nI s)] (mh h nw tp ro rd ud as kp la sz it mv ty pl fa un ku ik) (if 0 ≤ la s then sz s else -11) (if 0 ≤ la s then (mh h nw tp ro rd ud as kp (upd la s (-1)) sz it mv ty pl fa un ku ik) else (mh h nw tp ro rd ud as kp la sz it mv ty pl fa un ku ik)) := by
  refine MetX.of (by decide) rfl (Nat.le_of_ble_eq_true rfl) ?_
  refine X.iload iX7_drop_0 rfl ?_
  refine X.callSi iX7_drop_1 (c_X7_isSheet (d := d)) rfl rfl (xfit _ _ _) (Nat.le_of_ble_eq_true rfl) ?_
  refine X.ifneB iX7_drop_4 (fun c4 => ?_) (fun c4 => ?_)
  · refine X.aload iX7_drop_9 rfl ?_
    refine X.getf iX7_drop_10 (by first | rfl | repeat (first | assumption | exact xup_eq _ _ _ | rw [xup_ne _ _ (by first | decide | omega | assumption)])) rfl ?_
    refine X.iload iX7_drop_13 rfl ?_
    refine X.ialdN iX7_drop_14 (by first | rfl | repeat (first | assumption | exact xup_eq _ _ _ | rw [xup_ne _ _ (by first | decide | omega | assumption)])) (by omega) (by decide) ?_
    refine X.ifge iX7_drop_15 (fun c15 => ?_) (fun c15 => ?_)
    · rw [if_pos c15, if_pos c15]
      refine X.aload iX7_drop_21 rfl ?_
      refine X.getf iX7_drop_22 (by first | rfl | repeat (first | assumption | exact xup_eq _ _ _ | rw [xup_ne _ _ (by first | decide | omega | assumption)])) rfl ?_
      refine X.iload iX7_drop_25 rfl ?_
      refine X.pushi iX7_drop_26 ?_
      refine X.iastN iX7_drop_27 (by first | rfl | repeat (first | assumption | exact xup_eq _ _ _ | rw [xup_ne _ _ (by first | decide | omega | assumption)])) (by omega) (by decide) ?_
      rw [mh106]
      refine X.aload iX7_drop_28 rfl ?_
      refine X.getf iX7_drop_29 (by first | rfl | repeat (first | assumption | exact xup_eq _ _ _ | rw [xup_ne _ _ (by first | decide | omega | assumption)])) rfl ?_
      refine X.iload iX7_drop_32 rfl ?_
      refine X.ialdN iX7_drop_33 (by first | rfl | repeat (first | assumption | exact xup_eq _ _ _ | rw [xup_ne _ _ (by first | decide | omega | assumption)])) (by omega) (by decide) ?_
      exact X.iret iX7_drop_34 ⟨rfl, rfl⟩
    · refine X.pushi iX7_drop_18 ?_
      exact X.iret iX7_drop_20 ⟨by rw [if_neg c15], by rw [if_neg c15]⟩
  · exact absurd (c4.symm.trans (inI_of (Nat.zero_le _) (show s ≤ 3 by omega) (by decide))) (by decide)
def zrI (it : Nat → Int64) (s : Nat) : Nat → (Nat → Int64)
  | 0 => it
  | k + 1 => vp_updL (zrI it s k) (24 * s + k) 0
def shOk (s l n : Int32) : Bool := inI s (nI 0) (nI 3) && inI l (nI 0) (nI 3) && decide (n ≤ nI 24)
theorem c_X7_sheet_bad {d : Nat} {s l n : Int32} {h : XH} {nw tp ro rd ud as kp la sz : Nat → Int32} {it mv : Nat → Int64} {ty pl : Int32} {fa : Bool} {un ku : Int32} {ik : Bool} (hb : shOk s l n = false) : MetI mX7_sheet (d + 2, 0, 0) [.ref 98, .int s, .int l, .int n] (mh h nw tp ro rd ud as kp la sz it mv ty pl fa un ku ik) (-1) := by
  unfold shOk at hb
  refine MetX.of (by decide) rfl (Nat.le_of_ble_eq_true rfl) ?_
  refine X.iload iX7_sheet_0 rfl ?_
  refine X.callSi iX7_sheet_1 (c_X7_isSheet (d := d)) rfl rfl (xfit _ _ _) (Nat.le_of_ble_eq_true rfl) ?_
  refine X.ifeqB iX7_sheet_4 (fun c4 => ?_) (fun c4 => ?_)
  · refine X.pushi iX7_sheet_20 ?_
    exact X.iret iX7_sheet_21 ⟨rfl, rfl⟩
  · refine X.iload iX7_sheet_7 rfl ?_
    refine X.callSi iX7_sheet_8 (c_X7_isLane (d := d)) rfl rfl (xfit _ _ _) (Nat.le_of_ble_eq_true rfl) ?_
    refine X.ifeqB iX7_sheet_11 (fun c11 => ?_) (fun c11 => ?_)
    · refine X.pushi iX7_sheet_20 ?_
      exact X.iret iX7_sheet_21 ⟨rfl, rfl⟩
    · refine X.iload iX7_sheet_14 rfl ?_
      refine X.pushi (v := nI 24) iX7_sheet_15 ?_
      refine X.cmle iX7_sheet_17 (fun c17 => ?_) (fun c17 => ?_)
      · (rw [c4, c11, decide_eq_true c17] at hb; cases hb)
      · refine X.pushi iX7_sheet_20 ?_
        exact X.iret iX7_sheet_21 ⟨rfl, rfl⟩
theorem ixS (s k : Nat) : nI 24 * nI s + nI k = nI (24 * s + k) := by rw [pk_mul, nI_add]
theorem c_X7_sheet {d s : Nat} {l n : Int32} {h : XH} {nw tp ro rd ud as kp la sz : Nat → Int32} {it mv : Nat → Int64} {ty pl : Int32} {fa : Bool} {un ku : Int32} {ik : Bool} (hs : s < 4) (hb : shOk (nI s) l n = true) : MetH mX7_sheet (d + 2, 0, 0) [.ref 98, .int (nI s), .int l, .int n] (mh h nw tp ro rd ud as kp la sz it mv ty pl fa un ku ik) (if 0 ≤ n then n else -14) (if 0 ≤ n then (mh h nw tp ro rd ud as kp (upd la s l) (upd sz s n) (zrI it s 24) mv ty pl fa un ku ik) else (mh h nw tp ro rd ud as kp la sz it mv ty pl fa un ku ik)) := by
  unfold shOk at hb
  have hb1 := (Bool.and_eq_true_iff.mp (Bool.and_eq_true_iff.mp hb).1).1
  have hb2 := (Bool.and_eq_true_iff.mp (Bool.and_eq_true_iff.mp hb).1).2
  have hb3 := of_decide_eq_true (Bool.and_eq_true_iff.mp hb).2
  have P : ∀ k, k ≤ 24 → X xT mX7_sheet (xR (d + 2, 0, 0)) (0, 0) 46 [some (.ref 98), some (.int (nI s)), some (.int l), some (.int n), some (.int (nI k))] [] (mh h nw tp ro rd ud as kp (upd la s l) (upd sz s n) (zrI it s k) mv ty pl fa un ku ik) (fun v h' => v = some (.int n) ∧ h' = (mh h nw tp ro rd ud as kp (upd la s l) (upd sz s n) (zrI it s 24) mv ty pl fa un ku ik)) := by
    refine xloop 24 ?_ ?_
    · refine X.iload iX7_sheet_46 rfl ?_
      refine X.pushi (v := nI 24) iX7_sheet_48 ?_
      refine X.cmge iX7_sheet_50 (fun c50 => ?_) (fun c50 => ?_)
      · refine X.iload iX7_sheet_72 rfl ?_
        exact X.iret iX7_sheet_73 ⟨rfl, rfl⟩
      · exact absurd (Int32.le_refl _) c50
    · intro k hk ih
      refine X.iload iX7_sheet_46 rfl ?_
      refine X.pushi (v := nI 24) iX7_sheet_48 ?_
      refine X.cmge iX7_sheet_50 (fun c50 => ?_) (fun c50 => ?_)
      · exact absurd c50 (nI_ge hk (by decide))
      · refine X.aload iX7_sheet_53 rfl ?_
        refine X.getf iX7_sheet_54 (by first | rfl | repeat (first | assumption | exact xup_eq _ _ _ | rw [xup_ne _ _ (by first | decide | omega | assumption)])) rfl ?_
        refine X.pushi (v := nI 24) iX7_sheet_57 ?_
        refine X.iload iX7_sheet_59 rfl ?_
        refine X.imul iX7_sheet_60 ?_
        refine X.iload iX7_sheet_61 rfl ?_
        refine X.iadd iX7_sheet_63 ?_
        refine X.pushl iX7_sheet_64 ?_
        refine X.lastE iX7_sheet_65 (by first | rfl | repeat (first | assumption | exact xup_eq _ _ _ | rw [xup_ne _ _ (by first | decide | omega | assumption)])) (ixS s k) (by omega) (by decide) ?_
        rw [mh108]
        refine X.iinc iX7_sheet_66 rfl rfl rfl ?_
        refine X.goto iX7_sheet_69 ?_
        rw [nI_1]
        exact ih
  refine MetX.of (by decide) rfl (Nat.le_of_ble_eq_true rfl) ?_
  refine X.iload iX7_sheet_0 rfl ?_
  refine X.callSi iX7_sheet_1 (c_X7_isSheet (d := d)) rfl rfl (xfit _ _ _) (Nat.le_of_ble_eq_true rfl) ?_
  refine X.ifeqB iX7_sheet_4 (fun c4 => ?_) (fun c4 => ?_)
  · exact absurd (c4.symm.trans hb1) (by decide)
  · refine X.iload iX7_sheet_7 rfl ?_
    refine X.callSi iX7_sheet_8 (c_X7_isLane (d := d)) rfl rfl (xfit _ _ _) (Nat.le_of_ble_eq_true rfl) ?_
    refine X.ifeqB iX7_sheet_11 (fun c11 => ?_) (fun c11 => ?_)
    · exact absurd (c11.symm.trans hb2) (by decide)
    · refine X.iload iX7_sheet_14 rfl ?_
      refine X.pushi (v := nI 24) iX7_sheet_15 ?_
      refine X.cmle iX7_sheet_17 (fun c17 => ?_) (fun c17 => ?_)
      · refine X.iload iX7_sheet_22 rfl ?_
        refine X.ifge iX7_sheet_23 (fun c23 => ?_) (fun c23 => ?_)
        · rw [if_pos c23, if_pos c23]
          refine X.aload iX7_sheet_29 rfl ?_
          refine X.getf iX7_sheet_30 (by first | rfl | repeat (first | assumption | exact xup_eq _ _ _ | rw [xup_ne _ _ (by first | decide | omega | assumption)])) rfl ?_
          refine X.iload iX7_sheet_33 rfl ?_
          refine X.iload iX7_sheet_34 rfl ?_
          refine X.iastN iX7_sheet_35 (by first | rfl | repeat (first | assumption | exact xup_eq _ _ _ | rw [xup_ne _ _ (by first | decide | omega | assumption)])) (by omega) (by decide) ?_
          rw [mh106]
          refine X.aload iX7_sheet_36 rfl ?_
          refine X.getf iX7_sheet_37 (by first | rfl | repeat (first | assumption | exact xup_eq _ _ _ | rw [xup_ne _ _ (by first | decide | omega | assumption)])) rfl ?_
          refine X.iload iX7_sheet_40 rfl ?_
          refine X.iload iX7_sheet_41 rfl ?_
          refine X.iastN iX7_sheet_42 (by first | rfl | repeat (first | assumption | exact xup_eq _ _ _ | rw [xup_ne _ _ (by first | decide | omega | assumption)])) (by omega) (by decide) ?_
          rw [mh107]
          refine X.pushi (v := nI 0) iX7_sheet_43 ?_
          refine X.istore iX7_sheet_44 rfl rfl ?_
          exact P 0 (Nat.zero_le _)
        · refine X.pushi iX7_sheet_26 ?_
          exact X.iret iX7_sheet_28 ⟨by rw [if_neg c23], by rw [if_neg c23]⟩
      · exact absurd hb3 c17
def itmV (l : Int32) (v : Int64) : Int64 := if l = 0 then v.toInt32.toInt8.toInt32.toInt64 else if l = nI 1 then v.toInt32.toInt16.toInt32.toInt64 else if l = nI 2 then v.toInt32.toInt64 else v
theorem c_X7_item_bad {d : Nat} {s l i : Int32} {v : Int64} {h : XH} {nw tp ro rd ud as kp la sz : Nat → Int32} {it mv : Nat → Int64} {ty pl : Int32} {fa : Bool} {un ku : Int32} {ik : Bool} (hb : inI s (nI 0) (nI 3) = false ∨ inI l (nI 0) (nI 3) = false) : MetI mX7_item (d + 2, 0, 0) [.ref 98, .int s, .int l, .int i, .long v] (mh h nw tp ro rd ud as kp la sz it mv ty pl fa un ku ik) (-1) := by
  refine MetX.of (by decide) rfl (Nat.le_of_ble_eq_true rfl) ?_
  refine X.iload iX7_item_0 rfl ?_
  refine X.callSi iX7_item_1 (c_X7_isSheet (d := d)) rfl rfl (xfit _ _ _) (Nat.le_of_ble_eq_true rfl) ?_
  refine X.ifeqB iX7_item_4 (fun c4 => ?_) (fun c4 => ?_)
  · refine X.pushi iX7_item_14 ?_
    exact X.iret iX7_item_15 ⟨rfl, rfl⟩
  · refine X.iload iX7_item_7 rfl ?_
    refine X.callSi iX7_item_8 (c_X7_isLane (d := d)) rfl rfl (xfit _ _ _) (Nat.le_of_ble_eq_true rfl) ?_
    refine X.ifneB iX7_item_11 (fun c11 => ?_) (fun c11 => ?_)
    · exact absurd hb (by intro q; rcases q with q | q; exact absurd (c4.symm.trans q) (by decide); exact absurd (c11.symm.trans q) (by decide))
    · refine X.pushi iX7_item_14 ?_
      exact X.iret iX7_item_15 ⟨rfl, rfl⟩
theorem c_X7_item {d s z : Nat} {l i : Int32} {v : Int64} {h : XH} {nw tp ro rd ud as kp la sz : Nat → Int32} {it mv : Nat → Int64} {ty pl : Int32} {fa : Bool} {un ku : Int32} {ik : Bool} (hs : s < 4) (hl : inI l (nI 0) (nI 3) = true) (hz : sz s = nI z) (hz2 : z ≤ 24) : MetH mX7_item (d + 2, 0, 0) [.ref 98, .int (nI s), .int l, .int i, .long v] (mh h nw tp ro rd ud as kp la sz it mv ty pl fa un ku ik) (if 0 ≤ whyF la sz s l i (nI 1) then nI 1 else whyF la sz s l i (nI 1)) (if 0 ≤ whyF la sz s l i (nI 1) then (mh h nw tp ro rd ud as kp la sz (vp_updL it (24 * s + i.toNatClampNeg) (itmV l v)) mv ty pl fa un ku ik) else (mh h nw tp ro rd ud as kp la sz it mv ty pl fa un ku ik)) := by
  refine MetX.of (by decide) rfl (Nat.le_of_ble_eq_true rfl) ?_
  refine X.iload iX7_item_0 rfl ?_
  refine X.callSi iX7_item_1 (c_X7_isSheet (d := d)) rfl rfl (xfit _ _ _) (Nat.le_of_ble_eq_true rfl) ?_
  refine X.ifeqB iX7_item_4 (fun c4 => ?_) (fun c4 => ?_)
  · exact absurd (c4.symm.trans (inI_of (Nat.zero_le _) (show s ≤ 3 by omega) (by decide))) (by decide)
  · refine X.iload iX7_item_7 rfl ?_
    refine X.callSi iX7_item_8 (c_X7_isLane (d := d)) rfl rfl (xfit _ _ _) (Nat.le_of_ble_eq_true rfl) ?_
    refine X.ifneB iX7_item_11 (fun c11 => ?_) (fun c11 => ?_)
    · refine X.aload iX7_item_16 rfl ?_
      refine X.iload iX7_item_17 rfl ?_
      refine X.iload iX7_item_18 rfl ?_
      refine X.iload iX7_item_19 rfl ?_
      refine X.pushi (v := nI 1) iX7_item_20 ?_
      refine X.callVi iX7_item_21 (c_X7_why (d := d + 1) hs) (by first | rfl | repeat (first | assumption | exact xup_eq _ _ _ | rw [xup_ne _ _ (by first | decide | omega | assumption)])) rfl rfl (xfit _ _ _) (Nat.le_of_ble_eq_true rfl) ?_
      refine X.istore iX7_item_24 rfl rfl ?_
      refine X.iload iX7_item_26 rfl ?_
      refine X.ifge iX7_item_28 (fun c28 => ?_) (fun c28 => ?_)
      · rw [if_pos c28, if_pos c28]
        obtain ⟨-, -, i', m, rfl, hm, him, -⟩ := whyF_0 hz hz2 c28
        have hm1 : 1 = m := (nI_eq (by decide) (by omega)).mp hm
        rw [nI_clamp (by omega)]
        refine X.aload iX7_item_34 rfl ?_
        refine X.getf iX7_item_35 (by first | rfl | repeat (first | assumption | exact xup_eq _ _ _ | rw [xup_ne _ _ (by first | decide | omega | assumption)])) rfl ?_
        refine X.pushi (v := nI 24) iX7_item_38 ?_
        refine X.iload iX7_item_40 rfl ?_
        refine X.imul iX7_item_41 ?_
        refine X.iload iX7_item_42 rfl ?_
        refine X.iadd iX7_item_43 ?_
        refine X.iload iX7_item_44 rfl ?_
        refine X.ifne iX7_item_45 (fun c45 => ?_) (fun c45 => ?_)
        · refine X.iload iX7_item_56 rfl ?_
          refine X.pushi (v := nI 1) iX7_item_57 ?_
          refine X.cmne iX7_item_58 (fun c58 => ?_) (fun c58 => ?_)
          · refine X.iload iX7_item_69 rfl ?_
            refine X.pushi (v := nI 2) iX7_item_70 ?_
            refine X.cmne iX7_item_71 (fun c71 => ?_) (fun c71 => ?_)
            · refine X.lload iX7_item_81 rfl ?_
              refine X.lastE iX7_item_83 (by first | rfl | repeat (first | assumption | exact xup_eq _ _ _ | rw [xup_ne _ _ (by first | decide | omega | assumption)])) (ixS s i') (by omega) (by decide) ?_
              rw [mh108]
              refine X.pushi (v := nI 1) iX7_item_84 ?_
              first
              | (exact X.iret iX7_item_85 ⟨rfl, by rw [itmV, if_pos c45]⟩)
              | (exact X.iret iX7_item_85 ⟨rfl, by rw [itmV, if_neg c45, if_pos c58]⟩)
              | (exact X.iret iX7_item_85 ⟨rfl, by rw [itmV, if_neg c45, if_neg c58, if_pos c71]⟩)
              | (exact X.iret iX7_item_85 ⟨rfl, by rw [itmV, if_neg c45, if_neg c58, if_neg c71]⟩)
            · refine X.lload iX7_item_74 rfl ?_
              refine X.l2i iX7_item_76 ?_
              refine X.i2l iX7_item_77 ?_
              refine X.goto iX7_item_78 ?_
              refine X.lastE iX7_item_83 (by first | rfl | repeat (first | assumption | exact xup_eq _ _ _ | rw [xup_ne _ _ (by first | decide | omega | assumption)])) (ixS s i') (by omega) (by decide) ?_
              rw [mh108]
              refine X.pushi (v := nI 1) iX7_item_84 ?_
              first
              | (exact X.iret iX7_item_85 ⟨rfl, by rw [itmV, if_pos c45]⟩)
              | (exact X.iret iX7_item_85 ⟨rfl, by rw [itmV, if_neg c45, if_pos c58]⟩)
              | (exact X.iret iX7_item_85 ⟨rfl, by rw [itmV, if_neg c45, if_neg c58, if_pos c71]⟩)
              | (exact X.iret iX7_item_85 ⟨rfl, by rw [itmV, if_neg c45, if_neg c58, if_neg c71]⟩)
          · refine X.lload iX7_item_61 rfl ?_
            refine X.l2i iX7_item_63 ?_
            refine X.i2s iX7_item_64 ?_
            refine X.i2l iX7_item_65 ?_
            refine X.goto iX7_item_66 ?_
            refine X.lastE iX7_item_83 (by first | rfl | repeat (first | assumption | exact xup_eq _ _ _ | rw [xup_ne _ _ (by first | decide | omega | assumption)])) (ixS s i') (by omega) (by decide) ?_
            rw [mh108]
            refine X.pushi (v := nI 1) iX7_item_84 ?_
            first
            | (exact X.iret iX7_item_85 ⟨rfl, by rw [itmV, if_pos c45]⟩)
            | (exact X.iret iX7_item_85 ⟨rfl, by rw [itmV, if_neg c45, if_pos c58]⟩)
            | (exact X.iret iX7_item_85 ⟨rfl, by rw [itmV, if_neg c45, if_neg c58, if_pos c71]⟩)
            | (exact X.iret iX7_item_85 ⟨rfl, by rw [itmV, if_neg c45, if_neg c58, if_neg c71]⟩)
        · refine X.lload iX7_item_48 rfl ?_
          refine X.l2i iX7_item_50 ?_
          refine X.i2b iX7_item_51 ?_
          refine X.i2l iX7_item_52 ?_
          refine X.goto iX7_item_53 ?_
          refine X.lastE iX7_item_83 (by first | rfl | repeat (first | assumption | exact xup_eq _ _ _ | rw [xup_ne _ _ (by first | decide | omega | assumption)])) (ixS s i') (by omega) (by decide) ?_
          rw [mh108]
          refine X.pushi (v := nI 1) iX7_item_84 ?_
          first
          | (exact X.iret iX7_item_85 ⟨rfl, by rw [itmV, if_pos c45]⟩)
          | (exact X.iret iX7_item_85 ⟨rfl, by rw [itmV, if_neg c45, if_pos c58]⟩)
          | (exact X.iret iX7_item_85 ⟨rfl, by rw [itmV, if_neg c45, if_neg c58, if_pos c71]⟩)
          | (exact X.iret iX7_item_85 ⟨rfl, by rw [itmV, if_neg c45, if_neg c58, if_neg c71]⟩)
      · refine X.iload iX7_item_31 rfl ?_
        exact X.iret iX7_item_33 ⟨by rw [if_neg c28], by rw [if_neg c28]⟩
    · exact absurd (c11.symm.trans hl) (by decide)
theorem cp_sL (f g : Nat → Int64) (k : Nat) : vp_updL (cp f g k) k (f k) = cp f g (k + 1) := by
  funext i
  unfold vp_updL cp
  by_cases hi : i = k
  · subst hi; simp
  · rw [if_neg hi]
    by_cases h2 : i < k
    · rw [if_pos h2, if_pos (by omega)]
    · rw [if_neg h2, if_neg (by omega)]
def putL (f g : Nat → Int64) (a n : Nat) : Nat → Int64 := fun k => if a ≤ k ∧ k < a + n then g (k - a) else f k
theorem putL_0 (f g : Nat → Int64) (a : Nat) : putL f g a 0 = f := by
  funext i
  unfold putL
  rw [if_neg (by omega)]
theorem putL_s (f g : Nat → Int64) (a n : Nat) : vp_updL (putL f g a n) (a + n) (g n) = putL f g a (n + 1) := by
  funext i
  unfold vp_updL putL
  by_cases hi : i = a + n
  · subst hi
    rw [if_pos rfl, if_pos (by omega), Nat.add_sub_cancel_left]
  · rw [if_neg hi]
    by_cases h2 : a ≤ i ∧ i < a + n
    · rw [if_pos h2, if_pos (by omega)]
    · rw [if_neg h2, if_neg (by omega)]
theorem ixS3 (s i k : Nat) : nI 24 * nI s + nI i + nI k = nI (24 * s + i + k) := by rw [pk_mul, nI_add, nI_add]
/-- what refuses a copy -/
def cpyF (la sz : Nat → Int32) (f t : Nat) (i j n : Int32) : Int32 :=
  if 0 ≤ la f ∧ 0 ≤ la t then (if whyF la sz t (la f) j n = 0 then whyF la sz f (la f) i n else whyF la sz t (la f) j n) else -11
theorem c_X7_copy_bad {d : Nat} {f i t j n : Int32} {h : XH} {nw tp ro rd ud as kp la sz : Nat → Int32} {it mv : Nat → Int64} {ty pl : Int32} {fa : Bool} {un ku : Int32} {ik : Bool} (hb : inI f (nI 0) (nI 3) = false ∨ inI t (nI 0) (nI 3) = false) : MetI mX7_copy (d + 2, 0, 0) [.ref 98, .int f, .int i, .int t, .int j, .int n] (mh h nw tp ro rd ud as kp la sz it mv ty pl fa un ku ik) (-1) := by
  refine MetX.of (by decide) rfl (Nat.le_of_ble_eq_true rfl) ?_
  refine X.iload iX7_copy_0 rfl ?_
  refine X.callSi iX7_copy_1 (c_X7_isSheet (d := d)) rfl rfl (xfit _ _ _) (Nat.le_of_ble_eq_true rfl) ?_
  refine X.ifeqB iX7_copy_4 (fun c4 => ?_) (fun c4 => ?_)
  · refine X.pushi iX7_copy_14 ?_
    exact X.iret iX7_copy_15 ⟨rfl, rfl⟩
  · refine X.iload iX7_copy_7 rfl ?_
    refine X.callSi iX7_copy_8 (c_X7_isSheet (d := d)) rfl rfl (xfit _ _ _) (Nat.le_of_ble_eq_true rfl) ?_
    refine X.ifneB iX7_copy_11 (fun c11 => ?_) (fun c11 => ?_)
    · exact absurd hb (by intro q; rcases q with q | q; exact absurd (c4.symm.trans q) (by decide); exact absurd (c11.symm.trans q) (by decide))
    · refine X.pushi iX7_copy_14 ?_
      exact X.iret iX7_copy_15 ⟨rfl, rfl⟩
theorem copy_go {d f t i j n : Nat} {L6 : Option Value} {h : XH} {nw tp ro rd ud as kp la sz : Nat → Int32} {it mv : Nat → Int64} {ty pl : Int32} {fa : Bool} {un ku : Int32} {ik : Bool} (hf : f < 4) (ht : t < 4) (hi : i + n ≤ 24) (hj : j + n ≤ 24) (hL6 : ∃ x : Int32, L6 = some (.int x)) : X xT mX7_copy (xR (d + 2, 0, 0)) (0, 0) 88 [some (.ref 98), some (.int (nI f)), some (.int (nI i)), some (.int (nI t)), some (.int (nI j)), some (.int (nI n)), L6, none] [] (mh h nw tp ro rd ud as kp la sz it mv ty pl fa un ku ik) (fun v h' => v = some (.int (nI n)) ∧ h' = (mh h nw tp ro rd ud as kp la sz (putL it (cp (fun k => it (24 * f + i + k)) mv n) (24 * t + j) n) (cp (fun k => it (24 * f + i + k)) mv n) ty pl fa un ku ik)) := by
  obtain ⟨x6, rfl⟩ := hL6
  have P2 : ∀ k, k ≤ n → X xT mX7_copy (xR (d + 2, 0, 0)) (0, 0) 128 [some (.ref 98), some (.int (nI f)), some (.int (nI i)), some (.int (nI t)), some (.int (nI j)), some (.int (nI n)), some (.int x6), some (.int (nI k))] [] (mh h nw tp ro rd ud as kp la sz (putL it (cp (fun k => it (24 * f + i + k)) mv n) (24 * t + j) k) (cp (fun k => it (24 * f + i + k)) mv n) ty pl fa un ku ik) (fun v h' => v = some (.int (nI n)) ∧ h' = (mh h nw tp ro rd ud as kp la sz (putL it (cp (fun k => it (24 * f + i + k)) mv n) (24 * t + j) n) (cp (fun k => it (24 * f + i + k)) mv n) ty pl fa un ku ik)) := by
    refine xloop n ?_ ?_
    · refine X.iload iX7_copy_128 rfl ?_
      refine X.iload iX7_copy_130 rfl ?_
      refine X.cmge iX7_copy_132 (fun c132 => ?_) (fun c132 => ?_)
      · refine X.iload iX7_copy_163 rfl ?_
        exact X.iret iX7_copy_165 ⟨rfl, rfl⟩
      · exact absurd (Int32.le_refl _) c132
    · intro k hk ih
      refine X.iload iX7_copy_128 rfl ?_
      refine X.iload iX7_copy_130 rfl ?_
      refine X.cmge iX7_copy_132 (fun c132 => ?_) (fun c132 => ?_)
      · exact absurd c132 (nI_ge hk (by omega))
      · refine X.aload iX7_copy_135 rfl ?_
        refine X.getf iX7_copy_136 (by first | rfl | repeat (first | assumption | exact xup_eq _ _ _ | rw [xup_ne _ _ (by first | decide | omega | assumption)])) rfl ?_
        refine X.pushi (v := nI 24) iX7_copy_139 ?_
        refine X.iload iX7_copy_141 rfl ?_
        refine X.imul iX7_copy_142 ?_
        refine X.iload iX7_copy_143 rfl ?_
        refine X.iadd iX7_copy_145 ?_
        refine X.iload iX7_copy_146 rfl ?_
        refine X.iadd iX7_copy_148 ?_
        refine X.aload iX7_copy_149 rfl ?_
        refine X.getf iX7_copy_150 (by first | rfl | repeat (first | assumption | exact xup_eq _ _ _ | rw [xup_ne _ _ (by first | decide | omega | assumption)])) rfl ?_
        refine X.iload iX7_copy_153 rfl ?_
        refine X.laldN iX7_copy_155 (by first | rfl | repeat (first | assumption | exact xup_eq _ _ _ | rw [xup_ne _ _ (by first | decide | omega | assumption)])) (by omega) (by decide) ?_
        refine X.lastE iX7_copy_156 (by first | rfl | repeat (first | assumption | exact xup_eq _ _ _ | rw [xup_ne _ _ (by first | decide | omega | assumption)])) (ixS3 t j k) (by omega) (by decide) ?_
        rw [mh108, putL_s]
        refine X.iinc iX7_copy_157 rfl rfl rfl ?_
        refine X.goto iX7_copy_160 ?_
        rw [nI_1]
        exact ih
  have P1 : ∀ k, k ≤ n → X xT mX7_copy (xR (d + 2, 0, 0)) (0, 0) 91 [some (.ref 98), some (.int (nI f)), some (.int (nI i)), some (.int (nI t)), some (.int (nI j)), some (.int (nI n)), some (.int x6), some (.int (nI k))] [] (mh h nw tp ro rd ud as kp la sz it (cp (fun k => it (24 * f + i + k)) mv k) ty pl fa un ku ik) (fun v h' => v = some (.int (nI n)) ∧ h' = (mh h nw tp ro rd ud as kp la sz (putL it (cp (fun k => it (24 * f + i + k)) mv n) (24 * t + j) n) (cp (fun k => it (24 * f + i + k)) mv n) ty pl fa un ku ik)) := by
    refine xloop n ?_ ?_
    · refine X.iload iX7_copy_91 rfl ?_
      refine X.iload iX7_copy_93 rfl ?_
      refine X.cmge iX7_copy_95 (fun c95 => ?_) (fun c95 => ?_)
      · refine X.pushi (v := nI 0) iX7_copy_125 ?_
        refine X.istore iX7_copy_126 rfl rfl ?_
        have p0 := P2 0 (Nat.zero_le _)
        rw [putL_0] at p0
        exact p0
      · exact absurd (Int32.le_refl _) c95
    · intro k hk ih
      refine X.iload iX7_copy_91 rfl ?_
      refine X.iload iX7_copy_93 rfl ?_
      refine X.cmge iX7_copy_95 (fun c95 => ?_) (fun c95 => ?_)
      · exact absurd c95 (nI_ge hk (by omega))
      · refine X.aload iX7_copy_98 rfl ?_
        refine X.getf iX7_copy_99 (by first | rfl | repeat (first | assumption | exact xup_eq _ _ _ | rw [xup_ne _ _ (by first | decide | omega | assumption)])) rfl ?_
        refine X.iload iX7_copy_102 rfl ?_
        refine X.aload iX7_copy_104 rfl ?_
        refine X.getf iX7_copy_105 (by first | rfl | repeat (first | assumption | exact xup_eq _ _ _ | rw [xup_ne _ _ (by first | decide | omega | assumption)])) rfl ?_
        refine X.pushi (v := nI 24) iX7_copy_108 ?_
        refine X.iload iX7_copy_110 rfl ?_
        refine X.imul iX7_copy_111 ?_
        refine X.iload iX7_copy_112 rfl ?_
        refine X.iadd iX7_copy_113 ?_
        refine X.iload iX7_copy_114 rfl ?_
        refine X.iadd iX7_copy_116 ?_
        refine X.laldE iX7_copy_117 (by first | rfl | repeat (first | assumption | exact xup_eq _ _ _ | rw [xup_ne _ _ (by first | decide | omega | assumption)])) (ixS3 f i k) (by omega) (by decide) ?_
        refine X.lastN iX7_copy_118 (by first | rfl | repeat (first | assumption | exact xup_eq _ _ _ | rw [xup_ne _ _ (by first | decide | omega | assumption)])) (by omega) (by decide) ?_
        rw [mh109, cp_sL (fun k => it (24 * f + i + k))]
        refine X.iinc iX7_copy_119 rfl rfl rfl ?_
        refine X.goto iX7_copy_122 ?_
        rw [nI_1]
        exact ih
  refine X.pushi (v := nI 0) iX7_copy_88 ?_
  refine X.istore iX7_copy_89 rfl rfl ?_
  have p0 := P1 0 (Nat.zero_le _)
  rw [cp_0] at p0
  exact p0
theorem c_X7_copy {d f t zf zt : Nat} {i j n : Int32} {h : XH} {nw tp ro rd ud as kp la sz : Nat → Int32} {it mv : Nat → Int64} {ty pl : Int32} {fa : Bool} {un ku : Int32} {ik : Bool} (hf : f < 4) (ht : t < 4) (hzf : sz f = nI zf) (hzt : sz t = nI zt) (hzf2 : zf ≤ 24) (hzt2 : zt ≤ 24) : MetH mX7_copy (d + 2, 0, 0) [.ref 98, .int (nI f), .int i, .int (nI t), .int j, .int n] (mh h nw tp ro rd ud as kp la sz it mv ty pl fa un ku ik) (if 0 ≤ cpyF la sz f t i j n then n else cpyF la sz f t i j n) (if 0 ≤ cpyF la sz f t i j n then (mh h nw tp ro rd ud as kp la sz (putL it (cp (fun k => it (24 * f + i.toNatClampNeg + k)) mv n.toNatClampNeg) (24 * t + j.toNatClampNeg) n.toNatClampNeg) (cp (fun k => it (24 * f + i.toNatClampNeg + k)) mv n.toNatClampNeg) ty pl fa un ku ik) else (mh h nw tp ro rd ud as kp la sz it mv ty pl fa un ku ik)) := by
  have fin : ∀ w : Int32, 0 ≤ la f ∧ 0 ≤ la t → w = cpyF la sz f t i j n → X xT mX7_copy (xR (d + 2, 0, 0)) (0, 0) 78 [some (.ref 98), some (.int (nI f)), some (.int i), some (.int (nI t)), some (.int j), some (.int n), none, none] [.int w] (mh h nw tp ro rd ud as kp la sz it mv ty pl fa un ku ik) (fun v h' => v = some (.int (if 0 ≤ cpyF la sz f t i j n then n else cpyF la sz f t i j n)) ∧ h' = (if 0 ≤ cpyF la sz f t i j n then (mh h nw tp ro rd ud as kp la sz (putL it (cp (fun k => it (24 * f + i.toNatClampNeg + k)) mv n.toNatClampNeg) (24 * t + j.toNatClampNeg) n.toNatClampNeg) (cp (fun k => it (24 * f + i.toNatClampNeg + k)) mv n.toNatClampNeg) ty pl fa un ku ik) else (mh h nw tp ro rd ud as kp la sz it mv ty pl fa un ku ik))) := by
    intro w h2 hw
    subst hw
    refine X.istore iX7_copy_78 rfl rfl ?_
    refine X.iload iX7_copy_80 rfl ?_
    refine X.ifge iX7_copy_82 (fun c82 => ?_) (fun c82 => ?_)
    · rw [if_pos c82, if_pos c82]
      unfold cpyF at c82
      rw [if_pos h2] at c82
      by_cases c0 : whyF la sz t (la f) j n = 0
      · rw [if_pos c0] at c82
        obtain ⟨-, -, i', m, rfl, rfl, him, -⟩ := whyF_0 hzf hzf2 c82
        obtain ⟨-, -, j', m', rfl, hmm, hjm, -⟩ := whyF_0 (n := nI m) hzt hzt2 (by rw [c0]; decide)
        have em : m = m' := (nI_eq (by omega) (by omega)).mp hmm
        rw [nI_clamp (by omega), nI_clamp (by omega), nI_clamp (by omega)]
        exact copy_go hf ht (by omega) (by omega) ⟨_, rfl⟩
      · rw [if_neg c0] at c82
        obtain ⟨-, -, _, _, _, _, _, e0⟩ := whyF_0 hzt hzt2 c82
        exact absurd e0 c0
    · refine X.iload iX7_copy_85 rfl ?_
      exact X.iret iX7_copy_87 ⟨by rw [if_neg c82], by rw [if_neg c82]⟩
  refine MetX.of (by decide) rfl (Nat.le_of_ble_eq_true rfl) ?_
  refine X.iload iX7_copy_0 rfl ?_
  refine X.callSi iX7_copy_1 (c_X7_isSheet (d := d)) rfl rfl (xfit _ _ _) (Nat.le_of_ble_eq_true rfl) ?_
  refine X.ifeqB iX7_copy_4 (fun c4 => ?_) (fun c4 => ?_)
  · exact absurd (c4.symm.trans (inI_of (Nat.zero_le _) (show f ≤ 3 by omega) (by decide))) (by decide)
  · refine X.iload iX7_copy_7 rfl ?_
    refine X.callSi iX7_copy_8 (c_X7_isSheet (d := d)) rfl rfl (xfit _ _ _) (Nat.le_of_ble_eq_true rfl) ?_
    refine X.ifneB iX7_copy_11 (fun c11 => ?_) (fun c11 => ?_)
    · refine X.aload iX7_copy_16 rfl ?_
      refine X.getf iX7_copy_17 (by first | rfl | repeat (first | assumption | exact xup_eq _ _ _ | rw [xup_ne _ _ (by first | decide | omega | assumption)])) rfl ?_
      refine X.iload iX7_copy_20 rfl ?_
      refine X.ialdN iX7_copy_21 (by first | rfl | repeat (first | assumption | exact xup_eq _ _ _ | rw [xup_ne _ _ (by first | decide | omega | assumption)])) (by omega) (by decide) ?_
      refine X.iflt iX7_copy_22 (fun c22 => ?_) (fun c22 => ?_)
      · refine X.pushi iX7_copy_34 ?_
        have e : cpyF la sz f t i j n = -11 := by
          unfold cpyF
          first
          | (rw [if_neg (fun q => Int32.not_le.mpr c22 q.1)]; done)
          | (rw [if_neg (fun q => c31 q.2)]; done)
        rw [e]
        exact X.iret iX7_copy_36 ⟨rfl, rfl⟩
      · refine X.aload iX7_copy_25 rfl ?_
        refine X.getf iX7_copy_26 (by first | rfl | repeat (first | assumption | exact xup_eq _ _ _ | rw [xup_ne _ _ (by first | decide | omega | assumption)])) rfl ?_
        refine X.iload iX7_copy_29 rfl ?_
        refine X.ialdN iX7_copy_30 (by first | rfl | repeat (first | assumption | exact xup_eq _ _ _ | rw [xup_ne _ _ (by first | decide | omega | assumption)])) (by omega) (by decide) ?_
        refine X.ifge iX7_copy_31 (fun c31 => ?_) (fun c31 => ?_)
        · refine X.aload iX7_copy_37 rfl ?_
          refine X.iload iX7_copy_38 rfl ?_
          refine X.aload iX7_copy_39 rfl ?_
          refine X.getf iX7_copy_40 (by first | rfl | repeat (first | assumption | exact xup_eq _ _ _ | rw [xup_ne _ _ (by first | decide | omega | assumption)])) rfl ?_
          refine X.iload iX7_copy_43 rfl ?_
          refine X.ialdN iX7_copy_44 (by first | rfl | repeat (first | assumption | exact xup_eq _ _ _ | rw [xup_ne _ _ (by first | decide | omega | assumption)])) (by omega) (by decide) ?_
          refine X.iload iX7_copy_45 rfl ?_
          refine X.iload iX7_copy_47 rfl ?_
          refine X.callVi iX7_copy_49 (c_X7_why (d := d + 1) ht) (by first | rfl | repeat (first | assumption | exact xup_eq _ _ _ | rw [xup_ne _ _ (by first | decide | omega | assumption)])) rfl rfl (xfit _ _ _) (Nat.le_of_ble_eq_true rfl) ?_
          refine X.istore iX7_copy_52 rfl rfl ?_
          refine X.iload iX7_copy_54 rfl ?_
          refine X.ifne iX7_copy_56 (fun c56 => ?_) (fun c56 => ?_)
          · refine X.iload iX7_copy_76 rfl ?_
            have h2 : 0 ≤ la f ∧ 0 ≤ la t := ⟨Int32.not_lt.mp c22, c31⟩
            refine X.unset 6 rfl (fin _ h2 ?_)
            first
            | (rw [cpyF, if_pos h2, if_neg c56]; done)
            | (rw [cpyF, if_pos h2, if_pos c56]; done)
          · refine X.aload iX7_copy_59 rfl ?_
            refine X.iload iX7_copy_60 rfl ?_
            refine X.aload iX7_copy_61 rfl ?_
            refine X.getf iX7_copy_62 (by first | rfl | repeat (first | assumption | exact xup_eq _ _ _ | rw [xup_ne _ _ (by first | decide | omega | assumption)])) rfl ?_
            refine X.iload iX7_copy_65 rfl ?_
            refine X.ialdN iX7_copy_66 (by first | rfl | repeat (first | assumption | exact xup_eq _ _ _ | rw [xup_ne _ _ (by first | decide | omega | assumption)])) (by omega) (by decide) ?_
            refine X.iload iX7_copy_67 rfl ?_
            refine X.iload iX7_copy_68 rfl ?_
            refine X.callVi iX7_copy_70 (c_X7_why (d := d + 1) hf) (by first | rfl | repeat (first | assumption | exact xup_eq _ _ _ | rw [xup_ne _ _ (by first | decide | omega | assumption)])) rfl rfl (xfit _ _ _) (Nat.le_of_ble_eq_true rfl) ?_
            refine X.goto iX7_copy_73 ?_
            have h2 : 0 ≤ la f ∧ 0 ≤ la t := ⟨Int32.not_lt.mp c22, c31⟩
            refine X.unset 6 rfl (fin _ h2 ?_)
            first
            | (rw [cpyF, if_pos h2, if_neg c56]; done)
            | (rw [cpyF, if_pos h2, if_pos c56]; done)
        · refine X.pushi iX7_copy_34 ?_
          have e : cpyF la sz f t i j n = -11 := by
            unfold cpyF
            first
            | (rw [if_neg (fun q => Int32.not_le.mpr c22 q.1)]; done)
            | (rw [if_neg (fun q => c31 q.2)]; done)
          rw [e]
          exact X.iret iX7_copy_36 ⟨rfl, rfl⟩
    · exact absurd (c11.symm.trans (inI_of (Nat.zero_le _) (show t ≤ 3 by omega) (by decide))) (by decide)
