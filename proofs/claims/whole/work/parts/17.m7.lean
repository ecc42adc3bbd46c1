/-! the reference: undoing, images, how much longer, how much larger -/
def st3 (f g : Nat → Int32) : Nat → (Nat → Int32)
  | 0 => f
  | k + 1 => upd (st3 f g k) (9 + 3 * k + 1) (g k)
def st4 (f g : Nat → Int32) : Nat → (Nat → Int32)
  | 0 => f
  | k + 1 => upd (st4 f g k) (27 + 4 * k + 3) (g k)
def undo1 (nw ud : Nat → Int32) (to : Nat) : Nat → Int32 := upd (put nw (fun k => ud (to + k)) 2 4) 8 (ud (to + 4))
def undo2 (nw ud : Nat → Int32) (to : Nat) : Nat → Int32 := st3 (undo1 nw ud to) (fun t => ud (to + 5 + t)) 6
def undoN (nw ud : Nat → Int32) (to : Nat) : Nat → Int32 := st4 (undo2 nw ud to) (fun l => ud (to + 11 + l)) 4
theorem c_X7_undo_none {d : Nat} {h : XH} {nw tp ro rd ud as kp la sz : Nat → Int32} {it mv : Nat → Int64} {ty pl : Int32} {fa : Bool} {un ku : Int32} {ik : Bool} (eu : un = nI 0) : MetI mX7_undo (d, 0, 0) [.ref 98] (mh h nw tp ro rd ud as kp la sz it mv ty pl fa un ku ik) (-4) := by
  subst eu
  refine MetX.of (by decide) rfl (Nat.le_of_ble_eq_true rfl) ?_
  refine X.aload iX7_undo_0 rfl ?_
  refine X.getf iX7_undo_1 (by first | rfl | repeat (first | assumption | exact xup_eq _ _ _ | rw [xup_ne _ _ (by first | decide | omega | assumption)])) rfl ?_
  refine X.ifne iX7_undo_4 (fun c4 => ?_) (fun c4 => ?_)
  · exact absurd rfl c4
  · refine X.pushi iX7_undo_7 ?_
    exact X.iret iX7_undo_9 ⟨rfl, rfl⟩
theorem c_X7_undo {d u : Nat} {h : XH} {nw tp ro rd ud as kp la sz : Nat → Int32} {it mv : Nat → Int64} {ty pl : Int32} {fa : Bool} {un ku : Int32} {ik : Bool} (hu : u + 1 ≤ 8) (eu : un = nI (u + 1)) : MetH mX7_undo (d, 0, 0) [.ref 98] (mh h nw tp ro rd ud as kp la sz it mv ty pl fa un ku ik) (nI u) (mh h (undoN nw ud (15 * u)) tp ro rd ud as kp la sz it mv ty pl fa (nI u) ku ik) := by
  subst eu
  have P3 : ∀ k, k ≤ 4 → X xT mX7_undo (xR (d, 0, 0)) (0, 0) 111 [some (.ref 98), some (.int (nI (15 * u))), some (.int (nI k))] [] (mh h (st4 (undo2 nw ud (15 * u)) (fun l => ud (15 * u + 11 + l)) k) tp ro rd ud as kp la sz it mv ty pl fa (nI u) ku ik) (fun v h' => v = some (.int (nI u)) ∧ h' = (mh h (undoN nw ud (15 * u)) tp ro rd ud as kp la sz it mv ty pl fa (nI u) ku ik)) := by
    refine xloop 4 ?_ ?_
    · refine X.iload iX7_undo_111 rfl ?_
      refine X.pushi (v := nI 4) iX7_undo_112 ?_
      refine X.cmge iX7_undo_113 (fun c113 => ?_) (fun c113 => ?_)
      · refine X.aload iX7_undo_146 rfl ?_
        refine X.getf iX7_undo_147 (by first | rfl | repeat (first | assumption | exact xup_eq _ _ _ | rw [xup_ne _ _ (by first | decide | omega | assumption)])) rfl ?_
        exact X.iret iX7_undo_150 ⟨rfl, rfl⟩
      · exact absurd (Int32.le_refl _) c113
    · intro k hk ih
      refine X.iload iX7_undo_111 rfl ?_
      refine X.pushi (v := nI 4) iX7_undo_112 ?_
      refine X.cmge iX7_undo_113 (fun c113 => ?_) (fun c113 => ?_)
      · exact absurd c113 (nI_ge hk (by decide))
      · refine X.aload iX7_undo_116 rfl ?_
        refine X.getf iX7_undo_117 (by first | rfl | repeat (first | assumption | exact xup_eq _ _ _ | rw [xup_ne _ _ (by first | decide | omega | assumption)])) rfl ?_
        refine X.pushi (v := nI 27) iX7_undo_120 ?_
        refine X.pushi (v := nI 4) iX7_undo_122 ?_
        refine X.iload iX7_undo_123 rfl ?_
        refine X.imul iX7_undo_124 ?_
        refine X.iadd iX7_undo_125 ?_
        refine X.pushi (v := nI 3) iX7_undo_126 ?_
        refine X.iadd iX7_undo_127 ?_
        refine X.aload iX7_undo_128 rfl ?_
        refine X.getf iX7_undo_129 (by first | rfl | repeat (first | assumption | exact xup_eq _ _ _ | rw [xup_ne _ _ (by first | decide | omega | assumption)])) rfl ?_
        refine X.iload iX7_undo_132 rfl ?_
        refine X.pushi (v := nI 11) iX7_undo_133 ?_
        refine X.iadd iX7_undo_135 ?_
        refine X.iload iX7_undo_136 rfl ?_
        refine X.iadd iX7_undo_137 ?_
        refine X.ialdE iX7_undo_138 (by first | rfl | repeat (first | assumption | exact xup_eq _ _ _ | rw [xup_ne _ _ (by first | decide | omega | assumption)])) (ix3 _ _ _) (by omega) (by decide) ?_
        refine X.iastE iX7_undo_139 (by first | rfl | repeat (first | assumption | exact xup_eq _ _ _ | rw [xup_ne _ _ (by first | decide | omega | assumption)])) (ixL k 3) (by omega) (by decide) ?_
        rw [mh99]
        refine X.iinc iX7_undo_140 rfl rfl rfl ?_
        refine X.goto iX7_undo_143 ?_
        rw [nI_1]
        exact ih
  have P2 : ∀ k, k ≤ 6 → X xT mX7_undo (xR (d, 0, 0)) (0, 0) 74 [some (.ref 98), some (.int (nI (15 * u))), some (.int (nI k))] [] (mh h (st3 (undo1 nw ud (15 * u)) (fun t => ud (15 * u + 5 + t)) k) tp ro rd ud as kp la sz it mv ty pl fa (nI u) ku ik) (fun v h' => v = some (.int (nI u)) ∧ h' = (mh h (undoN nw ud (15 * u)) tp ro rd ud as kp la sz it mv ty pl fa (nI u) ku ik)) := by
    refine xloop 6 ?_ ?_
    · refine X.iload iX7_undo_74 rfl ?_
      refine X.pushi (v := nI 6) iX7_undo_75 ?_
      refine X.cmge iX7_undo_77 (fun c77 => ?_) (fun c77 => ?_)
      · refine X.pushi (v := nI 0) iX7_undo_109 ?_
        refine X.istore iX7_undo_110 rfl rfl ?_
        exact P3 0 (Nat.zero_le _)
      · exact absurd (Int32.le_refl _) c77
    · intro k hk ih
      refine X.iload iX7_undo_74 rfl ?_
      refine X.pushi (v := nI 6) iX7_undo_75 ?_
      refine X.cmge iX7_undo_77 (fun c77 => ?_) (fun c77 => ?_)
      · exact absurd c77 (nI_ge hk (by decide))
      · refine X.aload iX7_undo_80 rfl ?_
        refine X.getf iX7_undo_81 (by first | rfl | repeat (first | assumption | exact xup_eq _ _ _ | rw [xup_ne _ _ (by first | decide | omega | assumption)])) rfl ?_
        refine X.pushi (v := nI 9) iX7_undo_84 ?_
        refine X.pushi (v := nI 3) iX7_undo_86 ?_
        refine X.iload iX7_undo_87 rfl ?_
        refine X.imul iX7_undo_88 ?_
        refine X.iadd iX7_undo_89 ?_
        refine X.pushi (v := nI 1) iX7_undo_90 ?_
        refine X.iadd iX7_undo_91 ?_
        refine X.aload iX7_undo_92 rfl ?_
        refine X.getf iX7_undo_93 (by first | rfl | repeat (first | assumption | exact xup_eq _ _ _ | rw [xup_ne _ _ (by first | decide | omega | assumption)])) rfl ?_
        refine X.iload iX7_undo_96 rfl ?_
        refine X.pushi (v := nI 5) iX7_undo_97 ?_
        refine X.iadd iX7_undo_98 ?_
        refine X.iload iX7_undo_99 rfl ?_
        refine X.iadd iX7_undo_100 ?_
        refine X.ialdE iX7_undo_101 (by first | rfl | repeat (first | assumption | exact xup_eq _ _ _ | rw [xup_ne _ _ (by first | decide | omega | assumption)])) (ix3 _ _ _) (by omega) (by decide) ?_
        refine X.iastE iX7_undo_102 (by first | rfl | repeat (first | assumption | exact xup_eq _ _ _ | rw [xup_ne _ _ (by first | decide | omega | assumption)])) (ixT k 1) (by omega) (by decide) ?_
        rw [mh99]
        refine X.iinc iX7_undo_103 rfl rfl rfl ?_
        refine X.goto iX7_undo_106 ?_
        rw [nI_1]
        exact ih
  have P1 : ∀ k, k ≤ 4 → X xT mX7_undo (xR (d, 0, 0)) (0, 0) 30 [some (.ref 98), some (.int (nI (15 * u))), some (.int (nI k))] [] (mh h (put nw (fun k => ud (15 * u + k)) 2 k) tp ro rd ud as kp la sz it mv ty pl fa (nI u) ku ik) (fun v h' => v = some (.int (nI u)) ∧ h' = (mh h (undoN nw ud (15 * u)) tp ro rd ud as kp la sz it mv ty pl fa (nI u) ku ik)) := by
    refine xloop 4 ?_ ?_
    · refine X.iload iX7_undo_30 rfl ?_
      refine X.pushi (v := nI 4) iX7_undo_31 ?_
      refine X.cmge iX7_undo_32 (fun c32 => ?_) (fun c32 => ?_)
      · refine X.aload iX7_undo_57 rfl ?_
        refine X.getf iX7_undo_58 (by first | rfl | repeat (first | assumption | exact xup_eq _ _ _ | rw [xup_ne _ _ (by first | decide | omega | assumption)])) rfl ?_
        refine X.pushi (v := nI 8) iX7_undo_61 ?_
        refine X.aload iX7_undo_63 rfl ?_
        refine X.getf iX7_undo_64 (by first | rfl | repeat (first | assumption | exact xup_eq _ _ _ | rw [xup_ne _ _ (by first | decide | omega | assumption)])) rfl ?_
        refine X.iload iX7_undo_67 rfl ?_
        refine X.pushi (v := nI 4) iX7_undo_68 ?_
        refine X.iadd iX7_undo_69 ?_
        refine X.ialdE iX7_undo_70 (by first | rfl | repeat (first | assumption | exact xup_eq _ _ _ | rw [xup_ne _ _ (by first | decide | omega | assumption)])) (nI_add _ 4) (by omega) (by decide) ?_
        refine X.iastN iX7_undo_71 (by first | rfl | repeat (first | assumption | exact xup_eq _ _ _ | rw [xup_ne _ _ (by first | decide | omega | assumption)])) (by omega) (by decide) ?_
        rw [mh99]
        refine X.pushi (v := nI 0) iX7_undo_72 ?_
        refine X.istore iX7_undo_73 rfl rfl ?_
        exact P2 0 (Nat.zero_le _)
      · exact absurd (Int32.le_refl _) c32
    · intro k hk ih
      refine X.iload iX7_undo_30 rfl ?_
      refine X.pushi (v := nI 4) iX7_undo_31 ?_
      refine X.cmge iX7_undo_32 (fun c32 => ?_) (fun c32 => ?_)
      · exact absurd c32 (nI_ge hk (by decide))
      · refine X.aload iX7_undo_35 rfl ?_
        refine X.getf iX7_undo_36 (by first | rfl | repeat (first | assumption | exact xup_eq _ _ _ | rw [xup_ne _ _ (by first | decide | omega | assumption)])) rfl ?_
        refine X.pushi (v := nI 2) iX7_undo_39 ?_
        refine X.iload iX7_undo_40 rfl ?_
        refine X.iadd iX7_undo_41 ?_
        refine X.aload iX7_undo_42 rfl ?_
        refine X.getf iX7_undo_43 (by first | rfl | repeat (first | assumption | exact xup_eq _ _ _ | rw [xup_ne _ _ (by first | decide | omega | assumption)])) rfl ?_
        refine X.iload iX7_undo_46 rfl ?_
        refine X.iload iX7_undo_47 rfl ?_
        refine X.iadd iX7_undo_48 ?_
        refine X.ialdE iX7_undo_49 (by first | rfl | repeat (first | assumption | exact xup_eq _ _ _ | rw [xup_ne _ _ (by first | decide | omega | assumption)])) (nI_add _ k) (by omega) (by decide) ?_
        refine X.iastE iX7_undo_50 (by first | rfl | repeat (first | assumption | exact xup_eq _ _ _ | rw [xup_ne _ _ (by first | decide | omega | assumption)])) (nI_add 2 k) (by omega) (by decide) ?_
        rw [mh99, put_s _ (fun k => ud (15 * u + k))]
        refine X.iinc iX7_undo_51 rfl rfl rfl ?_
        refine X.goto iX7_undo_54 ?_
        rw [nI_1]
        exact ih
  refine MetX.of (by decide) rfl (Nat.le_of_ble_eq_true rfl) ?_
  refine X.aload iX7_undo_0 rfl ?_
  refine X.getf iX7_undo_1 (by first | rfl | repeat (first | assumption | exact xup_eq _ _ _ | rw [xup_ne _ _ (by first | decide | omega | assumption)])) rfl ?_
  refine X.ifne iX7_undo_4 (fun c4 => ?_) (fun c4 => ?_)
  · refine X.aload iX7_undo_10 rfl ?_
    refine X.dupa iX7_undo_11 ?_
    refine X.getf iX7_undo_12 (by first | rfl | repeat (first | assumption | exact xup_eq _ _ _ | rw [xup_ne _ _ (by first | decide | omega | assumption)])) rfl ?_
    refine X.pushi (v := nI 1) iX7_undo_15 ?_
    refine X.isub iX7_undo_16 ?_
    rw [pk_sub (by omega), Nat.add_sub_cancel]
    refine X.puti iX7_undo_17 (by first | rfl | repeat (first | assumption | exact xup_eq _ _ _ | rw [xup_ne _ _ (by first | decide | omega | assumption)])) (Nat.le_of_ble_eq_true rfl) ?_
    rw [mh98_8]
    refine X.pushi (v := nI 15) iX7_undo_20 ?_
    refine X.aload iX7_undo_22 rfl ?_
    refine X.getf iX7_undo_23 (by first | rfl | repeat (first | assumption | exact xup_eq _ _ _ | rw [xup_ne _ _ (by first | decide | omega | assumption)])) rfl ?_
    refine X.imul iX7_undo_26 ?_
    rw [pk_mul]
    refine X.istore iX7_undo_27 rfl rfl ?_
    refine X.pushi (v := nI 0) iX7_undo_28 ?_
    refine X.istore iX7_undo_29 rfl rfl ?_
    have p0 := P1 0 (Nat.zero_le _)
    rw [put_0] at p0
    exact p0
  · exact absurd c4 (nI_ne0 (by omega) (by omega))
theorem c_X7_image {d : Nat} {h : XH} {nw tp ro rd ud as kp la sz : Nat → Int32} {it mv : Nat → Int64} {ty pl : Int32} {fa : Bool} {un ku : Int32} {ik : Bool} : MetH mX7_image (d, 0, 0) [.ref 98] (mh h nw tp ro rd ud as kp la sz it mv ty pl fa un ku ik) (nI 1) (mh h nw tp ro rd ud as (put (cp nw kp 43) ud 43 120) la sz it mv ty pl fa un un true) := by
  have P2 : ∀ k, k ≤ 120 → X xT mX7_image (xR (d, 0, 0)) (0, 0) 28 [some (.ref 98), some (.int (nI k))] [] (mh h nw tp ro rd ud as (put (cp nw kp 43) ud 43 k) la sz it mv ty pl fa un ku ik) (fun v h' => v = some (.int (nI 1)) ∧ h' = (mh h nw tp ro rd ud as (put (cp nw kp 43) ud 43 120) la sz it mv ty pl fa un un true)) := by
    refine xloop 120 ?_ ?_
    · refine X.iload iX7_image_28 rfl ?_
      refine X.pushi (v := nI 120) iX7_image_29 ?_
      refine X.cmge iX7_image_31 (fun c31 => ?_) (fun c31 => ?_)
      · refine X.aload iX7_image_55 rfl ?_
        refine X.aload iX7_image_56 rfl ?_
        refine X.getf iX7_image_57 (by first | rfl | repeat (first | assumption | exact xup_eq _ _ _ | rw [xup_ne _ _ (by first | decide | omega | assumption)])) rfl ?_
        refine X.puti iX7_image_60 (by first | rfl | repeat (first | assumption | exact xup_eq _ _ _ | rw [xup_ne _ _ (by first | decide | omega | assumption)])) (Nat.le_of_ble_eq_true rfl) ?_
        rw [mh98_11]
        refine X.aload iX7_image_63 rfl ?_
        refine X.pushi (v := bI true) iX7_image_64 ?_
        refine X.putz iX7_image_65 (by first | rfl | repeat (first | assumption | exact xup_eq _ _ _ | rw [xup_ne _ _ (by first | decide | omega | assumption)])) (Nat.le_of_ble_eq_true rfl) ?_
        rw [mh98_12]
        refine X.pushi (v := nI 1) iX7_image_68 ?_
        exact X.iret iX7_image_69 ⟨rfl, rfl⟩
      · exact absurd (Int32.le_refl _) c31
    · intro k hk ih
      refine X.iload iX7_image_28 rfl ?_
      refine X.pushi (v := nI 120) iX7_image_29 ?_
      refine X.cmge iX7_image_31 (fun c31 => ?_) (fun c31 => ?_)
      · exact absurd c31 (nI_ge hk (by decide))
      · refine X.aload iX7_image_34 rfl ?_
        refine X.getf iX7_image_35 (by first | rfl | repeat (first | assumption | exact xup_eq _ _ _ | rw [xup_ne _ _ (by first | decide | omega | assumption)])) rfl ?_
        refine X.pushi (v := nI 43) iX7_image_38 ?_
        refine X.iload iX7_image_40 rfl ?_
        refine X.iadd iX7_image_41 ?_
        refine X.aload iX7_image_42 rfl ?_
        refine X.getf iX7_image_43 (by first | rfl | repeat (first | assumption | exact xup_eq _ _ _ | rw [xup_ne _ _ (by first | decide | omega | assumption)])) rfl ?_
        refine X.iload iX7_image_46 rfl ?_
        refine X.ialdN iX7_image_47 (by first | rfl | repeat (first | assumption | exact xup_eq _ _ _ | rw [xup_ne _ _ (by first | decide | omega | assumption)])) (by omega) (by decide) ?_
        refine X.iastE iX7_image_48 (by first | rfl | repeat (first | assumption | exact xup_eq _ _ _ | rw [xup_ne _ _ (by first | decide | omega | assumption)])) (nI_add 43 k) (by omega) (by decide) ?_
        rw [mh105, put_s _ ud]
        refine X.iinc iX7_image_49 rfl rfl rfl ?_
        refine X.goto iX7_image_52 ?_
        rw [nI_1]
        exact ih
  have P1 : ∀ k, k ≤ 43 → X xT mX7_image (xR (d, 0, 0)) (0, 0) 2 [some (.ref 98), some (.int (nI k))] [] (mh h nw tp ro rd ud as (cp nw kp k) la sz it mv ty pl fa un ku ik) (fun v h' => v = some (.int (nI 1)) ∧ h' = (mh h nw tp ro rd ud as (put (cp nw kp 43) ud 43 120) la sz it mv ty pl fa un un true)) := by
    refine xloop 43 ?_ ?_
    · refine X.iload iX7_image_2 rfl ?_
      refine X.pushi (v := nI 43) iX7_image_3 ?_
      refine X.cmge iX7_image_5 (fun c5 => ?_) (fun c5 => ?_)
      · refine X.pushi (v := nI 0) iX7_image_26 ?_
        refine X.istore iX7_image_27 rfl rfl ?_
        have p0 := P2 0 (Nat.zero_le _)
        rw [put_0] at p0
        exact p0
      · exact absurd (Int32.le_refl _) c5
    · intro k hk ih
      refine X.iload iX7_image_2 rfl ?_
      refine X.pushi (v := nI 43) iX7_image_3 ?_
      refine X.cmge iX7_image_5 (fun c5 => ?_) (fun c5 => ?_)
      · exact absurd c5 (nI_ge hk (by decide))
      · refine X.aload iX7_image_8 rfl ?_
        refine X.getf iX7_image_9 (by first | rfl | repeat (first | assumption | exact xup_eq _ _ _ | rw [xup_ne _ _ (by first | decide | omega | assumption)])) rfl ?_
        refine X.iload iX7_image_12 rfl ?_
        refine X.aload iX7_image_13 rfl ?_
        refine X.getf iX7_image_14 (by first | rfl | repeat (first | assumption | exact xup_eq _ _ _ | rw [xup_ne _ _ (by first | decide | omega | assumption)])) rfl ?_
        refine X.iload iX7_image_17 rfl ?_
        refine X.ialdN iX7_image_18 (by first | rfl | repeat (first | assumption | exact xup_eq _ _ _ | rw [xup_ne _ _ (by first | decide | omega | assumption)])) (by omega) (by decide) ?_
        refine X.iastN iX7_image_19 (by first | rfl | repeat (first | assumption | exact xup_eq _ _ _ | rw [xup_ne _ _ (by first | decide | omega | assumption)])) (by omega) (by decide) ?_
        rw [mh105, cp_s]
        refine X.iinc iX7_image_20 rfl rfl rfl ?_
        refine X.goto iX7_image_23 ?_
        rw [nI_1]
        exact ih
  refine MetX.of (by decide) rfl (Nat.le_of_ble_eq_true rfl) ?_
  refine X.pushi (v := nI 0) iX7_image_0 ?_
  refine X.istore iX7_image_1 rfl rfl ?_
  have p0 := P1 0 (Nat.zero_le _)
  rw [cp_0] at p0
  exact p0
theorem c_X7_restore_none {d : Nat} {h : XH} {nw tp ro rd ud as kp la sz : Nat → Int32} {it mv : Nat → Int64} {ty pl : Int32} {fa : Bool} {un ku : Int32} {ik : Bool} (ei : ik = false) : MetI mX7_restore (d, 0, 0) [.ref 98] (mh h nw tp ro rd ud as kp la sz it mv ty pl fa un ku ik) (-4) := by
  subst ei
  refine MetX.of (by decide) rfl (Nat.le_of_ble_eq_true rfl) ?_
  refine X.aload iX7_restore_0 rfl ?_
  refine X.getf iX7_restore_1 (by first | rfl | repeat (first | assumption | exact xup_eq _ _ _ | rw [xup_ne _ _ (by first | decide | omega | assumption)])) rfl ?_
  refine X.ifneB iX7_restore_4 (fun c4 => ?_) (fun c4 => ?_)
  · exact absurd c4 (by decide)
  · refine X.pushi iX7_restore_7 ?_
    exact X.iret iX7_restore_9 ⟨rfl, rfl⟩
theorem c_X7_restore {d : Nat} {h : XH} {nw tp ro rd ud as kp la sz : Nat → Int32} {it mv : Nat → Int64} {ty pl : Int32} {fa : Bool} {un ku : Int32} {ik : Bool} (ei : ik = true) : MetH mX7_restore (d, 0, 0) [.ref 98] (mh h nw tp ro rd ud as kp la sz it mv ty pl fa un ku ik) (nI 1) (mh h (cp kp nw 43) tp ro rd (cp (fun k => kp (43 + k)) ud 120) as kp la sz it mv ty pl fa ku ku ik) := by
  subst ei
  have P2 : ∀ k, k ≤ 120 → X xT mX7_restore (xR (d, 0, 0)) (0, 0) 38 [some (.ref 98), some (.int (nI k))] [] (mh h (cp kp nw 43) tp ro rd (cp (fun k => kp (43 + k)) ud k) as kp la sz it mv ty pl fa un ku true) (fun v h' => v = some (.int (nI 1)) ∧ h' = (mh h (cp kp nw 43) tp ro rd (cp (fun k => kp (43 + k)) ud 120) as kp la sz it mv ty pl fa ku ku true)) := by
    refine xloop 120 ?_ ?_
    · refine X.iload iX7_restore_38 rfl ?_
      refine X.pushi (v := nI 120) iX7_restore_39 ?_
      refine X.cmge iX7_restore_41 (fun c41 => ?_) (fun c41 => ?_)
      · refine X.aload iX7_restore_65 rfl ?_
        refine X.aload iX7_restore_66 rfl ?_
        refine X.getf iX7_restore_67 (by first | rfl | repeat (first | assumption | exact xup_eq _ _ _ | rw [xup_ne _ _ (by first | decide | omega | assumption)])) rfl ?_
        refine X.puti iX7_restore_70 (by first | rfl | repeat (first | assumption | exact xup_eq _ _ _ | rw [xup_ne _ _ (by first | decide | omega | assumption)])) (Nat.le_of_ble_eq_true rfl) ?_
        rw [mh98_8]
        refine X.pushi (v := nI 1) iX7_restore_73 ?_
        exact X.iret iX7_restore_74 ⟨rfl, rfl⟩
      · exact absurd (Int32.le_refl _) c41
    · intro k hk ih
      refine X.iload iX7_restore_38 rfl ?_
      refine X.pushi (v := nI 120) iX7_restore_39 ?_
      refine X.cmge iX7_restore_41 (fun c41 => ?_) (fun c41 => ?_)
      · exact absurd c41 (nI_ge hk (by decide))
      · refine X.aload iX7_restore_44 rfl ?_
        refine X.getf iX7_restore_45 (by first | rfl | repeat (first | assumption | exact xup_eq _ _ _ | rw [xup_ne _ _ (by first | decide | omega | assumption)])) rfl ?_
        refine X.iload iX7_restore_48 rfl ?_
        refine X.aload iX7_restore_49 rfl ?_
        refine X.getf iX7_restore_50 (by first | rfl | repeat (first | assumption | exact xup_eq _ _ _ | rw [xup_ne _ _ (by first | decide | omega | assumption)])) rfl ?_
        refine X.pushi (v := nI 43) iX7_restore_53 ?_
        refine X.iload iX7_restore_55 rfl ?_
        refine X.iadd iX7_restore_56 ?_
        refine X.ialdE iX7_restore_57 (by first | rfl | repeat (first | assumption | exact xup_eq _ _ _ | rw [xup_ne _ _ (by first | decide | omega | assumption)])) (nI_add 43 k) (by omega) (by decide) ?_
        refine X.iastN iX7_restore_58 (by first | rfl | repeat (first | assumption | exact xup_eq _ _ _ | rw [xup_ne _ _ (by first | decide | omega | assumption)])) (by omega) (by decide) ?_
        rw [mh103, cp_s (fun k => kp (43 + k))]
        refine X.iinc iX7_restore_59 rfl rfl rfl ?_
        refine X.goto iX7_restore_62 ?_
        rw [nI_1]
        exact ih
  have P1 : ∀ k, k ≤ 43 → X xT mX7_restore (xR (d, 0, 0)) (0, 0) 12 [some (.ref 98), some (.int (nI k))] [] (mh h (cp kp nw k) tp ro rd ud as kp la sz it mv ty pl fa un ku true) (fun v h' => v = some (.int (nI 1)) ∧ h' = (mh h (cp kp nw 43) tp ro rd (cp (fun k => kp (43 + k)) ud 120) as kp la sz it mv ty pl fa ku ku true)) := by
    refine xloop 43 ?_ ?_
    · refine X.iload iX7_restore_12 rfl ?_
      refine X.pushi (v := nI 43) iX7_restore_13 ?_
      refine X.cmge iX7_restore_15 (fun c15 => ?_) (fun c15 => ?_)
      · refine X.pushi (v := nI 0) iX7_restore_36 ?_
        refine X.istore iX7_restore_37 rfl rfl ?_
        have p0 := P2 0 (Nat.zero_le _)
        rw [cp_0] at p0
        exact p0
      · exact absurd (Int32.le_refl _) c15
    · intro k hk ih
      refine X.iload iX7_restore_12 rfl ?_
      refine X.pushi (v := nI 43) iX7_restore_13 ?_
      refine X.cmge iX7_restore_15 (fun c15 => ?_) (fun c15 => ?_)
      · exact absurd c15 (nI_ge hk (by decide))
      · refine X.aload iX7_restore_18 rfl ?_
        refine X.getf iX7_restore_19 (by first | rfl | repeat (first | assumption | exact xup_eq _ _ _ | rw [xup_ne _ _ (by first | decide | omega | assumption)])) rfl ?_
        refine X.iload iX7_restore_22 rfl ?_
        refine X.aload iX7_restore_23 rfl ?_
        refine X.getf iX7_restore_24 (by first | rfl | repeat (first | assumption | exact xup_eq _ _ _ | rw [xup_ne _ _ (by first | decide | omega | assumption)])) rfl ?_
        refine X.iload iX7_restore_27 rfl ?_
        refine X.ialdN iX7_restore_28 (by first | rfl | repeat (first | assumption | exact xup_eq _ _ _ | rw [xup_ne _ _ (by first | decide | omega | assumption)])) (by omega) (by decide) ?_
        refine X.iastN iX7_restore_29 (by first | rfl | repeat (first | assumption | exact xup_eq _ _ _ | rw [xup_ne _ _ (by first | decide | omega | assumption)])) (by omega) (by decide) ?_
        rw [mh99, cp_s]
        refine X.iinc iX7_restore_30 rfl rfl rfl ?_
        refine X.goto iX7_restore_33 ?_
        rw [nI_1]
        exact ih
  refine MetX.of (by decide) rfl (Nat.le_of_ble_eq_true rfl) ?_
  refine X.aload iX7_restore_0 rfl ?_
  refine X.getf iX7_restore_1 (by first | rfl | repeat (first | assumption | exact xup_eq _ _ _ | rw [xup_ne _ _ (by first | decide | omega | assumption)])) rfl ?_
  refine X.ifneB iX7_restore_4 (fun c4 => ?_) (fun c4 => ?_)
  · refine X.pushi (v := nI 0) iX7_restore_10 ?_
    refine X.istore iX7_restore_11 rfl rfl ?_
    have p0 := P1 0 (Nat.zero_le _)
    rw [cp_0] at p0
    exact p0
  · exact absurd c4 (by decide)
theorem c_X7_power (d : Nat) (h : XH) (b n : Nat) (hn : n < 2 ^ 31) : MetI mX7_power (d, 0, 0) [.int (nI b), .int (nI n)] h (nI (b ^ n)) := by
  have P : ∀ k, k ≤ n → X xT mX7_power (xR (d, 0, 0)) (0, 0) 4 [some (.int (nI b)), some (.int (nI n)), some (.int (nI (b ^ k))), some (.int (nI k))] [] h (fun v h' => v = some (.int (nI (b ^ n))) ∧ h' = h) := by
    refine xloop n ?_ ?_
    · refine X.iload iX7_power_4 rfl ?_
      refine X.iload iX7_power_5 rfl ?_
      refine X.cmge iX7_power_6 (fun c6 => ?_) (fun c6 => ?_)
      · refine X.iload iX7_power_19 rfl ?_
        exact X.iret iX7_power_20 ⟨rfl, rfl⟩
      · exact absurd (Int32.le_refl _) c6
    · intro k hk ih
      refine X.iload iX7_power_4 rfl ?_
      refine X.iload iX7_power_5 rfl ?_
      refine X.cmge iX7_power_6 (fun c6 => ?_) (fun c6 => ?_)
      · exact absurd c6 (nI_ge hk hn)
      · refine X.iload iX7_power_9 rfl ?_
        refine X.iload iX7_power_10 rfl ?_
        refine X.imul iX7_power_11 ?_
        rw [pk_mul, ← Nat.pow_succ]
        refine X.istore iX7_power_12 rfl rfl ?_
        refine X.iinc iX7_power_13 rfl rfl rfl ?_
        refine X.goto iX7_power_16 ?_
        rw [nI_1]
        exact ih
  refine MetX.of (by decide) rfl (Nat.le_of_ble_eq_true rfl) ?_
  refine X.pushi (v := nI 1) iX7_power_0 ?_
  refine X.istore iX7_power_1 rfl rfl ?_
  refine X.pushi (v := nI 0) iX7_power_2 ?_
  refine X.istore iX7_power_3 rfl rfl ?_
  exact P 0 (Nat.zero_le _)
def lngF (ki hi day : Int32) (le : Nat) : Nat → Nat → Int32
  | 0, _ => -4
  | f + 1, m => if hi ≤ reachI ki (nI (le + m)) day then nI m else lngF ki hi day le f (m + 1)
theorem c_X7_longer_bad {d nT nL : Nat} {l t : Int32} {h : XH} {nw tp ro rd ud as kp la sz : Nat → Int32} {it mv : Nat → Int64} {ty pl : Int32} {fa : Bool} {un ku : Int32} {ik : Bool} (wf : WF nw nT nL) (hb : isL nw l = false ∨ isT nw t = false) : MetI mX7_longer (d + 2, 0, 0) [.ref 98, .int l, .int t] (mh h nw tp ro rd ud as kp la sz it mv ty pl fa un ku ik) (-1) := by
  refine MetX.of (by decide) rfl (Nat.le_of_ble_eq_true rfl) ?_
  refine X.aload iX7_longer_0 rfl ?_
  refine X.iload iX7_longer_1 rfl ?_
  refine X.callVi iX7_longer_2 (c_X7_isLadder (d := d) mh_MO) (by first | rfl | repeat (first | assumption | exact xup_eq _ _ _ | rw [xup_ne _ _ (by first | decide | omega | assumption)])) rfl rfl (xfit _ _ _) (Nat.le_of_ble_eq_true rfl) ?_
  refine X.ifeqB iX7_longer_5 (fun c5 => ?_) (fun c5 => ?_)
  · refine X.pushi iX7_longer_16 ?_
    exact X.iret iX7_longer_17 ⟨rfl, rfl⟩
  · refine X.aload iX7_longer_8 rfl ?_
    refine X.iload iX7_longer_9 rfl ?_
    refine X.callVi iX7_longer_10 (c_X7_isTree (d := d) mh_MO) (by first | rfl | repeat (first | assumption | exact xup_eq _ _ _ | rw [xup_ne _ _ (by first | decide | omega | assumption)])) rfl rfl (xfit _ _ _) (Nat.le_of_ble_eq_true rfl) ?_
    refine X.ifneB iX7_longer_13 (fun c13 => ?_) (fun c13 => ?_)
    · exact absurd hb (by intro q; rcases q with q | q; exact absurd (c5.symm.trans q) (by decide); exact absurd (c13.symm.trans q) (by decide))
    · refine X.pushi iX7_longer_16 ?_
      exact X.iret iX7_longer_17 ⟨rfl, rfl⟩
theorem longer_loop {d nT nL l t le : Nat} {h : XH} {nw tp ro rd ud as kp la sz : Nat → Int32} {it mv : Nat → Int64} {ty pl : Int32} {fa : Bool} {un ku : Int32} {ik : Bool} (wf : WF nw nT nL) (hl : l < nL) (ht : t < nT) (hle : le ≤ 9) : ∀ f m, le + m + f = 10 → X xT mX7_longer (xR (d + 2, 0, 0)) (0, 0) 28 [some (.ref 98), some (.int (nI l)), some (.int (nI t)), some (.int (nI le)), some (.int (nI m))] [] (mh h nw tp ro rd ud as kp la sz it mv ty pl fa un ku ik) (fun v h' => v = some (.int (lngF (nw (27 + 4 * l + 0)) (nw (9 + 3 * t + 0)) (nw 2) le f m)) ∧ h' = (mh h nw tp ro rd ud as kp la sz it mv ty pl fa un ku ik)) := by
  have hT := wf.2.2.1
  have hL := wf.2.2.2.1
  intro f
  induction f with
  | zero =>
    intro m hm
    refine X.iload iX7_longer_28 rfl ?_
    refine X.iload iX7_longer_29 rfl ?_
    refine X.iadd iX7_longer_31 ?_
    rw [nI_add]
    refine X.pushi (v := nI 10) iX7_longer_32 ?_
    refine X.cmge iX7_longer_34 (fun c34 => ?_) (fun c34 => ?_)
    · refine X.pushi iX7_longer_74 ?_
      exact X.iret iX7_longer_76 ⟨rfl, rfl⟩
    · exact absurd (by rw [show le + m = 10 by omega]; exact Int32.le_refl _) c34
  | succ f ih =>
    intro m hm
    have e : lngF (nw (27 + 4 * l + 0)) (nw (9 + 3 * t + 0)) (nw 2) le (f + 1) m = if nw (9 + 3 * t + 0) ≤ reachI (nw (27 + 4 * l + 0)) (nI (le + m)) (nw 2) then nI m else lngF (nw (27 + 4 * l + 0)) (nw (9 + 3 * t + 0)) (nw 2) le f (m + 1) := rfl
    rw [e]
    refine X.iload iX7_longer_28 rfl ?_
    refine X.iload iX7_longer_29 rfl ?_
    refine X.iadd iX7_longer_31 ?_
    rw [nI_add]
    refine X.pushi (v := nI 10) iX7_longer_32 ?_
    refine X.cmge iX7_longer_34 (fun c34 => ?_) (fun c34 => ?_)
    · exact absurd c34 (nI_ge (by omega) (by decide))
    · refine X.aload iX7_longer_37 rfl ?_
      refine X.iload iX7_longer_38 rfl ?_
      refine X.pushi (v := nI 0) iX7_longer_39 ?_
      refine X.callVi iX7_longer_40 (c_X7_ofLadder (d := d + 1) (w := 0) mh_MO (by omega)) (by first | rfl | repeat (first | assumption | exact xup_eq _ _ _ | rw [xup_ne _ _ (by first | decide | omega | assumption)])) rfl rfl (xfit _ _ _) (Nat.le_of_ble_eq_true rfl) ?_
      refine X.iload iX7_longer_43 rfl ?_
      refine X.iload iX7_longer_44 rfl ?_
      refine X.iadd iX7_longer_46 ?_
      rw [nI_add]
      refine X.aload iX7_longer_47 rfl ?_
      refine X.getf iX7_longer_48 (by first | rfl | repeat (first | assumption | exact xup_eq _ _ _ | rw [xup_ne _ _ (by first | decide | omega | assumption)])) rfl ?_
      refine X.pushi (v := nI 2) iX7_longer_51 ?_
      refine X.ialdN iX7_longer_52 (by first | rfl | repeat (first | assumption | exact xup_eq _ _ _ | rw [xup_ne _ _ (by first | decide | omega | assumption)])) (by omega) (by decide) ?_
      refine X.callSi iX7_longer_53 (c_X7_reaches (d + 1) _ _ _ _) rfl rfl (xfit _ _ _) (Nat.le_of_ble_eq_true rfl) ?_
      refine X.aload iX7_longer_56 rfl ?_
      refine X.iload iX7_longer_57 rfl ?_
      refine X.pushi (v := nI 0) iX7_longer_58 ?_
      refine X.callVi iX7_longer_59 (c_X7_ofTree (d := d + 1) (w := 0) mh_MO (by omega)) (by first | rfl | repeat (first | assumption | exact xup_eq _ _ _ | rw [xup_ne _ _ (by first | decide | omega | assumption)])) rfl rfl (xfit _ _ _) (Nat.le_of_ble_eq_true rfl) ?_
      refine X.cmlt iX7_longer_62 (fun c62 => ?_) (fun c62 => ?_)
      · refine X.iinc iX7_longer_68 rfl rfl rfl ?_
        refine X.goto iX7_longer_71 ?_
        rw [if_neg (Int32.not_le.mpr c62), nI_1]
        exact ih (m + 1) (by omega)
      · refine X.iload iX7_longer_65 rfl ?_
        exact X.iret iX7_longer_67 ⟨(by rw [if_pos (Int32.not_lt.mp c62)]), rfl⟩
theorem c_X7_longer {d nT nL l t le : Nat} {h : XH} {nw tp ro rd ud as kp la sz : Nat → Int32} {it mv : Nat → Int64} {ty pl : Int32} {fa : Bool} {un ku : Int32} {ik : Bool} (wf : WF nw nT nL) (hl : l < nL) (ht : t < nT) (hle : le ≤ 9) (el : nw (27 + 4 * l + 1) = nI le) : MetI mX7_longer (d + 2, 0, 0) [.ref 98, .int (nI l), .int (nI t)] (mh h nw tp ro rd ud as kp la sz it mv ty pl fa un ku ik) (lngF (nw (27 + 4 * l + 0)) (nw (9 + 3 * t + 0)) (nw 2) le (10 - le) 0) := by
  have hL := wf.2.2.2.1
  refine MetX.of (by decide) rfl (Nat.le_of_ble_eq_true rfl) ?_
  refine X.aload iX7_longer_0 rfl ?_
  refine X.iload iX7_longer_1 rfl ?_
  refine X.callVi iX7_longer_2 (c_X7_isLadder (d := d) mh_MO) (by first | rfl | repeat (first | assumption | exact xup_eq _ _ _ | rw [xup_ne _ _ (by first | decide | omega | assumption)])) rfl rfl (xfit _ _ _) (Nat.le_of_ble_eq_true rfl) ?_
  refine X.ifeqB iX7_longer_5 (fun c5 => ?_) (fun c5 => ?_)
  · exact absurd (c5.symm.trans (isL_of wf hl)) (by decide)
  · refine X.aload iX7_longer_8 rfl ?_
    refine X.iload iX7_longer_9 rfl ?_
    refine X.callVi iX7_longer_10 (c_X7_isTree (d := d) mh_MO) (by first | rfl | repeat (first | assumption | exact xup_eq _ _ _ | rw [xup_ne _ _ (by first | decide | omega | assumption)])) rfl rfl (xfit _ _ _) (Nat.le_of_ble_eq_true rfl) ?_
    refine X.ifneB iX7_longer_13 (fun c13 => ?_) (fun c13 => ?_)
    · refine X.aload iX7_longer_18 rfl ?_
      refine X.iload iX7_longer_19 rfl ?_
      refine X.pushi (v := nI 1) iX7_longer_20 ?_
      refine X.callVi iX7_longer_21 (c_X7_ofLadder (d := d + 1) (w := 1) mh_MO (by omega)) (by first | rfl | repeat (first | assumption | exact xup_eq _ _ _ | rw [xup_ne _ _ (by first | decide | omega | assumption)])) rfl rfl (xfit _ _ _) (Nat.le_of_ble_eq_true rfl) ?_
      rw [el]
      refine X.istore iX7_longer_24 rfl rfl ?_
      refine X.pushi (v := nI 0) iX7_longer_25 ?_
      refine X.istore iX7_longer_26 rfl rfl ?_
      exact longer_loop wf hl ht hle _ 0 (by omega)
    · exact absurd (c13.symm.trans (isT_of wf ht)) (by decide)
/-- what is got in n days, the basket being b -/
def lgT (nw : Nat → Int32) (nT nL n b : Nat) : Int32 := gbN (upd nw 6 (nI b)) nT nL n 3 - nw 3
def lgF (nw : Nat → Int32) (nT nL n : Nat) (g : Int32) : Nat → Nat → Int32
  | 0, _ => -4
  | f + 1, b => if g ≤ lgT nw nT nL n b then nI b else lgF nw nT nL n g f (b + 1)
theorem c_X7_larger_bad {d : Nat} {n g : Int32} {h : XH} {nw tp ro rd ud as kp la sz : Nat → Int32} {it mv : Nat → Int64} {ty pl : Int32} {fa : Bool} {un ku : Int32} {ik : Bool} (hb : inI n (nI 1) (nI 60) = false ∨ inI g (nI 1) (nI 999) = false) : MetI mX7_larger (d + 1, 0, 0) [.ref 98, .int n, .int g] (mh h nw tp ro rd ud as kp la sz it mv ty pl fa un ku ik) (-1) := by
  refine MetX.of (by decide) rfl (Nat.le_of_ble_eq_true rfl) ?_
  refine X.iload iX7_larger_0 rfl ?_
  refine X.i2l iX7_larger_1 ?_
  refine X.pushl iX7_larger_2 ?_
  refine X.pushl iX7_larger_3 ?_
  refine X.callSi iX7_larger_6 (c7_inI (d := d) (a := nI 1) (b := nI 60) (by decide) (by decide)) rfl rfl (xfit _ _ _) (Nat.le_of_ble_eq_true rfl) ?_
  refine X.ifeqB iX7_larger_9 (fun c9 => ?_) (fun c9 => ?_)
  · refine X.pushi iX7_larger_24 ?_
    exact X.iret iX7_larger_25 ⟨rfl, rfl⟩
  · refine X.iload iX7_larger_12 rfl ?_
    refine X.i2l iX7_larger_13 ?_
    refine X.pushl iX7_larger_14 ?_
    refine X.pushl iX7_larger_15 ?_
    refine X.callSi iX7_larger_18 (c7_inI (d := d) (a := nI 1) (b := nI 999) (by decide) (by decide)) rfl rfl (xfit _ _ _) (Nat.le_of_ble_eq_true rfl) ?_
    refine X.ifneB iX7_larger_21 (fun c21 => ?_) (fun c21 => ?_)
    · exact absurd hb (by intro q; rcases q with q | q; exact absurd (c9.symm.trans q) (by decide); exact absurd (c21.symm.trans q) (by decide))
    · refine X.pushi iX7_larger_24 ?_
      exact X.iret iX7_larger_25 ⟨rfl, rfl⟩
theorem nI_n4 {b : Nat} (hb : b < 2 ^ 31) : ¬ nI b = -4 := fun q => by
  have := congrArg Int32.toInt q
  rw [nI_toInt hb] at this
  have e : (-4 : Int32).toInt = -4 := by decide
  omega
theorem larger_loop {d nT nL n : Nat} {g : Int32} {h : XH} {nw tp ro rd ud as kp la sz : Nat → Int32} {it mv : Nat → Int64} {ty pl : Int32} {fa : Bool} {un ku : Int32} {ik : Bool} (wf : WF nw nT nL) (hn : n ≤ 60) : ∀ f b, b + f = 31 → X xT mX7_larger (xR (d + 4, 0, 0)) (0, 0) 36 [some (.ref 98), some (.int (nI n)), some (.int g), some (.int (-4)), some (.int (nI b))] [] (mh h nw tp ro rd ud (cp nw as 43) kp la sz it mv ty pl fa un ku ik) (fun v h' => v = some (.int (lgF nw nT nL n g f b)) ∧ h' = (mh h nw tp ro rd ud (cp nw as 43) kp la sz it mv ty pl fa un ku ik)) := by
  intro f
  induction f with
  | zero =>
    intro b hb
    have : b = 31 := by omega
    subst this
    refine X.iload iX7_larger_36 rfl ?_
    refine X.pushi (v := nI 31) iX7_larger_38 ?_
    refine X.cmge iX7_larger_40 (fun c40 => ?_) (fun c40 => ?_)
    · refine X.iload iX7_larger_98 rfl ?_
      exact X.iret iX7_larger_99 ⟨rfl, rfl⟩
    · exact absurd (Int32.le_refl _) c40
  | succ f ih =>
    intro b hb
    have e : lgF nw nT nL n g (f + 1) b = if g ≤ lgT nw nT nL n b then nI b else lgF nw nT nL n g f (b + 1) := rfl
    rw [e]
    have w6 := wf.upd 6 (nI b) (by omega)
    have far : Far (gbN (upd nw 6 (nI b)) nT nL n) nw := (gbN_far w6 n).trans ((Far.rf nw).upd (by omega) _)
    refine X.iload iX7_larger_36 rfl ?_
    refine X.pushi (v := nI 31) iX7_larger_38 ?_
    refine X.cmge iX7_larger_40 (fun c40 => ?_) (fun c40 => ?_)
    · exact absurd c40 (nI_ge (by omega) (by decide))
    · refine X.iload iX7_larger_43 rfl ?_
      refine X.pushi iX7_larger_44 ?_
      refine X.cmne iX7_larger_46 (fun c46 => ?_) (fun c46 => ?_)
      · exact absurd rfl c46
      · refine X.aload iX7_larger_49 rfl ?_
        refine X.getf iX7_larger_50 (by first | rfl | repeat (first | assumption | exact xup_eq _ _ _ | rw [xup_ne _ _ (by first | decide | omega | assumption)])) rfl ?_
        refine X.pushi (v := nI 6) iX7_larger_53 ?_
        refine X.iload iX7_larger_55 rfl ?_
        refine X.iastN iX7_larger_57 (by first | rfl | repeat (first | assumption | exact xup_eq _ _ _ | rw [xup_ne _ _ (by first | decide | omega | assumption)])) (by omega) (by decide) ?_
        rw [mh99]
        refine X.aload iX7_larger_58 rfl ?_
        refine X.iload iX7_larger_59 rfl ?_
        refine X.callVv iX7_larger_60 (g_goesOn (d := d) w6 (by omega)) (by first | rfl | repeat (first | assumption | exact xup_eq _ _ _ | rw [xup_ne _ _ (by first | decide | omega | assumption)])) rfl rfl (xfit _ _ _) (Nat.le_of_ble_eq_true rfl) ?_
        refine X.aload iX7_larger_63 rfl ?_
        refine X.getf iX7_larger_64 (by first | rfl | repeat (first | assumption | exact xup_eq _ _ _ | rw [xup_ne _ _ (by first | decide | omega | assumption)])) rfl ?_
        refine X.pushi (v := nI 3) iX7_larger_67 ?_
        refine X.ialdN iX7_larger_68 (by first | rfl | repeat (first | assumption | exact xup_eq _ _ _ | rw [xup_ne _ _ (by first | decide | omega | assumption)])) (by omega) (by decide) ?_
        refine X.aload iX7_larger_69 rfl ?_
        refine X.getf iX7_larger_70 (by first | rfl | repeat (first | assumption | exact xup_eq _ _ _ | rw [xup_ne _ _ (by first | decide | omega | assumption)])) rfl ?_
        refine X.pushi (v := nI 3) iX7_larger_73 ?_
        refine X.ialdN iX7_larger_74 (by first | rfl | repeat (first | assumption | exact xup_eq _ _ _ | rw [xup_ne _ _ (by first | decide | omega | assumption)])) (by omega) (by decide) ?_
        refine X.isub iX7_larger_75 ?_
        refine (show X xT mX7_larger (xR (d + 4, 0, 0)) (0, 0) 76 [some (.ref 98), some (.int (nI n)), some (.int g), some (.int (-4)), some (.int (nI b))] [.int (lgT nw nT nL n b)] (mh h (gbN (upd nw 6 (nI b)) nT nL n) tp ro rd ud (cp nw as 43) kp la sz it mv ty pl fa un ku ik) _ from ?_)
        refine X.iload iX7_larger_76 rfl ?_
        refine X.cmlt iX7_larger_77 (fun c77 => ?_) (fun c77 => ?_)
        · refine X.pushi iX7_larger_85 ?_
          refine X.istore iX7_larger_87 rfl rfl ?_
          refine X.aload iX7_larger_88 rfl ?_
          refine X.callVv iX7_larger_89 (g_backs (d := d + 3)) (by first | rfl | repeat (first | assumption | exact xup_eq _ _ _ | rw [xup_ne _ _ (by first | decide | omega | assumption)])) rfl rfl (xfit _ _ _) (Nat.le_of_ble_eq_true rfl) ?_
          rw [cp_back far]
          refine X.iinc iX7_larger_92 rfl rfl rfl ?_
          refine X.goto iX7_larger_95 ?_
          first
          | (rw [if_neg (Int32.not_le.mpr c77), nI_1]; exact ih (b + 1) (by omega))
          | skip
          all_goals
            rw [if_pos (Int32.not_lt.mp c77), nI_1]
            refine X.iload iX7_larger_36 rfl ?_
            refine X.pushi (v := nI 31) iX7_larger_38 ?_
            refine X.cmge iX7_larger_40 (fun _ => ?_) (fun _ => ?_)
            · refine X.iload iX7_larger_98 rfl ?_
              exact X.iret iX7_larger_99 ⟨rfl, rfl⟩
            · refine X.iload iX7_larger_43 rfl ?_
              refine X.pushi iX7_larger_44 ?_
              refine X.cmne iX7_larger_46 (fun _ => ?_) (fun q => absurd q (nI_n4 (by omega)))
              refine X.iload iX7_larger_98 rfl ?_
              exact X.iret iX7_larger_99 ⟨rfl, rfl⟩
        · refine X.iload iX7_larger_80 rfl ?_
          refine X.goto iX7_larger_82 ?_
          refine X.istore iX7_larger_87 rfl rfl ?_
          refine X.aload iX7_larger_88 rfl ?_
          refine X.callVv iX7_larger_89 (g_backs (d := d + 3)) (by first | rfl | repeat (first | assumption | exact xup_eq _ _ _ | rw [xup_ne _ _ (by first | decide | omega | assumption)])) rfl rfl (xfit _ _ _) (Nat.le_of_ble_eq_true rfl) ?_
          rw [cp_back far]
          refine X.iinc iX7_larger_92 rfl rfl rfl ?_
          refine X.goto iX7_larger_95 ?_
          first
          | (rw [if_neg (Int32.not_le.mpr c77), nI_1]; exact ih (b + 1) (by omega))
          | skip
          all_goals
            rw [if_pos (Int32.not_lt.mp c77), nI_1]
            refine X.iload iX7_larger_36 rfl ?_
            refine X.pushi (v := nI 31) iX7_larger_38 ?_
            refine X.cmge iX7_larger_40 (fun _ => ?_) (fun _ => ?_)
            · refine X.iload iX7_larger_98 rfl ?_
              exact X.iret iX7_larger_99 ⟨rfl, rfl⟩
            · refine X.iload iX7_larger_43 rfl ?_
              refine X.pushi iX7_larger_44 ?_
              refine X.cmne iX7_larger_46 (fun _ => ?_) (fun q => absurd q (nI_n4 (by omega)))
              refine X.iload iX7_larger_98 rfl ?_
              exact X.iret iX7_larger_99 ⟨rfl, rfl⟩
theorem c_X7_larger {d nT nL n : Nat} {g : Int32} {h : XH} {nw tp ro rd ud as kp la sz : Nat → Int32} {it mv : Nat → Int64} {ty pl : Int32} {fa : Bool} {un ku : Int32} {ik : Bool} (wf : WF nw nT nL) (h1 : 1 ≤ n) (hn : n ≤ 60) (hg : inI g (nI 1) (nI 999) = true) : MetH mX7_larger (d + 4, 0, 0) [.ref 98, .int (nI n), .int g] (mh h nw tp ro rd ud as kp la sz it mv ty pl fa un ku ik) (lgF nw nT nL n g 30 1) (mh h nw tp ro rd ud (cp nw as 43) kp la sz it mv ty pl fa un ku ik) := by
  refine MetX.of (by decide) rfl (Nat.le_of_ble_eq_true rfl) ?_
  refine X.iload iX7_larger_0 rfl ?_
  refine X.i2l iX7_larger_1 ?_
  refine X.pushl iX7_larger_2 ?_
  refine X.pushl iX7_larger_3 ?_
  refine X.callSi iX7_larger_6 (c7_inI (d := d + 3) (a := nI 1) (b := nI 60) (by decide) (by decide)) rfl rfl (xfit _ _ _) (Nat.le_of_ble_eq_true rfl) ?_
  refine X.ifeqB iX7_larger_9 (fun c9 => ?_) (fun c9 => ?_)
  · exact absurd (c9.symm.trans (inI_of h1 hn (by decide))) (by decide)
  · refine X.iload iX7_larger_12 rfl ?_
    refine X.i2l iX7_larger_13 ?_
    refine X.pushl iX7_larger_14 ?_
    refine X.pushl iX7_larger_15 ?_
    refine X.callSi iX7_larger_18 (c7_inI (d := d + 3) (a := nI 1) (b := nI 999) (by decide) (by decide)) rfl rfl (xfit _ _ _) (Nat.le_of_ble_eq_true rfl) ?_
    refine X.ifneB iX7_larger_21 (fun c21 => ?_) (fun c21 => ?_)
    · refine X.aload iX7_larger_26 rfl ?_
      refine X.callVv iX7_larger_27 (g_asides (d := d + 3)) (by first | rfl | repeat (first | assumption | exact xup_eq _ _ _ | rw [xup_ne _ _ (by first | decide | omega | assumption)])) rfl rfl (xfit _ _ _) (Nat.le_of_ble_eq_true rfl) ?_
      refine X.pushi iX7_larger_30 ?_
      refine X.istore iX7_larger_32 rfl rfl ?_
      refine X.pushi (v := nI 1) iX7_larger_33 ?_
      refine X.istore iX7_larger_34 rfl rfl ?_
      exact larger_loop wf hn 30 1 rfl
    · exact absurd (c21.symm.trans hg) (by decide)
