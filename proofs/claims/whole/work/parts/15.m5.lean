/-! the reference: what is noted, days, leaning, shaking, undoing -/
def put (f g : Nat → Int32) (a n : Nat) : Nat → Int32 := fun k => if a ≤ k ∧ k < a + n then g (k - a) else f k
theorem put_0 (f g : Nat → Int32) (a : Nat) : put f g a 0 = f := by
  funext i
  unfold put
  rw [if_neg (by omega)]
theorem put_s (f g : Nat → Int32) (a n : Nat) : upd (put f g a n) (a + n) (g n) = put f g a (n + 1) := by
  funext i
  unfold upd put
  by_cases hi : i = a + n
  · subst hi
    rw [if_pos rfl, if_pos (by omega), Nat.add_sub_cancel_left]
  · rw [if_neg hi]
    by_cases h2 : a ≤ i ∧ i < a + n
    · rw [if_pos h2, if_pos (by omega)]
    · rw [if_neg h2, if_neg (by omega)]
theorem ix3 (a b c : Nat) : nI a + nI b + nI c = nI (a + b + c) := by rw [nI_add, nI_add]
def shF (ud : Nat → Int32) (k : Nat) : Nat → Int32 := fun j => if j + 15 < k then ud (j + 15) else ud j
theorem shF_0 (ud : Nat → Int32) : shF ud 15 = ud := by
  funext i
  unfold shF
  rw [if_neg (by omega)]
theorem shF_s (ud : Nat → Int32) (k : Nat) : upd (shF ud (15 + k)) k (shF ud (15 + k) (15 + k)) = shF ud (15 + (k + 1)) := by
  funext i
  unfold upd shF
  by_cases hi : i = k
  · subst hi
    rw [if_pos rfl, if_neg (by omega), if_pos (by omega), Nat.add_comm]
  · rw [if_neg hi]
    by_cases h2 : i + 15 < 15 + k
    · rw [if_pos h2, if_pos (by omega)]
    · rw [if_neg h2, if_neg (by omega)]
def note1 (ud nw : Nat → Int32) (to : Nat) : Nat → Int32 := upd (put ud (fun k => nw (2 + k)) to 4) (to + 4) (nw 8)
def note2 (ud nw : Nat → Int32) (to : Nat) : Nat → Int32 := put (note1 ud nw to) (fun t => nw (9 + 3 * t + 1)) (to + 5) 6
def noteAt (ud nw : Nat → Int32) (to : Nat) : Nat → Int32 := put (note2 ud nw to) (fun l => nw (30 + 4 * l)) (to + 11) 4
theorem notes_tail {d u : Nat} {L : List (Option Value)} {h : XH} {nw tp ro rd ud as kp la sz : Nat → Int32} {it mv : Nat → Int64} {ty pl : Int32} {fa : Bool} {un ku : Int32} {ik : Bool} (hu : u ≤ 7) (eu : un = nI u) (hL : L = [some (.ref 98), none, none]) : X xT mX7_notes (xR (d + 2, 0, 0)) (0, 0) 45 L [] (mh h nw tp ro rd ud as kp la sz it mv ty pl fa un ku ik) (fun v h' => v = none ∧ h' = (mh h nw tp ro rd (noteAt ud nw (15 * u)) as kp la sz it mv ty pl fa (nI (u + 1)) ku ik)) := by
  subst hL
  subst eu
  have P3 : ∀ k, k ≤ 4 → X xT mX7_notes (xR (d + 2, 0, 0)) (0, 0) 129 [some (.ref 98), some (.int (nI (15 * u))), some (.int (nI k))] [] (mh h nw tp ro rd (put (note2 ud nw (15 * u)) (fun l => nw (30 + 4 * l)) (15 * u + 11) k) as kp la sz it mv ty pl fa (nI u) ku ik) (fun v h' => v = none ∧ h' = (mh h nw tp ro rd (noteAt ud nw (15 * u)) as kp la sz it mv ty pl fa (nI (u + 1)) ku ik)) := by
    refine xloop 4 ?_ ?_
    · refine X.iload iX7_notes_129 rfl ?_
      refine X.pushi (v := nI 4) iX7_notes_130 ?_
      refine X.cmge iX7_notes_131 (fun c131 => ?_) (fun c131 => ?_)
      · refine X.aload iX7_notes_156 rfl ?_
        refine X.dupa iX7_notes_157 ?_
        refine X.getf iX7_notes_158 (by first | rfl | repeat (first | assumption | exact xup_eq _ _ _ | rw [xup_ne _ _ (by first | decide | omega | assumption)])) rfl ?_
        refine X.pushi (v := nI 1) iX7_notes_161 ?_
        refine X.iadd iX7_notes_162 ?_
        rw [nI_add]
        refine X.puti iX7_notes_163 (by first | rfl | repeat (first | assumption | exact xup_eq _ _ _ | rw [xup_ne _ _ (by first | decide | omega | assumption)])) (Nat.le_of_ble_eq_true rfl) ?_
        rw [mh98_8]
        exact X.vret iX7_notes_166 ⟨rfl, rfl⟩
      · exact absurd (Int32.le_refl _) c131
    · intro k hk ih
      refine X.iload iX7_notes_129 rfl ?_
      refine X.pushi (v := nI 4) iX7_notes_130 ?_
      refine X.cmge iX7_notes_131 (fun c131 => ?_) (fun c131 => ?_)
      · exact absurd c131 (nI_ge hk (by decide))
      · refine X.aload iX7_notes_134 rfl ?_
        refine X.getf iX7_notes_135 (by first | rfl | repeat (first | assumption | exact xup_eq _ _ _ | rw [xup_ne _ _ (by first | decide | omega | assumption)])) rfl ?_
        refine X.iload iX7_notes_138 rfl ?_
        refine X.pushi (v := nI 11) iX7_notes_139 ?_
        refine X.iadd iX7_notes_141 ?_
        refine X.iload iX7_notes_142 rfl ?_
        refine X.iadd iX7_notes_143 ?_
        refine X.aload iX7_notes_144 rfl ?_
        refine X.iload iX7_notes_145 rfl ?_
        refine X.callVi iX7_notes_146 (c_X7_leansAt (d := d) mh_MO hk) (by first | rfl | repeat (first | assumption | exact xup_eq _ _ _ | rw [xup_ne _ _ (by first | decide | omega | assumption)])) rfl rfl (xfit _ _ _) (Nat.le_of_ble_eq_true rfl) ?_
        refine X.iastE iX7_notes_149 (by first | rfl | repeat (first | assumption | exact xup_eq _ _ _ | rw [xup_ne _ _ (by first | decide | omega | assumption)])) (ix3 _ _ _) (by omega) (by decide) ?_
        rw [mh103, put_s _ (fun l => nw (30 + 4 * l))]
        refine X.iinc iX7_notes_150 rfl rfl rfl ?_
        refine X.goto iX7_notes_153 ?_
        rw [nI_1]
        exact ih
  have P2 : ∀ k, k ≤ 6 → X xT mX7_notes (xR (d + 2, 0, 0)) (0, 0) 99 [some (.ref 98), some (.int (nI (15 * u))), some (.int (nI k))] [] (mh h nw tp ro rd (put (note1 ud nw (15 * u)) (fun t => nw (9 + 3 * t + 1)) (15 * u + 5) k) as kp la sz it mv ty pl fa (nI u) ku ik) (fun v h' => v = none ∧ h' = (mh h nw tp ro rd (noteAt ud nw (15 * u)) as kp la sz it mv ty pl fa (nI (u + 1)) ku ik)) := by
    refine xloop 6 ?_ ?_
    · refine X.iload iX7_notes_99 rfl ?_
      refine X.pushi (v := nI 6) iX7_notes_100 ?_
      refine X.cmge iX7_notes_102 (fun c102 => ?_) (fun c102 => ?_)
      · refine X.pushi (v := nI 0) iX7_notes_127 ?_
        refine X.istore iX7_notes_128 rfl rfl ?_
        have p0 := P3 0 (Nat.zero_le _)
        rw [put_0] at p0
        exact p0
      · exact absurd (Int32.le_refl _) c102
    · intro k hk ih
      refine X.iload iX7_notes_99 rfl ?_
      refine X.pushi (v := nI 6) iX7_notes_100 ?_
      refine X.cmge iX7_notes_102 (fun c102 => ?_) (fun c102 => ?_)
      · exact absurd c102 (nI_ge hk (by decide))
      · refine X.aload iX7_notes_105 rfl ?_
        refine X.getf iX7_notes_106 (by first | rfl | repeat (first | assumption | exact xup_eq _ _ _ | rw [xup_ne _ _ (by first | decide | omega | assumption)])) rfl ?_
        refine X.iload iX7_notes_109 rfl ?_
        refine X.pushi (v := nI 5) iX7_notes_110 ?_
        refine X.iadd iX7_notes_111 ?_
        refine X.iload iX7_notes_112 rfl ?_
        refine X.iadd iX7_notes_113 ?_
        refine X.aload iX7_notes_114 rfl ?_
        refine X.iload iX7_notes_115 rfl ?_
        refine X.pushi (v := nI 1) iX7_notes_116 ?_
        refine X.callVi iX7_notes_117 (c_X7_ofTree (d := d + 1) (w := 1) mh_MO (by omega)) (by first | rfl | repeat (first | assumption | exact xup_eq _ _ _ | rw [xup_ne _ _ (by first | decide | omega | assumption)])) rfl rfl (xfit _ _ _) (Nat.le_of_ble_eq_true rfl) ?_
        refine X.iastE iX7_notes_120 (by first | rfl | repeat (first | assumption | exact xup_eq _ _ _ | rw [xup_ne _ _ (by first | decide | omega | assumption)])) (ix3 _ _ _) (by omega) (by decide) ?_
        rw [mh103, put_s _ (fun t => nw (9 + 3 * t + 1))]
        refine X.iinc iX7_notes_121 rfl rfl rfl ?_
        refine X.goto iX7_notes_124 ?_
        rw [nI_1]
        exact ih
  have P1 : ∀ k, k ≤ 4 → X xT mX7_notes (xR (d + 2, 0, 0)) (0, 0) 55 [some (.ref 98), some (.int (nI (15 * u))), some (.int (nI k))] [] (mh h nw tp ro rd (put ud (fun k => nw (2 + k)) (15 * u) k) as kp la sz it mv ty pl fa (nI u) ku ik) (fun v h' => v = none ∧ h' = (mh h nw tp ro rd (noteAt ud nw (15 * u)) as kp la sz it mv ty pl fa (nI (u + 1)) ku ik)) := by
    refine xloop 4 ?_ ?_
    · refine X.iload iX7_notes_55 rfl ?_
      refine X.pushi (v := nI 4) iX7_notes_56 ?_
      refine X.cmge iX7_notes_57 (fun c57 => ?_) (fun c57 => ?_)
      · refine X.aload iX7_notes_82 rfl ?_
        refine X.getf iX7_notes_83 (by first | rfl | repeat (first | assumption | exact xup_eq _ _ _ | rw [xup_ne _ _ (by first | decide | omega | assumption)])) rfl ?_
        refine X.iload iX7_notes_86 rfl ?_
        refine X.pushi (v := nI 4) iX7_notes_87 ?_
        refine X.iadd iX7_notes_88 ?_
        refine X.aload iX7_notes_89 rfl ?_
        refine X.getf iX7_notes_90 (by first | rfl | repeat (first | assumption | exact xup_eq _ _ _ | rw [xup_ne _ _ (by first | decide | omega | assumption)])) rfl ?_
        refine X.pushi (v := nI 8) iX7_notes_93 ?_
        refine X.ialdN iX7_notes_95 (by first | rfl | repeat (first | assumption | exact xup_eq _ _ _ | rw [xup_ne _ _ (by first | decide | omega | assumption)])) (by omega) (by decide) ?_
        refine X.iastE iX7_notes_96 (by first | rfl | repeat (first | assumption | exact xup_eq _ _ _ | rw [xup_ne _ _ (by first | decide | omega | assumption)])) (nI_add _ 4) (by omega) (by decide) ?_
        rw [mh103]
        refine X.pushi (v := nI 0) iX7_notes_97 ?_
        refine X.istore iX7_notes_98 rfl rfl ?_
        have p0 := P2 0 (Nat.zero_le _)
        rw [put_0] at p0
        exact p0
      · exact absurd (Int32.le_refl _) c57
    · intro k hk ih
      refine X.iload iX7_notes_55 rfl ?_
      refine X.pushi (v := nI 4) iX7_notes_56 ?_
      refine X.cmge iX7_notes_57 (fun c57 => ?_) (fun c57 => ?_)
      · exact absurd c57 (nI_ge hk (by decide))
      · refine X.aload iX7_notes_60 rfl ?_
        refine X.getf iX7_notes_61 (by first | rfl | repeat (first | assumption | exact xup_eq _ _ _ | rw [xup_ne _ _ (by first | decide | omega | assumption)])) rfl ?_
        refine X.iload iX7_notes_64 rfl ?_
        refine X.iload iX7_notes_65 rfl ?_
        refine X.iadd iX7_notes_66 ?_
        refine X.aload iX7_notes_67 rfl ?_
        refine X.getf iX7_notes_68 (by first | rfl | repeat (first | assumption | exact xup_eq _ _ _ | rw [xup_ne _ _ (by first | decide | omega | assumption)])) rfl ?_
        refine X.pushi (v := nI 2) iX7_notes_71 ?_
        refine X.iload iX7_notes_72 rfl ?_
        refine X.iadd iX7_notes_73 ?_
        refine X.ialdE iX7_notes_74 (by first | rfl | repeat (first | assumption | exact xup_eq _ _ _ | rw [xup_ne _ _ (by first | decide | omega | assumption)])) (nI_add 2 k) (by omega) (by decide) ?_
        refine X.iastE iX7_notes_75 (by first | rfl | repeat (first | assumption | exact xup_eq _ _ _ | rw [xup_ne _ _ (by first | decide | omega | assumption)])) (nI_add _ k) (by omega) (by decide) ?_
        rw [mh103, put_s _ (fun k => nw (2 + k))]
        refine X.iinc iX7_notes_76 rfl rfl rfl ?_
        refine X.goto iX7_notes_79 ?_
        rw [nI_1]
        exact ih
  refine X.pushi (v := nI 15) iX7_notes_45 ?_
  refine X.aload iX7_notes_47 rfl ?_
  refine X.getf iX7_notes_48 (by first | rfl | repeat (first | assumption | exact xup_eq _ _ _ | rw [xup_ne _ _ (by first | decide | omega | assumption)])) rfl ?_
  refine X.imul iX7_notes_51 ?_
  rw [pk_mul]
  refine X.istore iX7_notes_52 rfl rfl ?_
  refine X.pushi (v := nI 0) iX7_notes_53 ?_
  refine X.istore iX7_notes_54 rfl rfl ?_
  have p0 := P1 0 (Nat.zero_le _)
  rw [put_0] at p0
  exact p0
def noteF (ud nw : Nat → Int32) (u : Nat) : Nat → Int32 := if u = 8 then noteAt (shF ud 120) nw 105 else noteAt ud nw (15 * u)
def noteN (u : Nat) : Nat := if u = 8 then 8 else u + 1
theorem noteN_le {u : Nat} (hu : u ≤ 8) : noteN u ≤ 8 := by unfold noteN; split <;> omega
theorem c_X7_notes {d u : Nat} {h : XH} {nw tp ro rd ud as kp la sz : Nat → Int32} {it mv : Nat → Int64} {ty pl : Int32} {fa : Bool} {un ku : Int32} {ik : Bool} (hu : u ≤ 8) (eu : un = nI u) : MetV mX7_notes (d + 2, 0, 0) [.ref 98] (mh h nw tp ro rd ud as kp la sz it mv ty pl fa un ku ik) (mh h nw tp ro rd (noteF ud nw u) as kp la sz it mv ty pl fa (nI (noteN u)) ku ik) := by
  subst eu
  refine MetX.of (by decide) rfl (Nat.le_of_ble_eq_true rfl) ?_
  by_cases h8 : u = 8
  · subst h8
    have P : ∀ k, k ≤ 105 → X xT mX7_notes (xR (d + 2, 0, 0)) (0, 0) 12 [some (.ref 98), some (.int (nI (15 + k))), none] [] (mh h nw tp ro rd (shF ud (15 + k)) as kp la sz it mv ty pl fa (nI 8) ku ik) (fun v h' => v = none ∧ h' = (mh h nw tp ro rd (noteAt (shF ud 120) nw 105) as kp la sz it mv ty pl fa (nI 8) ku ik)) := by
      refine xloop 105 ?_ ?_
      · refine X.iload iX7_notes_12 rfl ?_
        refine X.pushi (v := nI 120) iX7_notes_13 ?_
        refine X.cmge iX7_notes_15 (fun c15 => ?_) (fun c15 => ?_)
        · refine X.aload iX7_notes_39 rfl ?_
          refine X.pushi (v := nI 7) iX7_notes_40 ?_
          refine X.puti iX7_notes_42 (by first | rfl | repeat (first | assumption | exact xup_eq _ _ _ | rw [xup_ne _ _ (by first | decide | omega | assumption)])) (Nat.le_of_ble_eq_true rfl) ?_
          rw [mh98_8]
          exact X.unset 1 rfl (notes_tail (d := d) (u := 7) (by omega) rfl rfl)
        · exact absurd (Int32.le_refl _) c15
      · intro k hk ih
        refine X.iload iX7_notes_12 rfl ?_
        refine X.pushi (v := nI 120) iX7_notes_13 ?_
        refine X.cmge iX7_notes_15 (fun c15 => ?_) (fun c15 => ?_)
        · exact absurd c15 (nI_ge (by omega) (by decide))
        · refine X.aload iX7_notes_18 rfl ?_
          refine X.getf iX7_notes_19 (by first | rfl | repeat (first | assumption | exact xup_eq _ _ _ | rw [xup_ne _ _ (by first | decide | omega | assumption)])) rfl ?_
          refine X.iload iX7_notes_22 rfl ?_
          refine X.pushi (v := nI 15) iX7_notes_23 ?_
          refine X.isub iX7_notes_25 ?_
          refine X.aload iX7_notes_26 rfl ?_
          refine X.getf iX7_notes_27 (by first | rfl | repeat (first | assumption | exact xup_eq _ _ _ | rw [xup_ne _ _ (by first | decide | omega | assumption)])) rfl ?_
          refine X.iload iX7_notes_30 rfl ?_
          rw [pk_sub (by omega), Nat.add_sub_cancel_left]
          refine X.ialdN iX7_notes_31 (by first | rfl | repeat (first | assumption | exact xup_eq _ _ _ | rw [xup_ne _ _ (by first | decide | omega | assumption)])) (by omega) (by decide) ?_
          refine X.iastN iX7_notes_32 (by first | rfl | repeat (first | assumption | exact xup_eq _ _ _ | rw [xup_ne _ _ (by first | decide | omega | assumption)])) (by omega) (by decide) ?_
          rw [mh103, shF_s]
          refine X.iinc iX7_notes_33 rfl rfl rfl ?_
          refine X.goto iX7_notes_36 ?_
          rw [nI_1]
          exact ih
    have p0 := P 0 (Nat.zero_le _)
    rw [shF_0] at p0
    refine X.aload iX7_notes_0 rfl ?_
    refine X.getf iX7_notes_1 (by first | rfl | repeat (first | assumption | exact xup_eq _ _ _ | rw [xup_ne _ _ (by first | decide | omega | assumption)])) rfl ?_
    refine X.pushi (v := nI 8) iX7_notes_4 ?_
    refine X.cmne iX7_notes_6 (fun c6 => ?_) (fun c6 => ?_)
    · exact absurd rfl c6
    · refine X.pushi (v := nI 15) iX7_notes_9 ?_
      refine X.istore iX7_notes_11 rfl rfl ?_
      exact p0
  · rw [noteF, noteN, if_neg h8, if_neg h8]
    refine X.aload iX7_notes_0 rfl ?_
    refine X.getf iX7_notes_1 (by first | rfl | repeat (first | assumption | exact xup_eq _ _ _ | rw [xup_ne _ _ (by first | decide | omega | assumption)])) rfl ?_
    refine X.pushi (v := nI 8) iX7_notes_4 ?_
    refine X.cmne iX7_notes_6 (fun c6 => ?_) (fun c6 => ?_)
    · exact notes_tail (by omega) rfl rfl
    · exact absurd ((nI_eq (by omega) (by decide)).mp c6) h8
/-- n days, each noted -/
def nsU (nw ud : Nat → Int32) (nT nL u : Nat) : Nat → (Nat → Int32) × Nat
  | 0 => (ud, u)
  | k + 1 => (noteF (nsU nw ud nT nL u k).1 (gbN nw nT nL k) (nsU nw ud nT nL u k).2, noteN (nsU nw ud nT nL u k).2)
theorem nsU_le {nw ud : Nat → Int32} {nT nL u : Nat} (hu : u ≤ 8) : ∀ k, (nsU nw ud nT nL u k).2 ≤ 8
  | 0 => hu
  | k + 1 => noteN_le (nsU_le hu k)
theorem c_X7_days_bad {d : Nat} {n : Int32} {h : XH} {nw tp ro rd ud as kp la sz : Nat → Int32} {it mv : Nat → Int64} {ty pl : Int32} {fa : Bool} {un ku : Int32} {ik : Bool} (hn : inI n (nI 1) (nI 40) = false) : MetI mX7_days (d + 1, 0, 0) [.ref 98, .int n] (mh h nw tp ro rd ud as kp la sz it mv ty pl fa un ku ik) (-1) := by
  refine MetX.of (by decide) rfl (Nat.le_of_ble_eq_true rfl) ?_
  refine X.iload iX7_days_0 rfl ?_
  refine X.i2l iX7_days_1 ?_
  refine X.pushl iX7_days_2 ?_
  refine X.pushl iX7_days_3 ?_
  refine X.callSi iX7_days_6 (c7_inI (d := d) (a := nI 1) (b := nI 40) (by decide) (by decide)) rfl rfl (xfit _ _ _) (Nat.le_of_ble_eq_true rfl) ?_
  refine X.ifneB iX7_days_9 (fun c9 => ?_) (fun c9 => ?_)
  · exact absurd (c9.symm.trans hn) (by decide)
  · refine X.pushi iX7_days_12 ?_
    exact X.iret iX7_days_13 ⟨rfl, rfl⟩
theorem c_X7_days {d n nT nL u dy : Nat} {h : XH} {nw tp ro rd ud as kp la sz : Nat → Int32} {it mv : Nat → Int64} {ty pl : Int32} {fa : Bool} {un ku : Int32} {ik : Bool} (wf : WF nw nT nL) (h1 : 1 ≤ n) (h2 : n ≤ 40) (hd : nw 2 = nI dy) (hdy : dy ≤ 20000) (hu : u ≤ 8) (eu : un = nI u) : MetH mX7_days (d + 3, 0, 0) [.ref 98, .int (nI n)] (mh h nw tp ro rd ud as kp la sz it mv ty pl fa un ku ik) (if 9999 < dy + n then -3 else gbN nw nT nL n 3 - nw 3) (if 9999 < dy + n then (mh h nw tp ro rd ud as kp la sz it mv ty pl fa un ku ik) else (mh h (gbN nw nT nL n) tp ro rd ((nsU nw ud nT nL u n).1) as kp la sz it mv ty pl fa (nI (nsU nw ud nT nL u n).2) ku ik)) := by
  subst eu
  refine MetX.of (by decide) rfl (Nat.le_of_ble_eq_true rfl) ?_
  have P : ∀ k, k ≤ n → X xT mX7_days (xR (d + 3, 0, 0)) (0, 0) 40 [some (.ref 98), some (.int (nI n)), some (.int (nw 3)), some (.int (nI k))] [] (mh h (gbN nw nT nL k) tp ro rd ((nsU nw ud nT nL u k).1) as kp la sz it mv ty pl fa (nI (nsU nw ud nT nL u k).2) ku ik) (fun v h' => v = some (.int (gbN nw nT nL n 3 - nw 3)) ∧ h' = (mh h (gbN nw nT nL n) tp ro rd ((nsU nw ud nT nL u n).1) as kp la sz it mv ty pl fa (nI (nsU nw ud nT nL u n).2) ku ik)) := by
    refine xloop n ?_ ?_
    · refine X.iload iX7_days_40 rfl ?_
      refine X.iload iX7_days_41 rfl ?_
      refine X.cmge iX7_days_42 (fun c42 => ?_) (fun c42 => ?_)
      · refine X.aload iX7_days_60 rfl ?_
        refine X.getf iX7_days_61 (by first | rfl | repeat (first | assumption | exact xup_eq _ _ _ | rw [xup_ne _ _ (by first | decide | omega | assumption)])) rfl ?_
        refine X.pushi (v := nI 3) iX7_days_64 ?_
        refine X.ialdN iX7_days_65 (by first | rfl | repeat (first | assumption | exact xup_eq _ _ _ | rw [xup_ne _ _ (by first | decide | omega | assumption)])) (by omega) (by decide) ?_
        refine X.iload iX7_days_66 rfl ?_
        refine X.isub iX7_days_67 ?_
        exact X.iret iX7_days_68 ⟨rfl, rfl⟩
      · exact absurd (Int32.le_refl _) c42
    · intro k hk ih
      refine X.iload iX7_days_40 rfl ?_
      refine X.iload iX7_days_41 rfl ?_
      refine X.cmge iX7_days_42 (fun c42 => ?_) (fun c42 => ?_)
      · exact absurd c42 (nI_ge hk (by omega))
      · refine X.aload iX7_days_45 rfl ?_
        refine X.callVv iX7_days_46 (c_X7_notes (d := d) (nsU_le hu k) rfl) (by first | rfl | repeat (first | assumption | exact xup_eq _ _ _ | rw [xup_ne _ _ (by first | decide | omega | assumption)])) rfl rfl (xfit _ _ _) (Nat.le_of_ble_eq_true rfl) ?_
        refine X.aload iX7_days_49 rfl ?_
        refine X.pushi (v := nI 0) iX7_days_50 ?_
        refine X.callVv iX7_days_51 (g_goesBy (d := d) (gbN_wf wf k)) (by first | rfl | repeat (first | assumption | exact xup_eq _ _ _ | rw [xup_ne _ _ (by first | decide | omega | assumption)])) rfl rfl (xfit _ _ _) (Nat.le_of_ble_eq_true rfl) ?_
        refine X.iinc iX7_days_54 rfl rfl rfl ?_
        refine X.goto iX7_days_57 ?_
        rw [nI_1]
        exact ih
  refine X.iload iX7_days_0 rfl ?_
  refine X.i2l iX7_days_1 ?_
  refine X.pushl iX7_days_2 ?_
  refine X.pushl iX7_days_3 ?_
  refine X.callSi iX7_days_6 (c7_inI (d := d + 2) (a := nI 1) (b := nI 40) (by decide) (by decide)) rfl rfl (xfit _ _ _) (Nat.le_of_ble_eq_true rfl) ?_
  refine X.ifneB iX7_days_9 (fun c9 => ?_) (fun c9 => ?_)
  · refine X.aload iX7_days_14 rfl ?_
    refine X.getf iX7_days_15 (by first | rfl | repeat (first | assumption | exact xup_eq _ _ _ | rw [xup_ne _ _ (by first | decide | omega | assumption)])) rfl ?_
    refine X.pushi (v := nI 2) iX7_days_18 ?_
    refine X.ialdN iX7_days_19 (by first | rfl | repeat (first | assumption | exact xup_eq _ _ _ | rw [xup_ne _ _ (by first | decide | omega | assumption)])) (by omega) (by decide) ?_
    refine X.iload iX7_days_20 rfl ?_
    refine X.iadd iX7_days_21 ?_
    rw [hd, nI_add]
    refine X.pushi (v := nI 9999) iX7_days_22 ?_
    refine X.cmle iX7_days_25 (fun c25 => ?_) (fun c25 => ?_)
    · have q : ¬ 9999 < dy + n := by have := (nI_leI (by omega) (by decide)).mp c25; omega
      rw [if_neg q, if_neg q]
      refine X.aload iX7_days_31 rfl ?_
      refine X.getf iX7_days_32 (by first | rfl | repeat (first | assumption | exact xup_eq _ _ _ | rw [xup_ne _ _ (by first | decide | omega | assumption)])) rfl ?_
      refine X.pushi (v := nI 3) iX7_days_35 ?_
      refine X.ialdN iX7_days_36 (by first | rfl | repeat (first | assumption | exact xup_eq _ _ _ | rw [xup_ne _ _ (by first | decide | omega | assumption)])) (by omega) (by decide) ?_
      refine X.istore iX7_days_37 rfl rfl ?_
      refine X.pushi (v := nI 0) iX7_days_38 ?_
      refine X.istore iX7_days_39 rfl rfl ?_
      exact P 0 (Nat.zero_le _)
    · refine X.pushi iX7_days_28 ?_
      have q : 9999 < dy + n := by
        rcases Nat.lt_or_ge 9999 (dy + n) with q | q
        · exact q
        · exact absurd (nI_le q (by decide)) c25
      exact X.iret iX7_days_30 ⟨by rw [if_pos q], by rw [if_pos q]⟩
  · exact absurd (c9.symm.trans (inI_of h1 h2 (by decide))) (by decide)
