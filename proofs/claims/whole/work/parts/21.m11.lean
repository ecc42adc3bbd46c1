/-! the reference: films, what was left -/
def filmG (nw : Nat → Int32) (nT nL t : Nat) : Nat → Int64 := fun k => (gbN nw nT nL (k + 1) (9 + 3 * t + 1)).toInt64
theorem c_X7_film_bad {d : Nat} {t n s l i : Int32} {h : XH} {nw tp ro rd ud as kp la sz : Nat → Int32} {it mv : Nat → Int64} {ty pl : Int32} {fa : Bool} {un ku : Int32} {ik : Bool} (hb : isT nw t = false ∨ inI n (nI 1) (nI 24) = false ∨ inI s (nI 0) (nI 3) = false ∨ inI l (nI 0) (nI 3) = false) : MetI mX7_film (d + 2, 0, 0) [.ref 98, .int t, .int n, .int s, .int l, .int i] (mh h nw tp ro rd ud as kp la sz it mv ty pl fa un ku ik) (-1) := by
  refine MetX.of (by decide) rfl (Nat.le_of_ble_eq_true rfl) ?_
  refine X.aload iX7_film_0 rfl ?_
  refine X.iload iX7_film_1 rfl ?_
  refine X.callVi iX7_film_2 (c_X7_isTree (d := d) mh_MO) (by first | rfl | repeat (first | assumption | exact xup_eq _ _ _ | rw [xup_ne _ _ (by first | decide | omega | assumption)])) rfl rfl (xfit _ _ _) (Nat.le_of_ble_eq_true rfl) ?_
  refine X.ifeqB iX7_film_5 (fun c5 => ?_) (fun c5 => ?_)
  · refine X.pushi iX7_film_35 ?_
    exact X.iret iX7_film_36 ⟨rfl, rfl⟩
  · refine X.iload iX7_film_8 rfl ?_
    refine X.i2l iX7_film_9 ?_
    refine X.pushl iX7_film_10 ?_
    refine X.pushl iX7_film_11 ?_
    refine X.callSi iX7_film_14 (c7_inI (d := d + 1) (a := nI 1) (b := nI 24) (by decide) (by decide)) rfl rfl (xfit _ _ _) (Nat.le_of_ble_eq_true rfl) ?_
    refine X.ifeqB iX7_film_17 (fun c17 => ?_) (fun c17 => ?_)
    · refine X.pushi iX7_film_35 ?_
      exact X.iret iX7_film_36 ⟨rfl, rfl⟩
    · refine X.iload iX7_film_20 rfl ?_
      refine X.callSi iX7_film_21 (c_X7_isSheet (d := d)) rfl rfl (xfit _ _ _) (Nat.le_of_ble_eq_true rfl) ?_
      refine X.ifeqB iX7_film_24 (fun c24 => ?_) (fun c24 => ?_)
      · refine X.pushi iX7_film_35 ?_
        exact X.iret iX7_film_36 ⟨rfl, rfl⟩
      · refine X.iload iX7_film_27 rfl ?_
        refine X.callSi iX7_film_29 (c_X7_isLane (d := d)) rfl rfl (xfit _ _ _) (Nat.le_of_ble_eq_true rfl) ?_
        refine X.ifneB iX7_film_32 (fun c32 => ?_) (fun c32 => ?_)
        · exact absurd hb (by intro q; rcases q with q | q | q | q; exact absurd (c5.symm.trans q) (by decide); exact absurd (c17.symm.trans q) (by decide); exact absurd (c24.symm.trans q) (by decide); exact absurd (c32.symm.trans q) (by decide))
        · refine X.pushi iX7_film_35 ?_
          exact X.iret iX7_film_36 ⟨rfl, rfl⟩
theorem c_X7_film {d nT nL t n s z : Nat} {l i : Int32} {h : XH} {nw tp ro rd ud as kp la sz : Nat → Int32} {it mv : Nat → Int64} {ty pl : Int32} {fa : Bool} {un ku : Int32} {ik : Bool} (wf : WF nw nT nL) (ht : t < nT) (hn1 : 1 ≤ n) (hn : n ≤ 24) (hs : s < 4) (hl : inI l (nI 0) (nI 3) = true) (hz : sz s = nI z) (hz2 : z ≤ 24) : MetH mX7_film (d + 3, 0, 0) [.ref 98, .int (nI t), .int (nI n), .int (nI s), .int l, .int i] (mh h nw tp ro rd ud as kp la sz it mv ty pl fa un ku ik) (if 0 ≤ whyF la sz s l i (nI n) then nI n else whyF la sz s l i (nI n)) (if 0 ≤ whyF la sz s l i (nI n) then (mh h nw tp ro rd ud (cp nw as 43) kp la sz (putL it (filmG nw nT nL t) (24 * s + i.toNatClampNeg) n) mv ty pl fa un ku ik) else (mh h nw tp ro rd ud as kp la sz it mv ty pl fa un ku ik)) := by
  have hT := wf.2.2.1
  have go : ∀ (i : Nat) (x6 : Int32), i + n ≤ 24 → ∀ k, k ≤ n → X xT mX7_film (xR (d + 3, 0, 0)) (0, 0) 64 [some (.ref 98), some (.int (nI t)), some (.int (nI n)), some (.int (nI s)), some (.int l), some (.int (nI i)), some (.int x6), some (.int (nI k))] [] (mh h (gbN nw nT nL k) tp ro rd ud (cp nw as 43) kp la sz (putL it (filmG nw nT nL t) (24 * s + i) k) mv ty pl fa un ku ik) (fun v h' => v = some (.int (nI n)) ∧ h' = (mh h nw tp ro rd ud (cp nw as 43) kp la sz (putL it (filmG nw nT nL t) (24 * s + i) n) mv ty pl fa un ku ik)) := by
    intro i x6 hi
    refine xloop n ?_ ?_
    · refine X.iload iX7_film_64 rfl ?_
      refine X.iload iX7_film_66 rfl ?_
      refine X.cmge iX7_film_67 (fun c67 => ?_) (fun c67 => ?_)
      · refine X.aload iX7_film_103 rfl ?_
        refine X.callVv iX7_film_104 (g_backs (d := d + 2)) (by first | rfl | repeat (first | assumption | exact xup_eq _ _ _ | rw [xup_ne _ _ (by first | decide | omega | assumption)])) rfl rfl (xfit _ _ _) (Nat.le_of_ble_eq_true rfl) ?_
        rw [cp_back (gbN_far wf n)]
        refine X.iload iX7_film_107 rfl ?_
        exact X.iret iX7_film_108 ⟨rfl, rfl⟩
      · exact absurd (Int32.le_refl _) c67
    · intro k hk ih
      refine X.iload iX7_film_64 rfl ?_
      refine X.iload iX7_film_66 rfl ?_
      refine X.cmge iX7_film_67 (fun c67 => ?_) (fun c67 => ?_)
      · exact absurd c67 (nI_ge hk (by omega))
      · refine X.aload iX7_film_70 rfl ?_
        refine X.pushi (v := nI 0) iX7_film_71 ?_
        refine X.callVv iX7_film_72 (g_goesBy (d := d) (gbN_wf wf k)) (by first | rfl | repeat (first | assumption | exact xup_eq _ _ _ | rw [xup_ne _ _ (by first | decide | omega | assumption)])) rfl rfl (xfit _ _ _) (Nat.le_of_ble_eq_true rfl) ?_
        refine X.aload iX7_film_75 rfl ?_
        refine X.getf iX7_film_76 (by first | rfl | repeat (first | assumption | exact xup_eq _ _ _ | rw [xup_ne _ _ (by first | decide | omega | assumption)])) rfl ?_
        refine X.pushi (v := nI 24) iX7_film_79 ?_
        refine X.iload iX7_film_81 rfl ?_
        refine X.imul iX7_film_82 ?_
        refine X.iload iX7_film_83 rfl ?_
        refine X.iadd iX7_film_85 ?_
        refine X.iload iX7_film_86 rfl ?_
        refine X.iadd iX7_film_88 ?_
        refine X.aload iX7_film_89 rfl ?_
        refine X.iload iX7_film_90 rfl ?_
        refine X.pushi (v := nI 1) iX7_film_91 ?_
        refine X.callVi iX7_film_92 (c_X7_ofTree (d := d + 2) (w := 1) mh_MO (by omega)) (by first | rfl | repeat (first | assumption | exact xup_eq _ _ _ | rw [xup_ne _ _ (by first | decide | omega | assumption)])) rfl rfl (xfit _ _ _) (Nat.le_of_ble_eq_true rfl) ?_
        refine X.i2l iX7_film_95 ?_
        refine X.lastE iX7_film_96 (by first | rfl | repeat (first | assumption | exact xup_eq _ _ _ | rw [xup_ne _ _ (by first | decide | omega | assumption)])) (ixS3 s i k) (by omega) (by decide) ?_
        rw [mh108]
        refine X.iinc iX7_film_97 rfl rfl rfl ?_
        refine X.goto iX7_film_100 ?_
        rw [nI_1]
        exact X.heap (by rw [← putL_s]; rfl) ih
  refine MetX.of (by decide) rfl (Nat.le_of_ble_eq_true rfl) ?_
  refine X.aload iX7_film_0 rfl ?_
  refine X.iload iX7_film_1 rfl ?_
  refine X.callVi iX7_film_2 (c_X7_isTree (d := d + 1) mh_MO) (by first | rfl | repeat (first | assumption | exact xup_eq _ _ _ | rw [xup_ne _ _ (by first | decide | omega | assumption)])) rfl rfl (xfit _ _ _) (Nat.le_of_ble_eq_true rfl) ?_
  refine X.ifeqB iX7_film_5 (fun c5 => ?_) (fun c5 => ?_)
  · exact absurd (c5.symm.trans (isT_of wf ht)) (by decide)
  · refine X.iload iX7_film_8 rfl ?_
    refine X.i2l iX7_film_9 ?_
    refine X.pushl iX7_film_10 ?_
    refine X.pushl iX7_film_11 ?_
    refine X.callSi iX7_film_14 (c7_inI (d := d + 2) (a := nI 1) (b := nI 24) (by decide) (by decide)) rfl rfl (xfit _ _ _) (Nat.le_of_ble_eq_true rfl) ?_
    refine X.ifeqB iX7_film_17 (fun c17 => ?_) (fun c17 => ?_)
    · exact absurd (c17.symm.trans (inI_of hn1 hn (by decide))) (by decide)
    · refine X.iload iX7_film_20 rfl ?_
      refine X.callSi iX7_film_21 (c_X7_isSheet (d := d + 1)) rfl rfl (xfit _ _ _) (Nat.le_of_ble_eq_true rfl) ?_
      refine X.ifeqB iX7_film_24 (fun c24 => ?_) (fun c24 => ?_)
      · exact absurd (c24.symm.trans (inI_of (Nat.zero_le _) (show s ≤ 3 by omega) (by decide))) (by decide)
      · refine X.iload iX7_film_27 rfl ?_
        refine X.callSi iX7_film_29 (c_X7_isLane (d := d + 1)) rfl rfl (xfit _ _ _) (Nat.le_of_ble_eq_true rfl) ?_
        refine X.ifneB iX7_film_32 (fun c32 => ?_) (fun c32 => ?_)
        · refine X.aload iX7_film_37 rfl ?_
          refine X.iload iX7_film_38 rfl ?_
          refine X.iload iX7_film_39 rfl ?_
          refine X.iload iX7_film_41 rfl ?_
          refine X.iload iX7_film_43 rfl ?_
          refine X.callVi iX7_film_44 (c_X7_why (d := d + 2) hs) (by first | rfl | repeat (first | assumption | exact xup_eq _ _ _ | rw [xup_ne _ _ (by first | decide | omega | assumption)])) rfl rfl (xfit _ _ _) (Nat.le_of_ble_eq_true rfl) ?_
          refine X.istore iX7_film_47 rfl rfl ?_
          refine X.iload iX7_film_49 rfl ?_
          refine X.ifge iX7_film_51 (fun c51 => ?_) (fun c51 => ?_)
          · rw [if_pos c51, if_pos c51]
            obtain ⟨-, -, i', m, rfl, hm, him, -⟩ := whyF_0 hz hz2 c51
            have hm1 : n = m := (nI_eq (by omega) (by omega)).mp hm
            rw [nI_clamp (by omega)]
            refine X.aload iX7_film_57 rfl ?_
            refine X.callVv iX7_film_58 (g_asides (d := d + 2)) (by first | rfl | repeat (first | assumption | exact xup_eq _ _ _ | rw [xup_ne _ _ (by first | decide | omega | assumption)])) rfl rfl (xfit _ _ _) (Nat.le_of_ble_eq_true rfl) ?_
            refine X.pushi (v := nI 0) iX7_film_61 ?_
            refine X.istore iX7_film_62 rfl rfl ?_
            have p0 := go i' (whyF la sz s l (nI i') (nI n)) (by omega) 0 (Nat.zero_le _)
            rw [putL_0] at p0
            exact p0
          · refine X.iload iX7_film_54 rfl ?_
            exact X.iret iX7_film_56 ⟨by rw [if_neg c51], by rw [if_neg c51]⟩
        · exact absurd (c32.symm.trans hl) (by decide)
/-- only ladder l leans at tree t (none, if l is how many there are) -/
def lfL (nw : Nat → Int32) (t l : Nat) : Nat → (Nat → Int32)
  | 0 => nw
  | k + 1 => upd (lfL nw t l k) (27 + 4 * k + 3) (if k = l then nI t else if lfL nw t l k (30 + 4 * k) = nI t then -4 else lfL nw t l k (30 + 4 * k))
theorem lfL_wf {nw : Nat → Int32} {nT nL t l : Nat} (ht : t < nT) (h : WF nw nT nL) : ∀ k, k ≤ nL → WF (lfL nw t l k) nT nL
  | 0, _ => h
  | k + 1, hk => by
    have ih := lfL_wf (l := l) ht h k (by omega)
    obtain ⟨h1, h2, h3, h4, h5⟩ := ih
    refine ⟨by rw [lfL, upd_ne _ _ (by omega)]; exact h1, by rw [lfL, upd_ne _ _ (by omega)]; exact h2, h3, h4, fun j hj => ?_⟩
    rw [lfL]
    by_cases e : j = k
    · subst e
      rw [show 27 + 4 * j + 3 = 30 + 4 * j by omega, upd_eq]
      split
      · exact Or.inr ⟨t, ht, rfl⟩
      · split
        · exact Or.inl rfl
        · exact h5 j hj
    · rw [upd_ne _ _ (by omega)]
      exact h5 j hj
theorem lfL_far {nw : Nat → Int32} {t l : Nat} : ∀ k, k ≤ 4 → Far (lfL nw t l k) nw
  | 0, _ => Far.rf _
  | k + 1, hk => by
    rw [lfL]
    exact (lfL_far k (by omega)).upd (by omega) _
theorem left_set {d nT nL t l : Nat} {L2 L3 L4 L5 L6 L7 : Option Value} {Q : Option Value → XH → Prop} {h : XH} {nw tp ro rd ud as kp la sz : Nat → Int32} {it mv : Nat → Int64} {ty pl : Int32} {fa : Bool} {un ku : Int32} {ik : Bool} (wf : WF nw nT nL) (ht : t < nT) (hl : l ≤ nL) (K : X xT mX7_left (xR (d + 4, 0, 0)) (0, 0) 144 [some (.ref 98), some (.int (nI t)), L2, L3, L4, L5, L6, L7, some (.int (nI l)), none, none] [] (mh h (lfL nw t l nL) tp ro rd ud as kp la sz it mv ty pl fa un ku ik) Q) : ∀ k, k ≤ nL → X xT mX7_left (xR (d + 4, 0, 0)) (0, 0) 81 [some (.ref 98), some (.int (nI t)), L2, L3, L4, L5, L6, L7, some (.int (nI l)), some (.int (nI k)), none] [] (mh h (lfL nw t l k) tp ro rd ud as kp la sz it mv ty pl fa un ku ik) Q := by
  have hT := wf.2.2.1
  have hL := wf.2.2.2.1
  refine xloop nL ?_ ?_
  · have wk := lfL_wf (l := l) ht wf nL (Nat.le_refl _)
    refine X.iload iX7_left_81 rfl ?_
    refine X.aload iX7_left_83 rfl ?_
    refine X.getf iX7_left_84 (by first | rfl | repeat (first | assumption | exact xup_eq _ _ _ | rw [xup_ne _ _ (by first | decide | omega | assumption)])) rfl ?_
    refine X.pushi (v := nI 1) iX7_left_87 ?_
    refine X.ialdN iX7_left_88 (by first | rfl | repeat (first | assumption | exact xup_eq _ _ _ | rw [xup_ne _ _ (by first | decide | omega | assumption)])) (by omega) (by decide) ?_
    refine X.cmge iX7_left_89 (fun c89 => ?_) (fun c89 => ?_)
    · exact X.unset 9 rfl K
    · exact absurd (by rw [wk.2.1]; exact Int32.le_refl _) c89
  · intro k hk ih
    have wk := lfL_wf (l := l) ht wf k (by omega)
    rw [show lfL nw t l (k + 1) = upd (lfL nw t l k) (27 + 4 * k + 3) (if k = l then nI t else if lfL nw t l k (30 + 4 * k) = nI t then -4 else lfL nw t l k (30 + 4 * k)) from rfl] at ih
    refine X.iload iX7_left_81 rfl ?_
    refine X.aload iX7_left_83 rfl ?_
    refine X.getf iX7_left_84 (by first | rfl | repeat (first | assumption | exact xup_eq _ _ _ | rw [xup_ne _ _ (by first | decide | omega | assumption)])) rfl ?_
    refine X.pushi (v := nI 1) iX7_left_87 ?_
    refine X.ialdN iX7_left_88 (by first | rfl | repeat (first | assumption | exact xup_eq _ _ _ | rw [xup_ne _ _ (by first | decide | omega | assumption)])) (by omega) (by decide) ?_
    refine X.cmge iX7_left_89 (fun c89 => ?_) (fun c89 => ?_)
    · exact absurd (by rw [← wk.2.1]; exact c89) (nI_ge hk (by omega))
    · refine X.aload iX7_left_92 rfl ?_
      refine X.getf iX7_left_93 (by first | rfl | repeat (first | assumption | exact xup_eq _ _ _ | rw [xup_ne _ _ (by first | decide | omega | assumption)])) rfl ?_
      refine X.pushi (v := nI 27) iX7_left_96 ?_
      refine X.pushi (v := nI 4) iX7_left_98 ?_
      refine X.iload iX7_left_99 rfl ?_
      refine X.imul iX7_left_101 ?_
      refine X.iadd iX7_left_102 ?_
      refine X.pushi (v := nI 3) iX7_left_103 ?_
      refine X.iadd iX7_left_104 ?_
      refine X.iload iX7_left_105 rfl ?_
      refine X.iload iX7_left_107 rfl ?_
      refine X.cmne iX7_left_109 (fun c109 => ?_) (fun c109 => ?_)
      · refine X.aload iX7_left_116 rfl ?_
        refine X.iload iX7_left_117 rfl ?_
        refine X.callVi iX7_left_119 (c_X7_leansAt (d := d + 2) mh_MO (by omega)) (by first | rfl | repeat (first | assumption | exact xup_eq _ _ _ | rw [xup_ne _ _ (by first | decide | omega | assumption)])) rfl rfl (xfit _ _ _) (Nat.le_of_ble_eq_true rfl) ?_
        refine X.iload iX7_left_122 rfl ?_
        refine X.cmne iX7_left_123 (fun c123 => ?_) (fun c123 => ?_)
        · refine X.aload iX7_left_131 rfl ?_
          refine X.iload iX7_left_132 rfl ?_
          refine X.callVi iX7_left_134 (c_X7_leansAt (d := d + 2) mh_MO (by omega)) (by first | rfl | repeat (first | assumption | exact xup_eq _ _ _ | rw [xup_ne _ _ (by first | decide | omega | assumption)])) rfl rfl (xfit _ _ _) (Nat.le_of_ble_eq_true rfl) ?_
          refine X.iastE iX7_left_137 (by first | rfl | repeat (first | assumption | exact xup_eq _ _ _ | rw [xup_ne _ _ (by first | decide | omega | assumption)])) (ixL k 3) (by omega) (by decide) ?_
          rw [mh99]
          refine X.iinc iX7_left_138 rfl rfl rfl ?_
          refine X.goto iX7_left_141 ?_
          rw [nI_1]
          first
          | (rw [if_pos ((nI_eq (show k < 2 ^ 31 by omega) (show l < 2 ^ 31 by omega)).mp c109)] at ih; exact ih)
          | (rw [if_neg (fun q => c109 (congrArg nI q)), if_pos c123] at ih; exact ih)
          | (rw [if_neg (fun q => c109 (congrArg nI q)), if_neg c123] at ih; exact ih)
        · refine X.pushi iX7_left_126 ?_
          refine X.goto iX7_left_128 ?_
          refine X.iastE iX7_left_137 (by first | rfl | repeat (first | assumption | exact xup_eq _ _ _ | rw [xup_ne _ _ (by first | decide | omega | assumption)])) (ixL k 3) (by omega) (by decide) ?_
          rw [mh99]
          refine X.iinc iX7_left_138 rfl rfl rfl ?_
          refine X.goto iX7_left_141 ?_
          rw [nI_1]
          first
          | (rw [if_pos ((nI_eq (show k < 2 ^ 31 by omega) (show l < 2 ^ 31 by omega)).mp c109)] at ih; exact ih)
          | (rw [if_neg (fun q => c109 (congrArg nI q)), if_pos c123] at ih; exact ih)
          | (rw [if_neg (fun q => c109 (congrArg nI q)), if_neg c123] at ih; exact ih)
      · refine X.iload iX7_left_112 rfl ?_
        refine X.goto iX7_left_113 ?_
        refine X.iastE iX7_left_137 (by first | rfl | repeat (first | assumption | exact xup_eq _ _ _ | rw [xup_ne _ _ (by first | decide | omega | assumption)])) (ixL k 3) (by omega) (by decide) ?_
        rw [mh99]
        refine X.iinc iX7_left_138 rfl rfl rfl ?_
        refine X.goto iX7_left_141 ?_
        rw [nI_1]
        first
        | (rw [if_pos ((nI_eq (show k < 2 ^ 31 by omega) (show l < 2 ^ 31 by omega)).mp c109)] at ih; exact ih)
        | (rw [if_neg (fun q => c109 (congrArg nI q)), if_pos c123] at ih; exact ih)
        | (rw [if_neg (fun q => c109 (congrArg nI q)), if_neg c123] at ih; exact ih)
/-- the row of items is what the tree would have behind each of the next k days -/
def isF (f : Nat → Int32) (nT nL t : Nat) (it : Nat → Int64) (a : Nat) : Nat → Bool
  | 0 => true
  | k + 1 => isF f nT nL t it a k && decide ((gbN f nT nL (k + 1) (9 + 3 * t + 1)).toInt64 = it (a + k))
theorem lg0 (x y : Int64) : lg_cmp x y = 0 ↔ x = y := by
  unfold lg_cmp
  by_cases h1 : x > y
  · rw [if_pos h1]
    exact ⟨fun q => absurd q (by decide), fun q => by subst q; exact absurd h1 (Int64.lt_irrefl)⟩
  · rw [if_neg h1]
    by_cases h2 : x = y
    · rw [if_pos h2]; exact ⟨fun _ => h2, fun _ => rfl⟩
    · rw [if_neg h2]; exact ⟨fun q => absurd q (by decide), fun q => absurd q h2⟩
theorem left_days {d nT nL t s i n : Nat} {L3 L6 L7 L8 : Option Value} {x8 : Int32} {Q : Option Value → XH → Prop} {h : XH} {nw tp ro rd ud as kp la sz : Nat → Int32} {it mv : Nat → Int64} {ty pl : Int32} {fa : Bool} {un ku : Int32} {ik : Bool} (wf : WF nw nT nL) (ht : t < nT) (hs : s < 4) (hi : i + n ≤ 24) (e8 : L8 = some (.int x8)) (K : X xT mX7_left (xR (d + 4, 0, 0)) (0, 0) 206 [some (.ref 98), some (.int (nI t)), some (.int (nI s)), L3, some (.int (nI i)), some (.int (nI n)), L6, L7, L8, some (.int (bI (isF nw nT nL t it (24 * s + i) n))), none] [] (mh h (gbN nw nT nL n) tp ro rd ud as kp la sz it mv ty pl fa un ku ik) Q) : ∀ k, k ≤ n → X xT mX7_left (xR (d + 4, 0, 0)) (0, 0) 150 [some (.ref 98), some (.int (nI t)), some (.int (nI s)), L3, some (.int (nI i)), some (.int (nI n)), L6, L7, L8, some (.int (bI (isF nw nT nL t it (24 * s + i) k))), some (.int (nI k))] [] (mh h (gbN nw nT nL k) tp ro rd ud as kp la sz it mv ty pl fa un ku ik) Q := by
  subst e8
  have hT := wf.2.2.1
  refine xloop n ?_ ?_
  · refine X.iload iX7_left_150 rfl ?_
    refine X.iload iX7_left_152 rfl ?_
    refine X.cmge iX7_left_154 (fun c154 => ?_) (fun c154 => ?_)
    · exact X.unset 10 rfl K
    · exact absurd (Int32.le_refl _) c154
  · intro k hk ih
    rw [show isF nw nT nL t it (24 * s + i) (k + 1) = (isF nw nT nL t it (24 * s + i) k && decide ((gbN nw nT nL (k + 1) (9 + 3 * t + 1)).toInt64 = it (24 * s + i + k))) from rfl, show gbN nw nT nL (k + 1) = gb (gbN nw nT nL k) nT nL (nI 0) from rfl] at ih
    refine X.iload iX7_left_150 rfl ?_
    refine X.iload iX7_left_152 rfl ?_
    refine X.cmge iX7_left_154 (fun c154 => ?_) (fun c154 => ?_)
    · exact absurd c154 (nI_ge hk (by omega))
    · refine X.aload iX7_left_157 rfl ?_
      refine X.pushi (v := nI 0) iX7_left_158 ?_
      refine X.callVv iX7_left_159 (g_goesBy (d := d + 1) (gbN_wf wf k)) (by first | rfl | repeat (first | assumption | exact xup_eq _ _ _ | rw [xup_ne _ _ (by first | decide | omega | assumption)])) rfl rfl (xfit _ _ _) (Nat.le_of_ble_eq_true rfl) ?_
      refine X.iload iX7_left_162 rfl ?_
      refine X.ifeqB iX7_left_164 (fun c164 => ?_) (fun c164 => ?_)
      · refine X.pushi (v := nI 0) iX7_left_197 ?_
        refine X.istore iX7_left_198 rfl rfl ?_
        refine X.iinc iX7_left_200 rfl rfl rfl ?_
        refine X.goto iX7_left_203 ?_
        rw [nI_1]
        first
        | (rw [c164, Bool.false_and] at ih; exact ih)
        | (rw [c164, Bool.true_and, decide_eq_true ((lg0 _ _).mp c190)] at ih; exact ih)
        | (rw [c164, Bool.true_and, decide_eq_false (fun q => c190 ((lg0 _ _).mpr q))] at ih; exact ih)
      · refine X.aload iX7_left_167 rfl ?_
        refine X.iload iX7_left_168 rfl ?_
        refine X.pushi (v := nI 1) iX7_left_169 ?_
        refine X.callVi iX7_left_170 (c_X7_ofTree (d := d + 3) (w := 1) mh_MO (by omega)) (by first | rfl | repeat (first | assumption | exact xup_eq _ _ _ | rw [xup_ne _ _ (by first | decide | omega | assumption)])) rfl rfl (xfit _ _ _) (Nat.le_of_ble_eq_true rfl) ?_
        refine X.i2l iX7_left_173 ?_
        refine X.aload iX7_left_174 rfl ?_
        refine X.getf iX7_left_175 (by first | rfl | repeat (first | assumption | exact xup_eq _ _ _ | rw [xup_ne _ _ (by first | decide | omega | assumption)])) rfl ?_
        refine X.pushi (v := nI 24) iX7_left_178 ?_
        refine X.iload iX7_left_180 rfl ?_
        refine X.imul iX7_left_181 ?_
        refine X.iload iX7_left_182 rfl ?_
        refine X.iadd iX7_left_184 ?_
        refine X.iload iX7_left_185 rfl ?_
        refine X.iadd iX7_left_187 ?_
        refine X.laldE iX7_left_188 (by first | rfl | repeat (first | assumption | exact xup_eq _ _ _ | rw [xup_ne _ _ (by first | decide | omega | assumption)])) (ixS3 s i k) (by omega) (by decide) ?_
        refine X.lcmp iX7_left_189 ?_
        refine X.ifne iX7_left_190 (fun c190 => ?_) (fun c190 => ?_)
        · refine X.pushi (v := nI 0) iX7_left_197 ?_
          refine X.istore iX7_left_198 rfl rfl ?_
          refine X.iinc iX7_left_200 rfl rfl rfl ?_
          refine X.goto iX7_left_203 ?_
          rw [nI_1]
          first
          | (rw [c164, Bool.false_and] at ih; exact ih)
          | (rw [c164, Bool.true_and, decide_eq_true ((lg0 _ _).mp c190)] at ih; exact ih)
          | (rw [c164, Bool.true_and, decide_eq_false (fun q => c190 ((lg0 _ _).mpr q))] at ih; exact ih)
        · refine X.pushi (v := nI 1) iX7_left_193 ?_
          refine X.goto iX7_left_194 ?_
          refine X.istore iX7_left_198 rfl rfl ?_
          refine X.iinc iX7_left_200 rfl rfl rfl ?_
          refine X.goto iX7_left_203 ?_
          rw [nI_1]
          first
          | (rw [c164, Bool.false_and] at ih; exact ih)
          | (rw [c164, Bool.true_and, decide_eq_true ((lg0 _ _).mp c190)] at ih; exact ih)
          | (rw [c164, Bool.true_and, decide_eq_false (fun q => c190 ((lg0 _ _).mpr q))] at ih; exact ih)
def leftS (nw : Nat → Int32) (nT nL t : Nat) (it : Nat → Int64) (a n : Nat) : Nat → Int32
  | 0 => nI 0
  | l + 1 => leftS nw nT nL t it a n l ||| (if isF (lfL nw t l nL) nT nL t it a n = true then (if l = nL then nI 32 else bitI l) else nI 0)
theorem c_X7_left_bad {d : Nat} {t s l i n : Int32} {h : XH} {nw tp ro rd ud as kp la sz : Nat → Int32} {it mv : Nat → Int64} {ty pl : Int32} {fa : Bool} {un ku : Int32} {ik : Bool} (hb : isT nw t = false ∨ inI s (nI 0) (nI 3) = false ∨ inI l (nI 0) (nI 3) = false ∨ inI n (nI 1) (nI 8) = false) : MetI mX7_left (d + 2, 0, 0) [.ref 98, .int t, .int s, .int l, .int i, .int n] (mh h nw tp ro rd ud as kp la sz it mv ty pl fa un ku ik) (-1) := by
  refine MetX.of (by decide) rfl (Nat.le_of_ble_eq_true rfl) ?_
  refine X.aload iX7_left_0 rfl ?_
  refine X.iload iX7_left_1 rfl ?_
  refine X.callVi iX7_left_2 (c_X7_isTree (d := d) mh_MO) (by first | rfl | repeat (first | assumption | exact xup_eq _ _ _ | rw [xup_ne _ _ (by first | decide | omega | assumption)])) rfl rfl (xfit _ _ _) (Nat.le_of_ble_eq_true rfl) ?_
  refine X.ifeqB iX7_left_5 (fun c5 => ?_) (fun c5 => ?_)
  · refine X.pushi iX7_left_35 ?_
    exact X.iret iX7_left_36 ⟨rfl, rfl⟩
  · refine X.iload iX7_left_8 rfl ?_
    refine X.callSi iX7_left_9 (c_X7_isSheet (d := d)) rfl rfl (xfit _ _ _) (Nat.le_of_ble_eq_true rfl) ?_
    refine X.ifeqB iX7_left_12 (fun c12 => ?_) (fun c12 => ?_)
    · refine X.pushi iX7_left_35 ?_
      exact X.iret iX7_left_36 ⟨rfl, rfl⟩
    · refine X.iload iX7_left_15 rfl ?_
      refine X.callSi iX7_left_16 (c_X7_isLane (d := d)) rfl rfl (xfit _ _ _) (Nat.le_of_ble_eq_true rfl) ?_
      refine X.ifeqB iX7_left_19 (fun c19 => ?_) (fun c19 => ?_)
      · refine X.pushi iX7_left_35 ?_
        exact X.iret iX7_left_36 ⟨rfl, rfl⟩
      · refine X.iload iX7_left_22 rfl ?_
        refine X.i2l iX7_left_24 ?_
        refine X.pushl iX7_left_25 ?_
        refine X.pushl iX7_left_26 ?_
        refine X.callSi iX7_left_29 (c7_inI (d := d + 1) (a := nI 1) (b := nI 8) (by decide) (by decide)) rfl rfl (xfit _ _ _) (Nat.le_of_ble_eq_true rfl) ?_
        refine X.ifneB iX7_left_32 (fun c32 => ?_) (fun c32 => ?_)
        · exact absurd hb (by intro q; rcases q with q | q | q | q; exact absurd (c5.symm.trans q) (by decide); exact absurd (c12.symm.trans q) (by decide); exact absurd (c19.symm.trans q) (by decide); exact absurd (c32.symm.trans q) (by decide))
        · refine X.pushi iX7_left_35 ?_
          exact X.iret iX7_left_36 ⟨rfl, rfl⟩
set_option maxHeartbeats 1000000 in
theorem left_end {d nL k : Nat} {L1 L2 L3 L4 L5 L6 : Option Value} {x7 : Int32} {b : Bool} {f g : Nat → Int32} {Q : Option Value → XH → Prop} {h : XH} {nw tp ro rd ud as kp la sz : Nat → Int32} {it mv : Nat → Int64} {ty pl : Int32} {fa : Bool} {un ku : Int32} {ik : Bool} (w1 : f 1 = nI nL) (far : Far g nw) (hk : k ≤ 4 ∧ nL ≤ 4 ∧ g 1 = nI nL) (ih : X xT mX7_left (xR (d + 4, 0, 0)) (0, 0) 67 [some (.ref 98), L1, L2, L3, L4, L5, L6, some (.int (x7 ||| (if b = true then (if k = nL then nI 32 else bitI k) else nI 0))), some (.int (nI (k + 1))), none, none] [] (mh h nw tp ro rd ud (cp nw as 43) kp la sz it mv ty pl fa un ku ik) Q) (hL6 : ∃ x : Int32, L6 = some (.int x)) : X xT mX7_left (xR (d + 4, 0, 0)) (0, 0) 206 [some (.ref 98), L1, L2, L3, L4, L5, L6, some (.int x7), some (.int (nI k)), some (.int (bI b)), none] [] (mh h g tp ro rd ud (cp nw as 43) kp la sz it mv ty pl fa un ku ik) Q := by
  obtain ⟨x6, rfl⟩ := hL6
  obtain ⟨hk, hL, g1⟩ := hk
  refine X.iload iX7_left_206 rfl ?_
  refine X.iload iX7_left_208 rfl ?_
  refine X.ifeqB iX7_left_210 (fun c210 => ?_) (fun c210 => ?_)
  · refine X.pushi (v := nI 0) iX7_left_236 ?_
    refine X.ior iX7_left_237 ?_
    refine X.istore iX7_left_238 rfl rfl ?_
    refine X.aload iX7_left_240 rfl ?_
    refine X.callVv iX7_left_241 (g_backs (d := d + 3)) (by first | rfl | repeat (first | assumption | exact xup_eq _ _ _ | rw [xup_ne _ _ (by first | decide | omega | assumption)])) rfl rfl (xfit _ _ _) (Nat.le_of_ble_eq_true rfl) ?_
    rw [cp_back far]
    refine X.iinc iX7_left_244 rfl rfl rfl ?_
    refine X.goto iX7_left_247 ?_
    rw [nI_1]
    first
    | (rw [c210] at ih; exact X.unset 9 rfl ih)
    | skip
    all_goals first
    | (rw [if_pos c210, if_pos ((nI_eq (show k < 2 ^ 31 by omega) (show nL < 2 ^ 31 by omega)).mp c221)] at ih; exact X.unset 9 rfl ih)
    | (rw [if_pos c210, if_neg (fun q => c221 (congrArg nI q))] at ih; exact X.unset 9 rfl ih)
  · refine X.iload iX7_left_213 rfl ?_
    refine X.aload iX7_left_215 rfl ?_
    refine X.getf iX7_left_216 (by first | rfl | repeat (first | assumption | exact xup_eq _ _ _ | rw [xup_ne _ _ (by first | decide | omega | assumption)])) rfl ?_
    refine X.pushi (v := nI 1) iX7_left_219 ?_
    refine X.ialdN iX7_left_220 (by first | rfl | repeat (first | assumption | exact xup_eq _ _ _ | rw [xup_ne _ _ (by first | decide | omega | assumption)])) (by omega) (by decide) ?_
    rw [g1]
    refine X.cmne iX7_left_221 (fun c221 => ?_) (fun c221 => ?_)
    · refine X.pushi (v := nI 1) iX7_left_229 ?_
      refine X.iload iX7_left_230 rfl ?_
      refine X.ishl iX7_left_232 ?_
      refine X.goto iX7_left_233 ?_
      refine X.ior iX7_left_237 ?_
      refine X.istore iX7_left_238 rfl rfl ?_
      refine X.aload iX7_left_240 rfl ?_
      refine X.callVv iX7_left_241 (g_backs (d := d + 3)) (by first | rfl | repeat (first | assumption | exact xup_eq _ _ _ | rw [xup_ne _ _ (by first | decide | omega | assumption)])) rfl rfl (xfit _ _ _) (Nat.le_of_ble_eq_true rfl) ?_
      rw [cp_back far]
      refine X.iinc iX7_left_244 rfl rfl rfl ?_
      refine X.goto iX7_left_247 ?_
      rw [nI_1]
      first
      | (rw [c210] at ih; exact X.unset 9 rfl ih)
      | skip
      all_goals first
      | (rw [if_pos c210, if_pos ((nI_eq (show k < 2 ^ 31 by omega) (show nL < 2 ^ 31 by omega)).mp c221)] at ih; exact X.unset 9 rfl ih)
      | (rw [if_pos c210, if_neg (fun q => c221 (congrArg nI q))] at ih; exact X.unset 9 rfl ih)
    · refine X.pushi (v := nI 32) iX7_left_224 ?_
      refine X.goto iX7_left_226 ?_
      refine X.ior iX7_left_237 ?_
      refine X.istore iX7_left_238 rfl rfl ?_
      refine X.aload iX7_left_240 rfl ?_
      refine X.callVv iX7_left_241 (g_backs (d := d + 3)) (by first | rfl | repeat (first | assumption | exact xup_eq _ _ _ | rw [xup_ne _ _ (by first | decide | omega | assumption)])) rfl rfl (xfit _ _ _) (Nat.le_of_ble_eq_true rfl) ?_
      rw [cp_back far]
      refine X.iinc iX7_left_244 rfl rfl rfl ?_
      refine X.goto iX7_left_247 ?_
      rw [nI_1]
      first
      | (rw [c210] at ih; exact X.unset 9 rfl ih)
      | skip
      all_goals first
      | (rw [if_pos c210, if_pos ((nI_eq (show k < 2 ^ 31 by omega) (show nL < 2 ^ 31 by omega)).mp c221)] at ih; exact X.unset 9 rfl ih)
      | (rw [if_pos c210, if_neg (fun q => c221 (congrArg nI q))] at ih; exact X.unset 9 rfl ih)
set_option maxHeartbeats 1000000 in
theorem left_loop {d nT nL t s i n : Nat} {l x6 : Int32} {h : XH} {nw tp ro rd ud as kp la sz : Nat → Int32} {it mv : Nat → Int64} {ty pl : Int32} {fa : Bool} {un ku : Int32} {ik : Bool} (wf : WF nw nT nL) (ht : t < nT) (hs : s < 4) (hi : i + n ≤ 24) : ∀ k, k ≤ nL + 1 → X xT mX7_left (xR (d + 4, 0, 0)) (0, 0) 67 [some (.ref 98), some (.int (nI t)), some (.int (nI s)), some (.int l), some (.int (nI i)), some (.int (nI n)), some (.int x6), some (.int (leftS nw nT nL t it (24 * s + i) n k)), some (.int (nI k)), none, none] [] (mh h nw tp ro rd ud (cp nw as 43) kp la sz it mv ty pl fa un ku ik) (fun v h' => v = some (.int (leftS nw nT nL t it (24 * s + i) n (nL + 1))) ∧ h' = (mh h nw tp ro rd ud (cp nw as 43) kp la sz it mv ty pl fa un ku ik)) := by
  have hT := wf.2.2.1
  have hL := wf.2.2.2.1
  have w1 : nw 1 = nI nL := wf.2.1
  refine xloop (nL + 1) ?_ ?_
  · refine X.iload iX7_left_67 rfl ?_
    refine X.aload iX7_left_69 rfl ?_
    refine X.getf iX7_left_70 (by first | rfl | repeat (first | assumption | exact xup_eq _ _ _ | rw [xup_ne _ _ (by first | decide | omega | assumption)])) rfl ?_
    refine X.pushi (v := nI 1) iX7_left_73 ?_
    refine X.ialdN iX7_left_74 (by first | rfl | repeat (first | assumption | exact xup_eq _ _ _ | rw [xup_ne _ _ (by first | decide | omega | assumption)])) (by omega) (by decide) ?_
    refine X.cmgt iX7_left_75 (fun c75 => ?_) (fun c75 => ?_)
    · refine X.iload iX7_left_250 rfl ?_
      exact X.iret iX7_left_252 ⟨rfl, rfl⟩
    · exact absurd (by rw [w1]; exact nI_lt (by omega) (by omega)) c75
  · intro k hk ih
    have wk := lfL_wf (l := k) ht wf nL (Nat.le_refl _)
    have far := (gbN_far wk n).trans (lfL_far (t := t) (l := k) nL hL)
    rw [show leftS nw nT nL t it (24 * s + i) n (k + 1) = leftS nw nT nL t it (24 * s + i) n k ||| (if isF (lfL nw t k nL) nT nL t it (24 * s + i) n = true then (if k = nL then nI 32 else bitI k) else nI 0) from rfl] at ih
    refine X.iload iX7_left_67 rfl ?_
    refine X.aload iX7_left_69 rfl ?_
    refine X.getf iX7_left_70 (by first | rfl | repeat (first | assumption | exact xup_eq _ _ _ | rw [xup_ne _ _ (by first | decide | omega | assumption)])) rfl ?_
    refine X.pushi (v := nI 1) iX7_left_73 ?_
    refine X.ialdN iX7_left_74 (by first | rfl | repeat (first | assumption | exact xup_eq _ _ _ | rw [xup_ne _ _ (by first | decide | omega | assumption)])) (by omega) (by decide) ?_
    refine X.cmgt iX7_left_75 (fun c75 => ?_) (fun c75 => ?_)
    · exact absurd (show nI nL < nI k by rw [← w1]; exact c75) (nI_nlt (by omega) (by omega))
    · refine X.pushi (v := nI 0) iX7_left_78 ?_
      refine X.istore iX7_left_79 rfl rfl ?_
      refine left_set wf ht (show k ≤ nL by omega) ?_ 0 (Nat.zero_le _)
      refine X.pushi (v := bI true) iX7_left_144 ?_
      refine X.istore iX7_left_145 rfl rfl ?_
      refine X.pushi (v := nI 0) iX7_left_147 ?_
      refine X.istore iX7_left_148 rfl rfl ?_
      refine left_days wk ht hs hi rfl ?_ 0 (Nat.zero_le _)
      exact left_end wk.2.1 far ⟨by omega, by omega, (gbN_wf wk n).2.1⟩ ih ⟨_, rfl⟩
theorem c_X7_left {d nT nL t n s z : Nat} {l i : Int32} {h : XH} {nw tp ro rd ud as kp la sz : Nat → Int32} {it mv : Nat → Int64} {ty pl : Int32} {fa : Bool} {un ku : Int32} {ik : Bool} (wf : WF nw nT nL) (ht : t < nT) (hn1 : 1 ≤ n) (hn : n ≤ 8) (hs : s < 4) (hl : inI l (nI 0) (nI 3) = true) (hz : sz s = nI z) (hz2 : z ≤ 24) : MetH mX7_left (d + 4, 0, 0) [.ref 98, .int (nI t), .int (nI s), .int l, .int i, .int (nI n)] (mh h nw tp ro rd ud as kp la sz it mv ty pl fa un ku ik) (if 0 ≤ whyF la sz s l i (nI n) then leftS nw nT nL t it (24 * s + i.toNatClampNeg) n (nL + 1) else whyF la sz s l i (nI n)) (if 0 ≤ whyF la sz s l i (nI n) then (mh h nw tp ro rd ud (cp nw as 43) kp la sz it mv ty pl fa un ku ik) else (mh h nw tp ro rd ud as kp la sz it mv ty pl fa un ku ik)) := by
  have hT := wf.2.2.1
  refine MetX.of (by decide) rfl (Nat.le_of_ble_eq_true rfl) ?_
  refine X.aload iX7_left_0 rfl ?_
  refine X.iload iX7_left_1 rfl ?_
  refine X.callVi iX7_left_2 (c_X7_isTree (d := d + 2) mh_MO) (by first | rfl | repeat (first | assumption | exact xup_eq _ _ _ | rw [xup_ne _ _ (by first | decide | omega | assumption)])) rfl rfl (xfit _ _ _) (Nat.le_of_ble_eq_true rfl) ?_
  refine X.ifeqB iX7_left_5 (fun c5 => ?_) (fun c5 => ?_)
  · exact absurd (c5.symm.trans (isT_of wf ht)) (by decide)
  · refine X.iload iX7_left_8 rfl ?_
    refine X.callSi iX7_left_9 (c_X7_isSheet (d := d + 2)) rfl rfl (xfit _ _ _) (Nat.le_of_ble_eq_true rfl) ?_
    refine X.ifeqB iX7_left_12 (fun c12 => ?_) (fun c12 => ?_)
    · exact absurd (c12.symm.trans (inI_of (Nat.zero_le _) (show s ≤ 3 by omega) (by decide))) (by decide)
    · refine X.iload iX7_left_15 rfl ?_
      refine X.callSi iX7_left_16 (c_X7_isLane (d := d + 2)) rfl rfl (xfit _ _ _) (Nat.le_of_ble_eq_true rfl) ?_
      refine X.ifeqB iX7_left_19 (fun c19 => ?_) (fun c19 => ?_)
      · exact absurd (c19.symm.trans hl) (by decide)
      · refine X.iload iX7_left_22 rfl ?_
        refine X.i2l iX7_left_24 ?_
        refine X.pushl iX7_left_25 ?_
        refine X.pushl iX7_left_26 ?_
        refine X.callSi iX7_left_29 (c7_inI (d := d + 3) (a := nI 1) (b := nI 8) (by decide) (by decide)) rfl rfl (xfit _ _ _) (Nat.le_of_ble_eq_true rfl) ?_
        refine X.ifneB iX7_left_32 (fun c32 => ?_) (fun c32 => ?_)
        · refine X.aload iX7_left_37 rfl ?_
          refine X.iload iX7_left_38 rfl ?_
          refine X.iload iX7_left_39 rfl ?_
          refine X.iload iX7_left_40 rfl ?_
          refine X.iload iX7_left_42 rfl ?_
          refine X.callVi iX7_left_44 (c_X7_why (d := d + 3) hs) (by first | rfl | repeat (first | assumption | exact xup_eq _ _ _ | rw [xup_ne _ _ (by first | decide | omega | assumption)])) rfl rfl (xfit _ _ _) (Nat.le_of_ble_eq_true rfl) ?_
          refine X.istore iX7_left_47 rfl rfl ?_
          refine X.iload iX7_left_49 rfl ?_
          refine X.ifge iX7_left_51 (fun c51 => ?_) (fun c51 => ?_)
          · rw [if_pos c51, if_pos c51]
            obtain ⟨-, -, i', m, rfl, hm, him, -⟩ := whyF_0 hz hz2 c51
            have hm1 : n = m := (nI_eq (by omega) (by omega)).mp hm
            rw [nI_clamp (by omega)]
            refine X.pushi (v := nI 0) iX7_left_57 ?_
            refine X.istore iX7_left_58 rfl rfl ?_
            refine X.aload iX7_left_60 rfl ?_
            refine X.callVv iX7_left_61 (g_asides (d := d + 3)) (by first | rfl | repeat (first | assumption | exact xup_eq _ _ _ | rw [xup_ne _ _ (by first | decide | omega | assumption)])) rfl rfl (xfit _ _ _) (Nat.le_of_ble_eq_true rfl) ?_
            refine X.pushi (v := nI 0) iX7_left_64 ?_
            refine X.istore iX7_left_65 rfl rfl ?_
            exact left_loop wf ht hs (by omega) 0 (Nat.zero_le _)
          · refine X.iload iX7_left_54 rfl ?_
            exact X.iret iX7_left_56 ⟨by rw [if_neg c51], by rw [if_neg c51]⟩
        · exact absurd (c32.symm.trans (inI_of hn1 hn (by decide))) (by decide)
