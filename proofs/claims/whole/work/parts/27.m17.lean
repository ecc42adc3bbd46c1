/-! the reference: AN ORCHARD in place of all -/
theorem g_treeComes {d nT : Nat} {hi fr ri : Int32} {h : XH} {nw tp ro rd ud as kp la sz : Nat → Int32} {it mv : Nat → Int64} {ty pl : Int32} {fa : Bool} {un ku : Int32} {ik : Bool} (h0 : nw 0 = nI nT) (hT : nT < 6) : MetV mX7_treeComes (d, 0, 0) [.ref 98, .int hi, .int fr, .int ri] (mh h nw tp ro rd ud as kp la sz it mv ty pl fa un ku ik) (mh h (tcF nw nT hi fr ri) tp ro rd ud as kp la sz it mv ty pl fa (nI 0) ku ik) := by
  have := c_X7_treeComes (d := d) (hi := hi) (fr := fr) (ri := ri) (h := (mh h nw tp ro rd ud as kp la sz it mv ty pl fa un ku ik)) rfl rfl h0 hT
  rw [mh99] at this
  have e := mh98_8 h (tcF nw nT hi fr ri) tp ro rd ud as kp la sz it mv ty pl fa un ku ik (nI 0)
  rw [← e]
  exact this
theorem g_ladderComes {d nL : Nat} {ki le pr tr : Int32} {h : XH} {nw tp ro rd ud as kp la sz : Nat → Int32} {it mv : Nat → Int64} {ty pl : Int32} {fa : Bool} {un ku : Int32} {ik : Bool} (h0 : nw 1 = nI nL) (hL : nL < 4) : MetV mX7_ladderComes (d, 0, 0) [.ref 98, .int ki, .int le, .int pr, .int tr] (mh h nw tp ro rd ud as kp la sz it mv ty pl fa un ku ik) (mh h (lcF nw nL ki le pr tr) tp ro rd ud as kp la sz it mv ty pl fa (nI 0) ku ik) := by
  have := c_X7_ladderComes (d := d) (ki := ki) (le := le) (pr := pr) (tr := tr) (h := (mh h nw tp ro rd ud as kp la sz it mv ty pl fa un ku ik)) rfl rfl h0 hL
  rw [mh99] at this
  have e := mh98_8 h (lcF nw nL ki le pr tr) tp ro rd ud as kp la sz it mv ty pl fa un ku ik (nI 0)
  rw [← e]
  exact this
def orA (tp : Nat → Int32) (n : Nat) (ro : Nat → Int32) : Nat × Nat × Bool × (Nat → Int32) := rtL tp n 7 0 0 ro
def orB (tp : Nat → Int32) (n : Nat) (ro rd : Nat → Int32) : Nat × Nat × Bool × (Nat → Int32) :=
  if (orA tp n ro).2.2.1 = true then (0, (orA tp n ro).2.1, true, rd) else
  if ltr tp n (sk tp n (orA tp n ro).2.1) = nI 59 then rlL tp n (orA tp n ro).1 5 0 (sk tp n (orA tp n ro).2.1 + 1) rd else (0, sk tp n (orA tp n ro).2.1, false, rd)
def orC (tp : Nat → Int32) (n : Nat) (ro rd : Nat → Int32) : Nat × Bool :=
  if (orB tp n ro rd).2.2.1 = true then ((orB tp n ro rd).2.1, true) else (sk tp n (orB tp n ro rd).2.1, decide (¬ ltr tp n (sk tp n (orB tp n ro rd).2.1) = 0))
theorem orA_le (tp : Nat → Int32) (n : Nat) (ro : Nat → Int32) : (orA tp n ro).2.1 ≤ n := rtL_le 7 0 0 ro (Nat.zero_le _)
theorem orB_le (tp : Nat → Int32) (n : Nat) (ro rd : Nat → Int32) : (orB tp n ro rd).2.1 ≤ n := by
  unfold orB
  split
  · exact orA_le tp n ro
  · split
    · rename_i q
      exact rlL_le 5 0 _ rd (ltr_end (by decide) q)
    · exact (sk_le (orA_le tp n ro)).2
/-- the trees, then the ladders, come -/
def orT (nw ro : Nat → Int32) : Nat → (Nat → Int32)
  | 0 => cp (fun _ => nI 0) nw 6
  | k + 1 => tcF (orT nw ro k) k (ro (3 * k)) (ro (3 * k + 1)) (ro (3 * k + 2))
def orL (nw ro rd : Nat → Int32) (nT : Nat) : Nat → (Nat → Int32)
  | 0 => orT nw ro nT
  | k + 1 => lcF (orL nw ro rd nT k) k (rd (4 * k)) (rd (4 * k + 1)) (rd (4 * k + 2)) (rd (4 * k + 3))
theorem orT_0 (nw ro : Nat → Int32) : ∀ k, orT nw ro k 0 = nI k
  | 0 => rfl
  | k + 1 => by
    rw [orT, tcF]
    exact upd_eq _ _ _
theorem orT_1 (nw ro : Nat → Int32) : ∀ k, orT nw ro k 1 = nI 0
  | 0 => rfl
  | k + 1 => by
    rw [orT, tcF, upd_ne _ _ (by omega), upd_ne _ _ (by omega), upd_ne _ _ (by omega), upd_ne _ _ (by omega)]
    exact orT_1 nw ro k
theorem orL_1 (nw ro rd : Nat → Int32) (nT : Nat) : ∀ k, orL nw ro rd nT k 1 = nI k
  | 0 => orT_1 nw ro nT
  | k + 1 => by
    rw [orL, lcF]
    exact upd_eq _ _ _
theorem or_fill {d nT nL : Nat} {h : XH} {nw tp ro rd ud as kp la sz : Nat → Int32} {it mv : Nat → Int64} {ty pl : Int32} {fa : Bool} {un ku : Int32} {ik : Bool} (h1 : 1 ≤ nT) (hT : nT ≤ 6) (hL : nL ≤ 4) : X xT mX7_orchard (xR (d + 3, 0, 0)) (0, 0) 92 [some (.ref 98), some (.int (nI nT)), some (.int (nI nL)), none] [] (mh h nw tp ro rd ud as kp la sz it mv ty pl fa un ku ik) (fun v h' => v = some (.int (nI nT)) ∧ h' = (mh h (orL nw ro rd nT nL) tp ro rd ud as kp la sz it mv ty pl fa (nI 0) ku ik)) := by
  have P3 : ∀ k, k ≤ nL → X xT mX7_orchard (xR (d + 3, 0, 0)) (0, 0) 160 [some (.ref 98), some (.int (nI nT)), some (.int (nI nL)), some (.int (nI k))] [] (mh h (orL nw ro rd nT k) tp ro rd ud as kp la sz it mv ty pl fa (nI 0) ku ik) (fun v h' => v = some (.int (nI nT)) ∧ h' = (mh h (orL nw ro rd nT nL) tp ro rd ud as kp la sz it mv ty pl fa (nI 0) ku ik)) := by
    refine xloop nL ?_ ?_
    · refine X.iload iX7_orchard_160 rfl ?_
      refine X.iload iX7_orchard_161 rfl ?_
      refine X.cmge iX7_orchard_162 (fun c162 => ?_) (fun c162 => ?_)
      · refine X.iload iX7_orchard_213 rfl ?_
        exact X.iret iX7_orchard_214 ⟨rfl, rfl⟩
      · exact absurd (Int32.le_refl _) c162
    · intro k hk ih
      refine X.iload iX7_orchard_160 rfl ?_
      refine X.iload iX7_orchard_161 rfl ?_
      refine X.cmge iX7_orchard_162 (fun c162 => ?_) (fun c162 => ?_)
      · exact absurd c162 (nI_ge hk (by omega))
      · refine X.aload iX7_orchard_165 rfl ?_
        refine X.aload iX7_orchard_166 rfl ?_
        refine X.getf iX7_orchard_167 (by first | rfl | repeat (first | assumption | exact xup_eq _ _ _ | rw [xup_ne _ _ (by first | decide | omega | assumption)])) rfl ?_
        refine X.pushi (v := nI 4) iX7_orchard_170 ?_
        refine X.iload iX7_orchard_171 rfl ?_
        refine X.imul iX7_orchard_172 ?_
        refine X.ialdE iX7_orchard_173 (by first | rfl | repeat (first | assumption | exact xup_eq _ _ _ | rw [xup_ne _ _ (by first | decide | omega | assumption)])) (pk_mul 4 k) (by omega) (by decide) ?_
        refine X.aload iX7_orchard_174 rfl ?_
        refine X.getf iX7_orchard_175 (by first | rfl | repeat (first | assumption | exact xup_eq _ _ _ | rw [xup_ne _ _ (by first | decide | omega | assumption)])) rfl ?_
        refine X.pushi (v := nI 4) iX7_orchard_178 ?_
        refine X.iload iX7_orchard_179 rfl ?_
        refine X.imul iX7_orchard_180 ?_
        refine X.pushi (v := nI 1) iX7_orchard_181 ?_
        refine X.iadd iX7_orchard_182 ?_
        refine X.ialdE iX7_orchard_183 (by first | rfl | repeat (first | assumption | exact xup_eq _ _ _ | rw [xup_ne _ _ (by first | decide | omega | assumption)])) (ix41 k 1) (by omega) (by decide) ?_
        refine X.aload iX7_orchard_184 rfl ?_
        refine X.getf iX7_orchard_185 (by first | rfl | repeat (first | assumption | exact xup_eq _ _ _ | rw [xup_ne _ _ (by first | decide | omega | assumption)])) rfl ?_
        refine X.pushi (v := nI 4) iX7_orchard_188 ?_
        refine X.iload iX7_orchard_189 rfl ?_
        refine X.imul iX7_orchard_190 ?_
        refine X.pushi (v := nI 2) iX7_orchard_191 ?_
        refine X.iadd iX7_orchard_192 ?_
        refine X.ialdE iX7_orchard_193 (by first | rfl | repeat (first | assumption | exact xup_eq _ _ _ | rw [xup_ne _ _ (by first | decide | omega | assumption)])) (ix41 k 2) (by omega) (by decide) ?_
        refine X.aload iX7_orchard_194 rfl ?_
        refine X.getf iX7_orchard_195 (by first | rfl | repeat (first | assumption | exact xup_eq _ _ _ | rw [xup_ne _ _ (by first | decide | omega | assumption)])) rfl ?_
        refine X.pushi (v := nI 4) iX7_orchard_198 ?_
        refine X.iload iX7_orchard_199 rfl ?_
        refine X.imul iX7_orchard_200 ?_
        refine X.pushi (v := nI 3) iX7_orchard_201 ?_
        refine X.iadd iX7_orchard_202 ?_
        refine X.ialdE iX7_orchard_203 (by first | rfl | repeat (first | assumption | exact xup_eq _ _ _ | rw [xup_ne _ _ (by first | decide | omega | assumption)])) (ix41 k 3) (by omega) (by decide) ?_
        refine X.callVv iX7_orchard_204 (g_ladderComes (d := d + 2) (orL_1 nw ro rd nT k) (by omega)) (by first | rfl | repeat (first | assumption | exact xup_eq _ _ _ | rw [xup_ne _ _ (by first | decide | omega | assumption)])) rfl rfl (xfit _ _ _) (Nat.le_of_ble_eq_true rfl) ?_
        refine X.iinc iX7_orchard_207 rfl rfl rfl ?_
        refine X.goto iX7_orchard_210 ?_
        rw [nI_1]
        exact ih
  have P2 : ∀ k, k ≤ nT → X xT mX7_orchard (xR (d + 3, 0, 0)) (0, 0) 115 [some (.ref 98), some (.int (nI nT)), some (.int (nI nL)), some (.int (nI k))] [] (mh h (orT nw ro k) tp ro rd ud as kp la sz it mv ty pl fa (if k = 0 then un else nI 0) ku ik) (fun v h' => v = some (.int (nI nT)) ∧ h' = (mh h (orL nw ro rd nT nL) tp ro rd ud as kp la sz it mv ty pl fa (nI 0) ku ik)) := by
    refine xloop nT ?_ ?_
    · rw [if_neg (by omega)]
      refine X.iload iX7_orchard_115 rfl ?_
      refine X.iload iX7_orchard_116 rfl ?_
      refine X.cmge iX7_orchard_117 (fun c117 => ?_) (fun c117 => ?_)
      · refine X.pushi (v := nI 0) iX7_orchard_158 ?_
        refine X.istore iX7_orchard_159 rfl rfl ?_
        exact P3 0 (Nat.zero_le _)
      · exact absurd (Int32.le_refl _) c117
    · intro k hk ih
      rw [if_neg (by omega)] at ih
      refine X.iload iX7_orchard_115 rfl ?_
      refine X.iload iX7_orchard_116 rfl ?_
      refine X.cmge iX7_orchard_117 (fun c117 => ?_) (fun c117 => ?_)
      · exact absurd c117 (nI_ge hk (by omega))
      · refine X.aload iX7_orchard_120 rfl ?_
        refine X.aload iX7_orchard_121 rfl ?_
        refine X.getf iX7_orchard_122 (by first | rfl | repeat (first | assumption | exact xup_eq _ _ _ | rw [xup_ne _ _ (by first | decide | omega | assumption)])) rfl ?_
        refine X.pushi (v := nI 3) iX7_orchard_125 ?_
        refine X.iload iX7_orchard_126 rfl ?_
        refine X.imul iX7_orchard_127 ?_
        refine X.ialdE iX7_orchard_128 (by first | rfl | repeat (first | assumption | exact xup_eq _ _ _ | rw [xup_ne _ _ (by first | decide | omega | assumption)])) (pk_mul 3 k) (by omega) (by decide) ?_
        refine X.aload iX7_orchard_129 rfl ?_
        refine X.getf iX7_orchard_130 (by first | rfl | repeat (first | assumption | exact xup_eq _ _ _ | rw [xup_ne _ _ (by first | decide | omega | assumption)])) rfl ?_
        refine X.pushi (v := nI 3) iX7_orchard_133 ?_
        refine X.iload iX7_orchard_134 rfl ?_
        refine X.imul iX7_orchard_135 ?_
        refine X.pushi (v := nI 1) iX7_orchard_136 ?_
        refine X.iadd iX7_orchard_137 ?_
        refine X.ialdE iX7_orchard_138 (by first | rfl | repeat (first | assumption | exact xup_eq _ _ _ | rw [xup_ne _ _ (by first | decide | omega | assumption)])) (ix31 k 1) (by omega) (by decide) ?_
        refine X.aload iX7_orchard_139 rfl ?_
        refine X.getf iX7_orchard_140 (by first | rfl | repeat (first | assumption | exact xup_eq _ _ _ | rw [xup_ne _ _ (by first | decide | omega | assumption)])) rfl ?_
        refine X.pushi (v := nI 3) iX7_orchard_143 ?_
        refine X.iload iX7_orchard_144 rfl ?_
        refine X.imul iX7_orchard_145 ?_
        refine X.pushi (v := nI 2) iX7_orchard_146 ?_
        refine X.iadd iX7_orchard_147 ?_
        refine X.ialdE iX7_orchard_148 (by first | rfl | repeat (first | assumption | exact xup_eq _ _ _ | rw [xup_ne _ _ (by first | decide | omega | assumption)])) (ix31 k 2) (by omega) (by decide) ?_
        refine X.callVv iX7_orchard_149 (g_treeComes (d := d + 2) (orT_0 nw ro k) (by omega)) (by first | rfl | repeat (first | assumption | exact xup_eq _ _ _ | rw [xup_ne _ _ (by first | decide | omega | assumption)])) rfl rfl (xfit _ _ _) (Nat.le_of_ble_eq_true rfl) ?_
        refine X.iinc iX7_orchard_152 rfl rfl rfl ?_
        refine X.goto iX7_orchard_155 ?_
        rw [nI_1]
        exact ih
  have P1 : ∀ k, k ≤ 6 → X xT mX7_orchard (xR (d + 3, 0, 0)) (0, 0) 94 [some (.ref 98), some (.int (nI nT)), some (.int (nI nL)), some (.int (nI k))] [] (mh h (cp (fun _ => nI 0) nw k) tp ro rd ud as kp la sz it mv ty pl fa un ku ik) (fun v h' => v = some (.int (nI nT)) ∧ h' = (mh h (orL nw ro rd nT nL) tp ro rd ud as kp la sz it mv ty pl fa (nI 0) ku ik)) := by
    refine xloop 6 ?_ ?_
    · refine X.iload iX7_orchard_94 rfl ?_
      refine X.pushi (v := nI 6) iX7_orchard_95 ?_
      refine X.cmge iX7_orchard_97 (fun c97 => ?_) (fun c97 => ?_)
      · refine X.pushi (v := nI 0) iX7_orchard_113 ?_
        refine X.istore iX7_orchard_114 rfl rfl ?_
        exact P2 0 (Nat.zero_le _)
      · exact absurd (Int32.le_refl _) c97
    · intro k hk ih
      refine X.iload iX7_orchard_94 rfl ?_
      refine X.pushi (v := nI 6) iX7_orchard_95 ?_
      refine X.cmge iX7_orchard_97 (fun c97 => ?_) (fun c97 => ?_)
      · exact absurd c97 (nI_ge hk (by decide))
      · refine X.aload iX7_orchard_100 rfl ?_
        refine X.getf iX7_orchard_101 (by first | rfl | repeat (first | assumption | exact xup_eq _ _ _ | rw [xup_ne _ _ (by first | decide | omega | assumption)])) rfl ?_
        refine X.iload iX7_orchard_104 rfl ?_
        refine X.pushi (v := nI 0) iX7_orchard_105 ?_
        refine X.iastN iX7_orchard_106 (by first | rfl | repeat (first | assumption | exact xup_eq _ _ _ | rw [xup_ne _ _ (by first | decide | omega | assumption)])) (by omega) (by decide) ?_
        rw [mh99, cp_s (fun _ => nI 0)]
        refine X.iinc iX7_orchard_107 rfl rfl rfl ?_
        refine X.goto iX7_orchard_110 ?_
        rw [nI_1]
        exact ih
  refine X.pushi (v := nI 0) iX7_orchard_92 ?_
  refine X.istore iX7_orchard_93 rfl rfl ?_
  have p0 := P1 0 (Nat.zero_le _)
  rw [cp_0] at p0
  exact p0
theorem or_end {d n nT nL p : Nat} {f2 : Bool} {h : XH} {nw tp ro rd ud as kp la sz : Nat → Int32} {it mv : Nat → Int64} {ty pl : Int32} {fa : Bool} {un ku : Int32} {ik : Bool} (hn : n ≤ 90) (hp : p ≤ n) (ep : pl = nI p) (et : ty = nI n) (hok : fa = false → 1 ≤ nT ∧ nT ≤ 6 ∧ nL ≤ 4) : X xT mX7_orchard (xR (d + 3, 0, 0)) (0, 0) 49 [some (.ref 98), some (.int (nI nT)), some (.int (nI nL)), none] [] (mh h nw tp ro rd ud as kp la sz it mv ty pl fa un ku ik) (fun v h' => v = some (.int (if (if fa = true then true else decide (¬ ltr tp n (sk tp n p) = 0)) = true then -20 - nI (if fa = true then p else sk tp n p) else nI nT)) ∧ h' = (if (if fa = true then true else decide (¬ ltr tp n (sk tp n p) = 0)) = true then (mh h nw tp ro rd ud as kp la sz it mv (nI 0) (nI (if fa = true then p else sk tp n p)) true un ku ik) else (mh h (orL nw ro rd nT nL) tp ro rd ud as kp la sz it mv (nI 0) (nI (sk tp n p)) false (nI 0) ku ik))) := by
  subst ep
  subst et
  cases fa with
  | true =>
    rw [if_pos rfl, if_pos rfl, if_pos rfl, if_pos rfl]
    refine X.aload iX7_orchard_49 rfl ?_
    refine X.aload iX7_orchard_50 rfl ?_
    refine X.getf iX7_orchard_51 (by first | rfl | repeat (first | assumption | exact xup_eq _ _ _ | rw [xup_ne _ _ (by first | decide | omega | assumption)])) rfl ?_
    refine X.ifneB iX7_orchard_54 (fun c54 => ?_) (fun c54 => ?_)
    · refine X.pushi (v := bI true) iX7_orchard_64 ?_
      refine X.goto iX7_orchard_65 ?_
      refine X.putz iX7_orchard_69 (by first | rfl | repeat (first | assumption | exact xup_eq _ _ _ | rw [xup_ne _ _ (by first | decide | omega | assumption)])) (Nat.le_of_ble_eq_true rfl) ?_
      rw [mh98_4]
      refine X.aload iX7_orchard_72 rfl ?_
      refine X.pushi (v := nI 0) iX7_orchard_73 ?_
      refine X.puti iX7_orchard_74 (by first | rfl | repeat (first | assumption | exact xup_eq _ _ _ | rw [xup_ne _ _ (by first | decide | omega | assumption)])) (Nat.le_of_ble_eq_true rfl) ?_
      rw [mh98_2]
      refine X.aload iX7_orchard_77 rfl ?_
      refine X.getf iX7_orchard_78 (by first | rfl | repeat (first | assumption | exact xup_eq _ _ _ | rw [xup_ne _ _ (by first | decide | omega | assumption)])) rfl ?_
      refine X.ifeqB iX7_orchard_81 (fun c81 => ?_) (fun c81 => ?_)
      · exact absurd c81 (by decide)
      · refine X.pushi iX7_orchard_84 ?_
        refine X.aload iX7_orchard_86 rfl ?_
        refine X.getf iX7_orchard_87 (by first | rfl | repeat (first | assumption | exact xup_eq _ _ _ | rw [xup_ne _ _ (by first | decide | omega | assumption)])) rfl ?_
        refine X.isub iX7_orchard_90 ?_
        exact X.iret iX7_orchard_91 ⟨rfl, rfl⟩
    · exact absurd c54 (by decide)
  | false =>
    obtain ⟨h1, hT, hL⟩ := hok rfl
    rw [if_neg (show ¬ (false = true) from fun q => Bool.noConfusion q), if_neg (show ¬ (false = true) from fun q => Bool.noConfusion q)]
    by_cases hz : ltr tp n (sk tp n p) = 0
    · rw [decide_eq_false (fun q => q hz), if_neg (by decide), if_neg (by decide)]
      refine X.aload iX7_orchard_49 rfl ?_
      refine X.aload iX7_orchard_50 rfl ?_
      refine X.getf iX7_orchard_51 (by first | rfl | repeat (first | assumption | exact xup_eq _ _ _ | rw [xup_ne _ _ (by first | decide | omega | assumption)])) rfl ?_
      refine X.ifneB iX7_orchard_54 (fun c54 => ?_) (fun c54 => ?_)
      · exact absurd c54 (by decide)
      · refine X.aload iX7_orchard_57 rfl ?_
        refine X.callVi iX7_orchard_58 (c_X7_here (d := d + 2) hn hp rfl rfl) (by first | rfl | repeat (first | assumption | exact xup_eq _ _ _ | rw [xup_ne _ _ (by first | decide | omega | assumption)])) rfl rfl (xfit _ _ _) (Nat.le_of_ble_eq_true rfl) ?_
        refine X.ifeq iX7_orchard_61 (fun c61 => ?_) (fun c61 => ?_)
        · refine X.pushi (v := bI false) iX7_orchard_68 ?_
          refine X.putz iX7_orchard_69 (by first | rfl | repeat (first | assumption | exact xup_eq _ _ _ | rw [xup_ne _ _ (by first | decide | omega | assumption)])) (Nat.le_of_ble_eq_true rfl) ?_
          rw [mh98_4]
          refine X.aload iX7_orchard_72 rfl ?_
          refine X.pushi (v := nI 0) iX7_orchard_73 ?_
          refine X.puti iX7_orchard_74 (by first | rfl | repeat (first | assumption | exact xup_eq _ _ _ | rw [xup_ne _ _ (by first | decide | omega | assumption)])) (Nat.le_of_ble_eq_true rfl) ?_
          rw [mh98_2]
          refine X.aload iX7_orchard_77 rfl ?_
          refine X.getf iX7_orchard_78 (by first | rfl | repeat (first | assumption | exact xup_eq _ _ _ | rw [xup_ne _ _ (by first | decide | omega | assumption)])) rfl ?_
          refine X.ifeqB iX7_orchard_81 (fun c81 => ?_) (fun c81 => ?_)
          · exact or_fill h1 hT hL
          · exact absurd c81 (by decide)
        · exact absurd hz c61
    · rw [decide_eq_true hz, if_pos rfl, if_pos rfl]
      refine X.aload iX7_orchard_49 rfl ?_
      refine X.aload iX7_orchard_50 rfl ?_
      refine X.getf iX7_orchard_51 (by first | rfl | repeat (first | assumption | exact xup_eq _ _ _ | rw [xup_ne _ _ (by first | decide | omega | assumption)])) rfl ?_
      refine X.ifneB iX7_orchard_54 (fun c54 => ?_) (fun c54 => ?_)
      · exact absurd c54 (by decide)
      · refine X.aload iX7_orchard_57 rfl ?_
        refine X.callVi iX7_orchard_58 (c_X7_here (d := d + 2) hn hp rfl rfl) (by first | rfl | repeat (first | assumption | exact xup_eq _ _ _ | rw [xup_ne _ _ (by first | decide | omega | assumption)])) rfl rfl (xfit _ _ _) (Nat.le_of_ble_eq_true rfl) ?_
        refine X.ifeq iX7_orchard_61 (fun c61 => ?_) (fun c61 => ?_)
        · exact absurd c61 hz
        · refine X.pushi (v := bI true) iX7_orchard_64 ?_
          refine X.goto iX7_orchard_65 ?_
          refine X.putz iX7_orchard_69 (by first | rfl | repeat (first | assumption | exact xup_eq _ _ _ | rw [xup_ne _ _ (by first | decide | omega | assumption)])) (Nat.le_of_ble_eq_true rfl) ?_
          rw [mh98_4]
          refine X.aload iX7_orchard_72 rfl ?_
          refine X.pushi (v := nI 0) iX7_orchard_73 ?_
          refine X.puti iX7_orchard_74 (by first | rfl | repeat (first | assumption | exact xup_eq _ _ _ | rw [xup_ne _ _ (by first | decide | omega | assumption)])) (Nat.le_of_ble_eq_true rfl) ?_
          rw [mh98_2]
          refine X.aload iX7_orchard_77 rfl ?_
          refine X.getf iX7_orchard_78 (by first | rfl | repeat (first | assumption | exact xup_eq _ _ _ | rw [xup_ne _ _ (by first | decide | omega | assumption)])) rfl ?_
          refine X.ifeqB iX7_orchard_81 (fun c81 => ?_) (fun c81 => ?_)
          · exact absurd c81 (by decide)
          · refine X.pushi iX7_orchard_84 ?_
            refine X.aload iX7_orchard_86 rfl ?_
            refine X.getf iX7_orchard_87 (by first | rfl | repeat (first | assumption | exact xup_eq _ _ _ | rw [xup_ne _ _ (by first | decide | omega | assumption)])) rfl ?_
            refine X.isub iX7_orchard_90 ?_
            exact X.iret iX7_orchard_91 ⟨rfl, rfl⟩
/-- the answer of orchard, by the text alone -/
def orF (tp : Nat → Int32) (n : Nat) (ro rd : Nat → Int32) : Int32 := if (orC tp n ro rd).2 = true then -20 - nI (orC tp n ro rd).1 else nI (orA tp n ro).1
set_option maxHeartbeats 1000000 in
theorem c_X7_orchard {d n : Nat} {h : XH} {nw tp ro rd ud as kp la sz : Nat → Int32} {it mv : Nat → Int64} {ty pl : Int32} {fa : Bool} {un ku : Int32} {ik : Bool} (hn : n ≤ 90) (et : ty = nI n) : MetX mX7_orchard (d + 3, 0, 0) [.ref 98] (mh h nw tp ro rd ud as kp la sz it mv ty pl fa un ku ik) (fun v h' => v = some (.int (orF tp n ro rd)) ∧ ∃ (pl' : Int32) (fa' : Bool), h' = (if (orC tp n ro rd).2 = true then (mh h nw tp ((orA tp n ro).2.2.2) ((orB tp n ro rd).2.2.2) ud as kp la sz it mv (nI 0) pl' fa' un ku ik) else (mh h (orL nw (orA tp n ro).2.2.2 (orB tp n ro rd).2.2.2 (orA tp n ro).1 (orB tp n ro rd).1) tp ((orA tp n ro).2.2.2) ((orB tp n ro rd).2.2.2) ud as kp la sz it mv (nI 0) pl' fa' (nI 0) ku ik))) := by
  subst et
  have hA := orA_le tp n ro
  have hB := orB_le tp n ro rd
  have fin : X xT mX7_orchard (xR (d + 3, 0, 0)) (0, 0) 49 [some (.ref 98), some (.int (nI (orA tp n ro).1)), some (.int (nI (orB tp n ro rd).1)), none] [] (mh h nw tp ((orA tp n ro).2.2.2) ((orB tp n ro rd).2.2.2) ud as kp la sz it mv (nI n) (nI (orB tp n ro rd).2.1) ((orB tp n ro rd).2.2.1) un ku ik) (fun v h' => v = some (.int (orF tp n ro rd)) ∧ ∃ (pl' : Int32) (fa' : Bool), h' = (if (orC tp n ro rd).2 = true then (mh h nw tp ((orA tp n ro).2.2.2) ((orB tp n ro rd).2.2.2) ud as kp la sz it mv (nI 0) pl' fa' un ku ik) else (mh h (orL nw (orA tp n ro).2.2.2 (orB tp n ro rd).2.2.2 (orA tp n ro).1 (orB tp n ro rd).1) tp ((orA tp n ro).2.2.2) ((orB tp n ro rd).2.2.2) ud as kp la sz it mv (nI 0) pl' fa' (nI 0) ku ik))) := by
    refine X.imp (or_end (d := d) (f2 := false) (ro := (orA tp n ro).2.2.2) (rd := (orB tp n ro rd).2.2.2) (fa := (orB tp n ro rd).2.2.1) hn hB rfl rfl ?_) ?_
    · intro hf
      have hAf : (orA tp n ro).2.2.1 = false := by
        cases hz : (orA tp n ro).2.2.1 with
        | false => rfl
        | true =>
          rw [orB, if_pos hz] at hf
          exact Bool.noConfusion (show true = false from hf)
      have o1 := rtL_ok 7 0 0 ro rfl hAf
      refine ⟨o1.1, o1.2, ?_⟩
      rw [orB, if_neg (fun q => Bool.noConfusion (hAf.symm.trans q))] at hf ⊢
      split
      · rename_i h2
        rw [if_pos h2] at hf
        exact (rlL_ok 5 0 _ rd rfl hf).2
      · exact Nat.zero_le _
    · intro v h' q
      obtain ⟨q1, q2⟩ := q
      have eC : orC tp n ro rd = if (orB tp n ro rd).2.2.1 = true then ((orB tp n ro rd).2.1, true) else (sk tp n (orB tp n ro rd).2.1, decide (¬ ltr tp n (sk tp n (orB tp n ro rd).2.1) = 0)) := rfl
      cases hz : (orB tp n ro rd).2.2.1 with
      | true =>
        rw [hz, if_pos rfl] at eC
        rw [hz] at q1 q2
        rw [orF, eC]
        exact ⟨q1, _, _, q2⟩
      | false =>
        rw [hz, if_neg (by decide)] at eC
        rw [hz] at q1 q2
        rw [orF, eC]
        by_cases h2 : ltr tp n (sk tp n (orB tp n ro rd).2.1) = 0
        · have e2 : decide (¬ ltr tp n (sk tp n (orB tp n ro rd).2.1) = 0) = false := decide_eq_false (fun q => q h2)
          rw [e2] at q1 q2 ⊢
          exact ⟨q1, _, _, q2⟩
        · have e2 : decide (¬ ltr tp n (sk tp n (orB tp n ro rd).2.1) = 0) = true := decide_eq_true h2
          rw [e2] at q1 q2 ⊢
          exact ⟨q1, _, _, q2⟩
  have key : ∀ B, orB tp n ro rd = B → X xT mX7_orchard (xR (d + 3, 0, 0)) (0, 0) 49 [some (.ref 98), some (.int (nI (orA tp n ro).1)), some (.int (nI B.1)), none] [] (mh h nw tp ((orA tp n ro).2.2.2) B.2.2.2 ud as kp la sz it mv (nI n) (nI B.2.1) B.2.2.1 un ku ik) (fun v h' => v = some (.int (orF tp n ro rd)) ∧ ∃ (pl' : Int32) (fa' : Bool), h' = (if (orC tp n ro rd).2 = true then (mh h nw tp ((orA tp n ro).2.2.2) ((orB tp n ro rd).2.2.2) ud as kp la sz it mv (nI 0) pl' fa' un ku ik) else (mh h (orL nw (orA tp n ro).2.2.2 (orB tp n ro rd).2.2.2 (orA tp n ro).1 (orB tp n ro rd).1) tp ((orA tp n ro).2.2.2) ((orB tp n ro rd).2.2.2) ud as kp la sz it mv (nI 0) pl' fa' (nI 0) ku ik))) := by
    intro B e
    subst e
    exact fin
  have eB1 : (orA tp n ro).2.2.1 = true → orB tp n ro rd = (0, (orA tp n ro).2.1, true, rd) := by
    intro c
    rw [orB, if_pos c]
  have eB2 : (orA tp n ro).2.2.1 = false → ¬ ltr tp n (sk tp n (orA tp n ro).2.1) = nI 59 → orB tp n ro rd = (0, sk tp n (orA tp n ro).2.1, false, rd) := by
    intro c c'
    rw [orB, if_neg (fun q => Bool.noConfusion (c.symm.trans q)), if_neg c']
  have eB3 : (orA tp n ro).2.2.1 = false → ltr tp n (sk tp n (orA tp n ro).2.1) = nI 59 → orB tp n ro rd = rlL tp n (orA tp n ro).1 5 0 (sk tp n (orA tp n ro).2.1 + 1) rd := by
    intro c c'
    rw [orB, if_neg (fun q => Bool.noConfusion (c.symm.trans q)), if_pos c']
  refine MetX.of (by decide) rfl (Nat.le_of_ble_eq_true rfl) ?_
  refine X.aload iX7_orchard_0 rfl ?_
  refine X.pushi (v := nI 0) iX7_orchard_1 ?_
  refine X.puti iX7_orchard_2 (by first | rfl | repeat (first | assumption | exact xup_eq _ _ _ | rw [xup_ne _ _ (by first | decide | omega | assumption)])) (Nat.le_of_ble_eq_true rfl) ?_
  rw [mh98_3]
  refine X.aload iX7_orchard_5 rfl ?_
  refine X.pushi (v := bI false) iX7_orchard_6 ?_
  refine X.putz iX7_orchard_7 (by first | rfl | repeat (first | assumption | exact xup_eq _ _ _ | rw [xup_ne _ _ (by first | decide | omega | assumption)])) (Nat.le_of_ble_eq_true rfl) ?_
  rw [mh98_4]
  refine X.aload iX7_orchard_10 rfl ?_
  refine X.callVi iX7_orchard_11 (c_X7_readTrees (d := d) (p := 0) hn (Nat.zero_le _) rfl rfl rfl) (by first | rfl | repeat (first | assumption | exact xup_eq _ _ _ | rw [xup_ne _ _ (by first | decide | omega | assumption)])) rfl rfl (xfit _ _ _) (Nat.le_of_ble_eq_true rfl) ?_
  refine X.istore iX7_orchard_14 rfl rfl ?_
  refine X.pushi (v := nI 0) iX7_orchard_15 ?_
  refine X.istore iX7_orchard_16 rfl rfl ?_
  refine (show X xT mX7_orchard (xR (d + 3, 0, 0)) (0, 0) 17 [some (.ref 98), some (.int (nI (orA tp n ro).1)), some (.int (nI 0)), none] [] (mh h nw tp ((orA tp n ro).2.2.2) rd ud as kp la sz it mv (nI n) (nI (orA tp n ro).2.1) ((orA tp n ro).2.2.1) un ku ik) _ from ?_)
  refine X.aload iX7_orchard_17 rfl ?_
  refine X.getf iX7_orchard_18 (by first | rfl | repeat (first | assumption | exact xup_eq _ _ _ | rw [xup_ne _ _ (by first | decide | omega | assumption)])) rfl ?_
  refine X.ifneB iX7_orchard_21 (fun c21 => ?_) (fun c21 => ?_)
  · first
    | exact key _ (eB3 c21 c30)
    | (rw [c21]; exact key _ (eB2 c21 c30))
    | (rw [c21]; exact key _ (eB1 c21))
  · refine X.aload iX7_orchard_24 rfl ?_
    refine X.callVi iX7_orchard_25 (c_X7_here (d := d + 2) hn hA rfl rfl) (by first | rfl | repeat (first | assumption | exact xup_eq _ _ _ | rw [xup_ne _ _ (by first | decide | omega | assumption)])) rfl rfl (xfit _ _ _) (Nat.le_of_ble_eq_true rfl) ?_
    refine X.pushi (v := nI 59) iX7_orchard_28 ?_
    refine X.cmne iX7_orchard_30 (fun c30 => ?_) (fun c30 => ?_)
    · first
      | exact key _ (eB3 c21 c30)
      | (rw [c21]; exact key _ (eB2 c21 c30))
      | (rw [c21]; exact key _ (eB1 c21))
    · refine X.aload iX7_orchard_33 rfl ?_
      refine X.dupa iX7_orchard_34 ?_
      refine X.getf iX7_orchard_35 (by first | rfl | repeat (first | assumption | exact xup_eq _ _ _ | rw [xup_ne _ _ (by first | decide | omega | assumption)])) rfl ?_
      refine X.pushi (v := nI 1) iX7_orchard_38 ?_
      refine X.iadd iX7_orchard_39 ?_
      rw [nI_add]
      refine X.puti iX7_orchard_40 (by first | rfl | repeat (first | assumption | exact xup_eq _ _ _ | rw [xup_ne _ _ (by first | decide | omega | assumption)])) (Nat.le_of_ble_eq_true rfl) ?_
      rw [mh98_3]
      refine X.aload iX7_orchard_43 rfl ?_
      refine X.iload iX7_orchard_44 rfl ?_
      refine X.callVi iX7_orchard_45 (c_X7_readLadders (d := d) (p := sk tp n (orA tp n ro).2.1 + 1) hn (ltr_end (by decide) c30) c21 rfl rfl) (by first | rfl | repeat (first | assumption | exact xup_eq _ _ _ | rw [xup_ne _ _ (by first | decide | omega | assumption)])) rfl rfl (xfit _ _ _) (Nat.le_of_ble_eq_true rfl) ?_
      refine X.istore iX7_orchard_48 rfl rfl ?_
      first
      | exact key _ (eB3 c21 c30)
      | (rw [c21]; exact key _ (eB2 c21 c30))
      | (rw [c21]; exact key _ (eB1 c21))
