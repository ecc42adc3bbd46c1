/-! the reference: luck -/
theorem sl31 : ∀ n, n < 32 → ((nI n &&& 31).toBitVec.smod 32).toNat = n := by decide +kernel
theorem bitN {s l : Nat} (hs : s < 2 ^ 31) (hl : l < 32) : nI s >>> (nI l &&& 31) &&& nI 1 = nI (s / 2 ^ l % 2) := by
  rw [pk_shrN hs _ l (sl31 l hl), pk_andN (Nat.lt_of_le_of_lt (Nat.div_le_self _ _) (by omega)) 1 (by decide)]
theorem bit1 {l : Nat} (hl : l < 31) : nI 1 <<< (nI l &&& 31) = nI (2 ^ l) := by
  have h2 : 2 ^ l < 2 ^ 31 := Nat.pow_lt_pow_right (by decide) hl
  rw [pk_shlN _ l (sl31 l (by omega)) (by omega), Nat.one_mul]
/-- of ladder l: how many of ten ways there are to have it away (bit l of s) or there -/
def lkB (nw : Nat → Int32) (c s l : Nat) : Nat := if nw (30 + 4 * l) = -4 then (if s / 2 ^ l % 2 = 1 then 0 else 1) else (if s / 2 ^ l % 2 = 1 then c else 10 - c)
def lkP (nw : Nat → Int32) (c s : Nat) : Nat → Nat
  | 0 => 1
  | l + 1 => lkP nw c s l * lkB nw c s l
def lkO (nw : Nat → Int32) (nT nL s : Nat) : Int32 := gb nw nT nL (nI s) 3 - nw 3
/-- above, below -/
def lkS (nw : Nat → Int32) (nT nL c : Nat) (g : Int32) : Nat → Nat × Nat
  | 0 => (0, 0)
  | s + 1 => ((lkS nw nT nL c g s).1 + (if g ≤ lkO nw nT nL s then lkP nw c s nL else 0), (lkS nw nT nL c g s).2 + lkP nw c s nL)
theorem lkB_le {nw : Nat → Int32} {c s l : Nat} (hc : c ≤ 10) : lkB nw c s l ≤ 10 := by
  unfold lkB
  split <;> split <;> omega
theorem lkP_le {nw : Nat → Int32} {c s : Nat} (hc : c ≤ 10) : ∀ l, lkP nw c s l ≤ 10 ^ l
  | 0 => Nat.le_refl _
  | l + 1 => Nat.mul_le_mul (lkP_le hc l) (lkB_le hc)
theorem lkS_le {nw : Nat → Int32} {nT nL c : Nat} {g : Int32} (hc : c ≤ 10) : ∀ s, (lkS nw nT nL c g s).1 ≤ (lkS nw nT nL c g s).2 ∧ (lkS nw nT nL c g s).2 ≤ s * 10 ^ nL
  | 0 => ⟨Nat.le_refl _, by simp [lkS]⟩
  | s + 1 => by
    have ih := lkS_le (nw := nw) (nT := nT) (nL := nL) (g := g) hc s
    have h2 := lkP_le (nw := nw) (s := s) hc nL
    have e : (s + 1) * 10 ^ nL = s * 10 ^ nL + 10 ^ nL := by rw [Nat.add_mul, Nat.one_mul]
    simp only [lkS]
    constructor
    · split <;> omega
    · omega
theorem luck_part {d nT nL c s : Nat} {L1 L3 L4 L5 : Option Value} {Q : Option Value → XH → Prop} {h : XH} {nw tp ro rd ud as kp la sz : Nat → Int32} {it mv : Nat → Int64} {ty pl : Int32} {fa : Bool} {un ku : Int32} {ik : Bool} (wf : WF nw nT nL) (hc : c ≤ 10) (hs : s < 2 ^ 31) (K : X xT mX7_luck (xR (d + 4, 0, 0)) (0, 0) 157 [some (.ref 98), L1, some (.int (nI c)), L3, L4, L5, some (.int (nI s)), some (.int (nI (lkP nw c s nL))), none, none, none] [] (mh h nw tp ro rd ud as kp la sz it mv ty pl fa un ku ik) Q) : ∀ l, l ≤ nL → X xT mX7_luck (xR (d + 4, 0, 0)) (0, 0) 68 [some (.ref 98), L1, some (.int (nI c)), L3, L4, L5, some (.int (nI s)), some (.int (nI (lkP nw c s l))), some (.int (nI l)), none, none] [] (mh h nw tp ro rd ud as kp la sz it mv ty pl fa un ku ik) Q := by
  have hL := wf.2.2.2.1
  have w1 : nw 1 = nI nL := wf.2.1
  refine xloop nL ?_ ?_
  · refine X.iload iX7_luck_68 rfl ?_
    refine X.aload iX7_luck_70 rfl ?_
    refine X.getf iX7_luck_71 (by first | rfl | repeat (first | assumption | exact xup_eq _ _ _ | rw [xup_ne _ _ (by first | decide | omega | assumption)])) rfl ?_
    refine X.pushi (v := nI 1) iX7_luck_74 ?_
    refine X.ialdN iX7_luck_75 (by first | rfl | repeat (first | assumption | exact xup_eq _ _ _ | rw [xup_ne _ _ (by first | decide | omega | assumption)])) (by omega) (by decide) ?_
    refine X.cmge iX7_luck_76 (fun c76 => ?_) (fun c76 => ?_)
    · exact X.unset 8 rfl K
    · exact absurd (by rw [w1]; exact Int32.le_refl _) c76
  · intro l hl ih
    rw [show lkP nw c s (l + 1) = lkP nw c s l * lkB nw c s l from rfl] at ih
    have hj : ∀ a b : Bool, a = decide (s / 2 ^ l % 2 = 1) → b = decide (¬ nw (30 + 4 * l) = -4) → X xT mX7_luck (xR (d + 4, 0, 0)) (0, 0) 115 [some (.ref 98), L1, some (.int (nI c)), L3, L4, L5, some (.int (nI s)), some (.int (nI (lkP nw c s l))), some (.int (nI l)), some (.int (bI a)), some (.int (bI b))] [] (mh h nw tp ro rd ud as kp la sz it mv ty pl fa un ku ik) Q := by
      intro a b ha hb
      have fin : ∀ n, n = lkB nw c s l → X xT mX7_luck (xR (d + 4, 0, 0)) (0, 0) 148 [some (.ref 98), L1, some (.int (nI c)), L3, L4, L5, some (.int (nI s)), some (.int (nI (lkP nw c s l))), some (.int (nI l)), some (.int (bI a)), some (.int (bI b))] [.int (nI n), .int (nI (lkP nw c s l))] (mh h nw tp ro rd ud as kp la sz it mv ty pl fa un ku ik) Q := by
        intro n hn
        subst hn
        refine X.imul iX7_luck_148 ?_
        rw [pk_mul]
        refine X.istore iX7_luck_149 rfl rfl ?_
        refine X.iinc iX7_luck_151 rfl rfl rfl ?_
        refine X.goto iX7_luck_154 ?_
        rw [nI_1]
        exact X.unset 9 rfl (X.unset 10 rfl ih)
      refine X.iload iX7_luck_115 rfl ?_
      refine X.iload iX7_luck_117 rfl ?_
      refine X.ifeqB iX7_luck_119 (fun c119 => ?_) (fun c119 => ?_)
      · refine X.iload iX7_luck_138 rfl ?_
        refine X.ifeqB iX7_luck_140 (fun c140 => ?_) (fun c140 => ?_)
        · refine X.pushi (v := nI 1) iX7_luck_147 ?_
          refine fin _ ?_
          first
          | (rw [lkB, if_neg (of_decide_eq_true (hb.symm.trans c119)), if_pos (of_decide_eq_true (ha.symm.trans c124))]; done)
          | (rw [lkB, if_neg (of_decide_eq_true (hb.symm.trans c119)), if_neg (of_decide_eq_false (ha.symm.trans c124))]; done)
          | (rw [lkB, if_pos (Decidable.not_not.mp (of_decide_eq_false (hb.symm.trans c119))), if_pos (of_decide_eq_true (ha.symm.trans c140))]; done)
          | (rw [lkB, if_pos (Decidable.not_not.mp (of_decide_eq_false (hb.symm.trans c119))), if_neg (of_decide_eq_false (ha.symm.trans c140))]; done)
        · refine X.pushi (v := nI 0) iX7_luck_143 ?_
          refine X.goto iX7_luck_144 ?_
          refine fin _ ?_
          first
          | (rw [lkB, if_neg (of_decide_eq_true (hb.symm.trans c119)), if_pos (of_decide_eq_true (ha.symm.trans c124))]; done)
          | (rw [lkB, if_neg (of_decide_eq_true (hb.symm.trans c119)), if_neg (of_decide_eq_false (ha.symm.trans c124))]; done)
          | (rw [lkB, if_pos (Decidable.not_not.mp (of_decide_eq_false (hb.symm.trans c119))), if_pos (of_decide_eq_true (ha.symm.trans c140))]; done)
          | (rw [lkB, if_pos (Decidable.not_not.mp (of_decide_eq_false (hb.symm.trans c119))), if_neg (of_decide_eq_false (ha.symm.trans c140))]; done)
      · refine X.iload iX7_luck_122 rfl ?_
        refine X.ifeqB iX7_luck_124 (fun c124 => ?_) (fun c124 => ?_)
        · refine X.pushi (v := nI 10) iX7_luck_131 ?_
          refine X.iload iX7_luck_133 rfl ?_
          refine X.isub iX7_luck_134 ?_
          rw [pk_sub hc]
          refine X.goto iX7_luck_135 ?_
          refine fin _ ?_
          first
          | (rw [lkB, if_neg (of_decide_eq_true (hb.symm.trans c119)), if_pos (of_decide_eq_true (ha.symm.trans c124))]; done)
          | (rw [lkB, if_neg (of_decide_eq_true (hb.symm.trans c119)), if_neg (of_decide_eq_false (ha.symm.trans c124))]; done)
          | (rw [lkB, if_pos (Decidable.not_not.mp (of_decide_eq_false (hb.symm.trans c119))), if_pos (of_decide_eq_true (ha.symm.trans c140))]; done)
          | (rw [lkB, if_pos (Decidable.not_not.mp (of_decide_eq_false (hb.symm.trans c119))), if_neg (of_decide_eq_false (ha.symm.trans c140))]; done)
        · refine X.iload iX7_luck_127 rfl ?_
          refine X.goto iX7_luck_128 ?_
          refine fin _ ?_
          first
          | (rw [lkB, if_neg (of_decide_eq_true (hb.symm.trans c119)), if_pos (of_decide_eq_true (ha.symm.trans c124))]; done)
          | (rw [lkB, if_neg (of_decide_eq_true (hb.symm.trans c119)), if_neg (of_decide_eq_false (ha.symm.trans c124))]; done)
          | (rw [lkB, if_pos (Decidable.not_not.mp (of_decide_eq_false (hb.symm.trans c119))), if_pos (of_decide_eq_true (ha.symm.trans c140))]; done)
          | (rw [lkB, if_pos (Decidable.not_not.mp (of_decide_eq_false (hb.symm.trans c119))), if_neg (of_decide_eq_false (ha.symm.trans c140))]; done)
    refine X.iload iX7_luck_68 rfl ?_
    refine X.aload iX7_luck_70 rfl ?_
    refine X.getf iX7_luck_71 (by first | rfl | repeat (first | assumption | exact xup_eq _ _ _ | rw [xup_ne _ _ (by first | decide | omega | assumption)])) rfl ?_
    refine X.pushi (v := nI 1) iX7_luck_74 ?_
    refine X.ialdN iX7_luck_75 (by first | rfl | repeat (first | assumption | exact xup_eq _ _ _ | rw [xup_ne _ _ (by first | decide | omega | assumption)])) (by omega) (by decide) ?_
    refine X.cmge iX7_luck_76 (fun c76 => ?_) (fun c76 => ?_)
    · exact absurd (show nI nL ≤ nI l by rw [← w1]; exact c76) (nI_ge hl (by omega))
    · refine X.iload iX7_luck_79 rfl ?_
      refine X.iload iX7_luck_81 rfl ?_
      refine X.ishr iX7_luck_83 ?_
      refine X.pushi (v := nI 1) iX7_luck_84 ?_
      refine X.iand iX7_luck_85 ?_
      rw [bitN hs (by omega)]
      refine X.pushi (v := nI 1) iX7_luck_86 ?_
      refine X.cmne iX7_luck_87 (fun c87 => ?_) (fun c87 => ?_)
      · refine X.pushi (v := nI 0) iX7_luck_94 ?_
        refine X.istore iX7_luck_95 rfl rfl ?_
        refine X.aload iX7_luck_97 rfl ?_
        refine X.iload iX7_luck_98 rfl ?_
        refine X.callVi iX7_luck_100 (c_X7_leansAt (d := d + 2) mh_MO (by omega)) (by first | rfl | repeat (first | assumption | exact xup_eq _ _ _ | rw [xup_ne _ _ (by first | decide | omega | assumption)])) rfl rfl (xfit _ _ _) (Nat.le_of_ble_eq_true rfl) ?_
        refine X.pushi iX7_luck_103 ?_
        refine X.cmeq iX7_luck_105 (fun c105 => ?_) (fun c105 => ?_)
        · refine X.pushi (v := nI 0) iX7_luck_112 ?_
          refine X.istore iX7_luck_113 rfl rfl ?_
          have hm : s / 2 ^ l % 2 < 2 ^ 31 := Nat.lt_of_lt_of_le (Nat.mod_lt _ (by decide)) (by decide)
          first
          | (exact hj true true (decide_eq_true ((nI_eq hm (by decide)).mp c87)).symm (decide_eq_true c105).symm)
          | (exact hj true false (decide_eq_true ((nI_eq hm (by decide)).mp c87)).symm (decide_eq_false (fun q => q c105)).symm)
          | (exact hj false true (decide_eq_false (fun q => c87 (congrArg nI q))).symm (decide_eq_true c105).symm)
          | (exact hj false false (decide_eq_false (fun q => c87 (congrArg nI q))).symm (decide_eq_false (fun q => q c105)).symm)
        · refine X.pushi (v := nI 1) iX7_luck_108 ?_
          refine X.goto iX7_luck_109 ?_
          refine X.istore iX7_luck_113 rfl rfl ?_
          have hm : s / 2 ^ l % 2 < 2 ^ 31 := Nat.lt_of_lt_of_le (Nat.mod_lt _ (by decide)) (by decide)
          first
          | (exact hj true true (decide_eq_true ((nI_eq hm (by decide)).mp c87)).symm (decide_eq_true c105).symm)
          | (exact hj true false (decide_eq_true ((nI_eq hm (by decide)).mp c87)).symm (decide_eq_false (fun q => q c105)).symm)
          | (exact hj false true (decide_eq_false (fun q => c87 (congrArg nI q))).symm (decide_eq_true c105).symm)
          | (exact hj false false (decide_eq_false (fun q => c87 (congrArg nI q))).symm (decide_eq_false (fun q => q c105)).symm)
      · refine X.pushi (v := nI 1) iX7_luck_90 ?_
        refine X.goto iX7_luck_91 ?_
        refine X.istore iX7_luck_95 rfl rfl ?_
        refine X.aload iX7_luck_97 rfl ?_
        refine X.iload iX7_luck_98 rfl ?_
        refine X.callVi iX7_luck_100 (c_X7_leansAt (d := d + 2) mh_MO (by omega)) (by first | rfl | repeat (first | assumption | exact xup_eq _ _ _ | rw [xup_ne _ _ (by first | decide | omega | assumption)])) rfl rfl (xfit _ _ _) (Nat.le_of_ble_eq_true rfl) ?_
        refine X.pushi iX7_luck_103 ?_
        refine X.cmeq iX7_luck_105 (fun c105 => ?_) (fun c105 => ?_)
        · refine X.pushi (v := nI 0) iX7_luck_112 ?_
          refine X.istore iX7_luck_113 rfl rfl ?_
          have hm : s / 2 ^ l % 2 < 2 ^ 31 := Nat.lt_of_lt_of_le (Nat.mod_lt _ (by decide)) (by decide)
          first
          | (exact hj true true (decide_eq_true ((nI_eq hm (by decide)).mp c87)).symm (decide_eq_true c105).symm)
          | (exact hj true false (decide_eq_true ((nI_eq hm (by decide)).mp c87)).symm (decide_eq_false (fun q => q c105)).symm)
          | (exact hj false true (decide_eq_false (fun q => c87 (congrArg nI q))).symm (decide_eq_true c105).symm)
          | (exact hj false false (decide_eq_false (fun q => c87 (congrArg nI q))).symm (decide_eq_false (fun q => q c105)).symm)
        · refine X.pushi (v := nI 1) iX7_luck_108 ?_
          refine X.goto iX7_luck_109 ?_
          refine X.istore iX7_luck_113 rfl rfl ?_
          have hm : s / 2 ^ l % 2 < 2 ^ 31 := Nat.lt_of_lt_of_le (Nat.mod_lt _ (by decide)) (by decide)
          first
          | (exact hj true true (decide_eq_true ((nI_eq hm (by decide)).mp c87)).symm (decide_eq_true c105).symm)
          | (exact hj true false (decide_eq_true ((nI_eq hm (by decide)).mp c87)).symm (decide_eq_false (fun q => q c105)).symm)
          | (exact hj false true (decide_eq_false (fun q => c87 (congrArg nI q))).symm (decide_eq_true c105).symm)
          | (exact hj false false (decide_eq_false (fun q => c87 (congrArg nI q))).symm (decide_eq_false (fun q => q c105)).symm)
theorem luck_gcd {d A B w : Nat} {L1 L2 : Option Value} {h : XH} {nw tp ro rd ud as kp la sz : Nat → Int32} {it mv : Nat → Int64} {ty pl : Int32} {fa : Bool} {un ku : Int32} {ik : Bool} (hA : A < 2 ^ 31) (hB : B < 2 ^ 31) (hp : 0 < B) (hw : w ≤ 1) : ∀ b a, a < 2 ^ 31 → b < 2 ^ 31 → Nat.gcd a b = Nat.gcd A B → X xT mX7_luck (xR (d + 4, 0, 0)) (0, 0) 216 [some (.ref 98), L1, L2, some (.int (nI w)), some (.int (nI A)), some (.int (nI B)), some (.int (nI a)), some (.int (nI b)), none, none, none] [] (mh h nw tp ro rd ud as kp la sz it mv ty pl fa un ku ik) (fun v h' => v = some (.int (nI ((if w = 0 then A else B) / Nat.gcd A B))) ∧ h' = (mh h nw tp ro rd ud as kp la sz it mv ty pl fa un ku ik)) := by
  have hg : 0 < Nat.gcd A B := Nat.gcd_pos_of_pos_right _ hp
  have hg2 : Nat.gcd A B ≤ B := Nat.gcd_le_right _ hp
  intro b
  induction b using Nat.strongRecOn with
  | ind b ih =>
    intro a ha hb hab
    rcases Nat.eq_zero_or_pos b with e | e
    · subst e
      rw [Nat.gcd_zero_right] at hab
      subst hab
      refine X.iload iX7_luck_216 rfl ?_
      refine X.ifeq iX7_luck_218 (fun c218 => ?_) (fun c218 => ?_)
      · refine X.iload iX7_luck_239 rfl ?_
        refine X.ifne iX7_luck_240 (fun c240 => ?_) (fun c240 => ?_)
        · refine X.iload iX7_luck_251 rfl ?_
          refine X.iload iX7_luck_253 rfl ?_
          refine X.idiv iX7_luck_255 (nI_ne0 hg (by omega)) ?_
          rw [pk_div hB hg (by omega)]
          refine X.iret iX7_luck_256 ⟨?_, rfl⟩
          rw [if_neg (fun q => c240 (by rw [q]; rfl))]
        · refine X.iload iX7_luck_243 rfl ?_
          refine X.iload iX7_luck_245 rfl ?_
          refine X.idiv iX7_luck_247 (nI_ne0 hg (by omega)) ?_
          rw [pk_div hA hg (by omega)]
          refine X.goto iX7_luck_248 ?_
          refine X.iret iX7_luck_256 ⟨?_, rfl⟩
          rw [if_pos ((nI_eq (show w < 2 ^ 31 by omega) (show 0 < 2 ^ 31 by decide)).mp c240)]
      · exact absurd rfl c218
    · refine X.iload iX7_luck_216 rfl ?_
      refine X.ifeq iX7_luck_218 (fun c218 => ?_) (fun c218 => ?_)
      · exact absurd c218 (nI_ne0 e hb)
      · refine X.iload iX7_luck_221 rfl ?_
        refine X.iload iX7_luck_223 rfl ?_
        refine X.irem iX7_luck_225 (nI_ne0 e hb) ?_
        rw [pk_rem ha e hb]
        refine X.istore iX7_luck_226 rfl rfl ?_
        refine X.iload iX7_luck_228 rfl ?_
        refine X.istore iX7_luck_230 rfl rfl ?_
        refine X.iload iX7_luck_232 rfl ?_
        refine X.istore iX7_luck_234 rfl rfl ?_
        refine X.goto iX7_luck_236 ?_
        have hm := Nat.mod_lt a e
        exact X.unset 8 rfl (ih (a % b) hm b hb (by omega) (by rw [← hab, Nat.gcd_comm a b, Nat.gcd_rec b a, Nat.gcd_comm]))
def luckF (nw : Nat → Int32) (nT nL c : Nat) (g : Int32) (w : Nat) : Int32 :=
  nI ((if w = 0 then (lkS nw nT nL c g (2 ^ nL)).1 else (lkS nw nT nL c g (2 ^ nL)).2) / Nat.gcd (lkS nw nT nL c g (2 ^ nL)).1 (lkS nw nT nL c g (2 ^ nL)).2)
theorem c_X7_luck_bad {d : Nat} {g c w : Int32} {h : XH} {nw tp ro rd ud as kp la sz : Nat → Int32} {it mv : Nat → Int64} {ty pl : Int32} {fa : Bool} {un ku : Int32} {ik : Bool} (hb : inI g (nI 0) (nI 150) = false ∨ inI c (nI 0) (nI 10) = false ∨ inI w (nI 0) (nI 1) = false) : MetI mX7_luck (d + 1, 0, 0) [.ref 98, .int g, .int c, .int w] (mh h nw tp ro rd ud as kp la sz it mv ty pl fa un ku ik) (-1) := by
  refine MetX.of (by decide) rfl (Nat.le_of_ble_eq_true rfl) ?_
  refine X.iload iX7_luck_0 rfl ?_
  refine X.i2l iX7_luck_1 ?_
  refine X.pushl iX7_luck_2 ?_
  refine X.pushl iX7_luck_3 ?_
  refine X.callSi iX7_luck_6 (c7_inI (d := d) (a := nI 0) (b := nI 150) (by decide) (by decide)) rfl rfl (xfit _ _ _) (Nat.le_of_ble_eq_true rfl) ?_
  refine X.ifeqB iX7_luck_9 (fun c9 => ?_) (fun c9 => ?_)
  · refine X.pushi iX7_luck_34 ?_
    exact X.iret iX7_luck_35 ⟨rfl, rfl⟩
  · refine X.iload iX7_luck_12 rfl ?_
    refine X.i2l iX7_luck_13 ?_
    refine X.pushl iX7_luck_14 ?_
    refine X.pushl iX7_luck_15 ?_
    refine X.callSi iX7_luck_18 (c7_inI (d := d) (a := nI 0) (b := nI 10) (by decide) (by decide)) rfl rfl (xfit _ _ _) (Nat.le_of_ble_eq_true rfl) ?_
    refine X.ifeqB iX7_luck_21 (fun c21 => ?_) (fun c21 => ?_)
    · refine X.pushi iX7_luck_34 ?_
      exact X.iret iX7_luck_35 ⟨rfl, rfl⟩
    · refine X.iload iX7_luck_24 rfl ?_
      refine X.i2l iX7_luck_25 ?_
      refine X.pushl iX7_luck_26 ?_
      refine X.pushl iX7_luck_27 ?_
      refine X.callSi iX7_luck_28 (c7_inI (d := d) (a := nI 0) (b := nI 1) (by decide) (by decide)) rfl rfl (xfit _ _ _) (Nat.le_of_ble_eq_true rfl) ?_
      refine X.ifneB iX7_luck_31 (fun c31 => ?_) (fun c31 => ?_)
      · exact absurd hb (by intro q; rcases q with q | q | q; exact absurd (c9.symm.trans q) (by decide); exact absurd (c21.symm.trans q) (by decide); exact absurd (c31.symm.trans q) (by decide))
      · refine X.pushi iX7_luck_34 ?_
        exact X.iret iX7_luck_35 ⟨rfl, rfl⟩
set_option maxHeartbeats 1000000 in
theorem luck_more {d s a b pt : Nat} {L2 L3 : Option Value} {g o : Int32} {f : Nat → Int32} {Q : Option Value → XH → Prop} {h : XH} {nw tp ro rd ud as kp la sz : Nat → Int32} {it mv : Nat → Int64} {ty pl : Int32} {fa : Bool} {un ku : Int32} {ik : Bool} (eo : f 3 - nw 3 = o) (far : Far f nw) (ih : X xT mX7_luck (xR (d + 4, 0, 0)) (0, 0) 49 [some (.ref 98), some (.int g), L2, L3, some (.int (nI (a + (if g ≤ o then pt else 0)))), some (.int (nI (b + pt))), some (.int (nI (s + 1))), none, none, none, none] [] (mh h nw tp ro rd ud (cp nw as 43) kp la sz it mv ty pl fa un ku ik) Q) (hL3 : ∃ x : Int32, L3 = some (.int x)) : X xT mX7_luck (xR (d + 4, 0, 0)) (0, 0) 163 [some (.ref 98), some (.int g), L2, L3, some (.int (nI a)), some (.int (nI b)), some (.int (nI s)), some (.int (nI pt)), none, none, none] [] (mh h f tp ro rd ud (cp nw as 43) kp la sz it mv ty pl fa un ku ik) Q := by
  obtain ⟨x3, rfl⟩ := hL3
  subst eo
  refine X.iload iX7_luck_163 rfl ?_
  refine X.iload iX7_luck_165 rfl ?_
  refine X.iadd iX7_luck_167 ?_
  rw [nI_add]
  refine X.istore iX7_luck_168 rfl rfl ?_
  refine X.iload iX7_luck_170 rfl ?_
  refine X.aload iX7_luck_172 rfl ?_
  refine X.getf iX7_luck_173 (by first | rfl | repeat (first | assumption | exact xup_eq _ _ _ | rw [xup_ne _ _ (by first | decide | omega | assumption)])) rfl ?_
  refine X.pushi (v := nI 3) iX7_luck_176 ?_
  refine X.ialdN iX7_luck_177 (by first | rfl | repeat (first | assumption | exact xup_eq _ _ _ | rw [xup_ne _ _ (by first | decide | omega | assumption)])) (by omega) (by decide) ?_
  refine X.aload iX7_luck_178 rfl ?_
  refine X.getf iX7_luck_179 (by first | rfl | repeat (first | assumption | exact xup_eq _ _ _ | rw [xup_ne _ _ (by first | decide | omega | assumption)])) rfl ?_
  refine X.pushi (v := nI 3) iX7_luck_182 ?_
  refine X.ialdN iX7_luck_183 (by first | rfl | repeat (first | assumption | exact xup_eq _ _ _ | rw [xup_ne _ _ (by first | decide | omega | assumption)])) (by omega) (by decide) ?_
  rw [show cp nw as 43 3 = nw 3 from rfl]
  refine X.isub iX7_luck_184 ?_
  refine X.iload iX7_luck_185 rfl ?_
  refine X.cmlt iX7_luck_186 (fun c186 => ?_) (fun c186 => ?_)
  · refine X.pushi (v := nI 0) iX7_luck_194 ?_
    refine X.iadd iX7_luck_195 ?_
    rw [nI_add]
    refine X.istore iX7_luck_196 rfl rfl ?_
    refine X.aload iX7_luck_198 rfl ?_
    refine X.callVv iX7_luck_199 (g_backs (d := d + 3)) (by first | rfl | repeat (first | assumption | exact xup_eq _ _ _ | rw [xup_ne _ _ (by first | decide | omega | assumption)])) rfl rfl (xfit _ _ _) (Nat.le_of_ble_eq_true rfl) ?_
    rw [cp_back far]
    refine X.iinc iX7_luck_202 rfl rfl rfl ?_
    refine X.goto iX7_luck_205 ?_
    rw [nI_1]
    first
    | (rw [if_neg (Int32.not_le.mpr c186)] at ih; exact X.unset 7 rfl ih)
    | (rw [if_pos (Int32.not_lt.mp c186)] at ih; exact X.unset 7 rfl ih)
  · refine X.iload iX7_luck_189 rfl ?_
    refine X.goto iX7_luck_191 ?_
    refine X.iadd iX7_luck_195 ?_
    rw [nI_add]
    refine X.istore iX7_luck_196 rfl rfl ?_
    refine X.aload iX7_luck_198 rfl ?_
    refine X.callVv iX7_luck_199 (g_backs (d := d + 3)) (by first | rfl | repeat (first | assumption | exact xup_eq _ _ _ | rw [xup_ne _ _ (by first | decide | omega | assumption)])) rfl rfl (xfit _ _ _) (Nat.le_of_ble_eq_true rfl) ?_
    rw [cp_back far]
    refine X.iinc iX7_luck_202 rfl rfl rfl ?_
    refine X.goto iX7_luck_205 ?_
    rw [nI_1]
    first
    | (rw [if_neg (Int32.not_le.mpr c186)] at ih; exact X.unset 7 rfl ih)
    | (rw [if_pos (Int32.not_lt.mp c186)] at ih; exact X.unset 7 rfl ih)
set_option maxHeartbeats 1000000 in
theorem luck_loop {d nT nL c w : Nat} {g : Int32} {h : XH} {nw tp ro rd ud as kp la sz : Nat → Int32} {it mv : Nat → Int64} {ty pl : Int32} {fa : Bool} {un ku : Int32} {ik : Bool} (wf : WF nw nT nL) (hc : c ≤ 10) (hw : w ≤ 1) (hp : 0 < (lkS nw nT nL c g (2 ^ nL)).2) : ∀ s, s ≤ 2 ^ nL → X xT mX7_luck (xR (d + 4, 0, 0)) (0, 0) 49 [some (.ref 98), some (.int g), some (.int (nI c)), some (.int (nI w)), some (.int (nI (lkS nw nT nL c g s).1)), some (.int (nI (lkS nw nT nL c g s).2)), some (.int (nI s)), none, none, none, none] [] (mh h nw tp ro rd ud (cp nw as 43) kp la sz it mv ty pl fa un ku ik) (fun v h' => v = some (.int (luckF nw nT nL c g w)) ∧ h' = (mh h nw tp ro rd ud (cp nw as 43) kp la sz it mv ty pl fa un ku ik)) := by
  have hL := wf.2.2.2.1
  have w1 : nw 1 = nI nL := wf.2.1
  have h16 : 2 ^ nL ≤ 16 := Nat.le_trans (Nat.pow_le_pow_right (by decide) hL) (by decide)
  have hb : (lkS nw nT nL c g (2 ^ nL)).1 ≤ (lkS nw nT nL c g (2 ^ nL)).2 ∧ (lkS nw nT nL c g (2 ^ nL)).2 ≤ 160000 := by
    have := lkS_le (nw := nw) (nT := nT) (nL := nL) (g := g) hc (2 ^ nL)
    have h10 : 10 ^ nL ≤ 10000 := Nat.le_trans (Nat.pow_le_pow_right (by decide) hL) (by decide)
    exact ⟨this.1, Nat.le_trans this.2 (Nat.le_trans (Nat.mul_le_mul h16 h10) (by decide))⟩
  have sh : nI 1 <<< (nw 1 &&& 31) = nI (2 ^ nL) := by rw [w1, bit1 (by omega)]
  refine xloop (2 ^ nL) ?_ ?_
  · refine X.iload iX7_luck_49 rfl ?_
    refine X.pushi (v := nI 1) iX7_luck_51 ?_
    refine X.aload iX7_luck_52 rfl ?_
    refine X.getf iX7_luck_53 (by first | rfl | repeat (first | assumption | exact xup_eq _ _ _ | rw [xup_ne _ _ (by first | decide | omega | assumption)])) rfl ?_
    refine X.pushi (v := nI 1) iX7_luck_56 ?_
    refine X.ialdN iX7_luck_57 (by first | rfl | repeat (first | assumption | exact xup_eq _ _ _ | rw [xup_ne _ _ (by first | decide | omega | assumption)])) (by omega) (by decide) ?_
    refine X.ishl iX7_luck_58 ?_
    rw [sh]
    refine X.cmge iX7_luck_59 (fun c59 => ?_) (fun c59 => ?_)
    · refine X.iload iX7_luck_208 rfl ?_
      refine X.istore iX7_luck_210 rfl rfl ?_
      refine X.iload iX7_luck_212 rfl ?_
      refine X.istore iX7_luck_214 rfl rfl ?_
      exact luck_gcd (by omega) (by omega) hp hw _ _ (by omega) (by omega) rfl
    · exact absurd (Int32.le_refl _) c59
  · intro s hs ih
    rw [show lkS nw nT nL c g (s + 1) = ((lkS nw nT nL c g s).1 + (if g ≤ lkO nw nT nL s then lkP nw c s nL else 0), (lkS nw nT nL c g s).2 + lkP nw c s nL) from rfl] at ih
    refine X.iload iX7_luck_49 rfl ?_
    refine X.pushi (v := nI 1) iX7_luck_51 ?_
    refine X.aload iX7_luck_52 rfl ?_
    refine X.getf iX7_luck_53 (by first | rfl | repeat (first | assumption | exact xup_eq _ _ _ | rw [xup_ne _ _ (by first | decide | omega | assumption)])) rfl ?_
    refine X.pushi (v := nI 1) iX7_luck_56 ?_
    refine X.ialdN iX7_luck_57 (by first | rfl | repeat (first | assumption | exact xup_eq _ _ _ | rw [xup_ne _ _ (by first | decide | omega | assumption)])) (by omega) (by decide) ?_
    refine X.ishl iX7_luck_58 ?_
    rw [sh]
    refine X.cmge iX7_luck_59 (fun c59 => ?_) (fun c59 => ?_)
    · exact absurd c59 (nI_ge hs (by omega))
    · refine X.pushi (v := nI 1) iX7_luck_62 ?_
      refine X.istore iX7_luck_63 rfl rfl ?_
      refine X.pushi (v := nI 0) iX7_luck_65 ?_
      refine X.istore iX7_luck_66 rfl rfl ?_
      refine luck_part wf hc (by omega) ?_ 0 (Nat.zero_le _)
      refine X.aload iX7_luck_157 rfl ?_
      refine X.iload iX7_luck_158 rfl ?_
      refine X.callVv iX7_luck_160 (g_goesBy (d := d + 1) wf) rfl rfl rfl (xfit _ _ _) (Nat.le_of_ble_eq_true rfl) ?_
      exact luck_more (o := lkO nw nT nL s) rfl (gb_far wf _) ih ⟨_, rfl⟩
theorem c_X7_luck {d nT nL c w : Nat} {g : Int32} {h : XH} {nw tp ro rd ud as kp la sz : Nat → Int32} {it mv : Nat → Int64} {ty pl : Int32} {fa : Bool} {un ku : Int32} {ik : Bool} (wf : WF nw nT nL) (hg : inI g (nI 0) (nI 150) = true) (hc : c ≤ 10) (hw : w ≤ 1) (hp : 0 < (lkS nw nT nL c g (2 ^ nL)).2) : MetH mX7_luck (d + 4, 0, 0) [.ref 98, .int g, .int (nI c), .int (nI w)] (mh h nw tp ro rd ud as kp la sz it mv ty pl fa un ku ik) (luckF nw nT nL c g w) (mh h nw tp ro rd ud (cp nw as 43) kp la sz it mv ty pl fa un ku ik) := by
  refine MetX.of (by decide) rfl (Nat.le_of_ble_eq_true rfl) ?_
  refine X.iload iX7_luck_0 rfl ?_
  refine X.i2l iX7_luck_1 ?_
  refine X.pushl iX7_luck_2 ?_
  refine X.pushl iX7_luck_3 ?_
  refine X.callSi iX7_luck_6 (c7_inI (d := d + 3) (a := nI 0) (b := nI 150) (by decide) (by decide)) rfl rfl (xfit _ _ _) (Nat.le_of_ble_eq_true rfl) ?_
  refine X.ifeqB iX7_luck_9 (fun c9 => ?_) (fun c9 => ?_)
  · exact absurd (c9.symm.trans hg) (by decide)
  · refine X.iload iX7_luck_12 rfl ?_
    refine X.i2l iX7_luck_13 ?_
    refine X.pushl iX7_luck_14 ?_
    refine X.pushl iX7_luck_15 ?_
    refine X.callSi iX7_luck_18 (c7_inI (d := d + 3) (a := nI 0) (b := nI 10) (by decide) (by decide)) rfl rfl (xfit _ _ _) (Nat.le_of_ble_eq_true rfl) ?_
    refine X.ifeqB iX7_luck_21 (fun c21 => ?_) (fun c21 => ?_)
    · exact absurd (c21.symm.trans (inI_of (Nat.zero_le _) hc (by decide))) (by decide)
    · refine X.iload iX7_luck_24 rfl ?_
      refine X.i2l iX7_luck_25 ?_
      refine X.pushl iX7_luck_26 ?_
      refine X.pushl iX7_luck_27 ?_
      refine X.callSi iX7_luck_28 (c7_inI (d := d + 3) (a := nI 0) (b := nI 1) (by decide) (by decide)) rfl rfl (xfit _ _ _) (Nat.le_of_ble_eq_true rfl) ?_
      refine X.ifneB iX7_luck_31 (fun c31 => ?_) (fun c31 => ?_)
      · refine X.pushi (v := nI 0) iX7_luck_36 ?_
        refine X.istore iX7_luck_37 rfl rfl ?_
        refine X.pushi (v := nI 0) iX7_luck_39 ?_
        refine X.istore iX7_luck_40 rfl rfl ?_
        refine X.aload iX7_luck_42 rfl ?_
        refine X.callVv iX7_luck_43 (g_asides (d := d + 3)) (by first | rfl | repeat (first | assumption | exact xup_eq _ _ _ | rw [xup_ne _ _ (by first | decide | omega | assumption)])) rfl rfl (xfit _ _ _) (Nat.le_of_ble_eq_true rfl) ?_
        refine X.pushi (v := nI 0) iX7_luck_46 ?_
        refine X.istore iX7_luck_47 rfl rfl ?_
        exact luck_loop wf hc hw hp 0 (Nat.zero_le _)
      · exact absurd (c31.symm.trans (inI_of (Nat.zero_le _) hw (by decide))) (by decide)
