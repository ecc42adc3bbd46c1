/-! the reference: plans and rounds -/
theorem pw_le {a n : Nat} (ha : a ≤ 6) (hn : n ≤ 4) : a ^ n ≤ 1296 := Nat.le_trans (Nat.pow_le_pow_left ha n) (Nat.pow_le_pow_right (by decide) hn)
theorem im1 (x : Int32) : x + (-1) = x - nI 1 := by rw [Int32.sub_eq_add_neg]; rfl
theorem nI_pred1 (k : Nat) : nI (k + 1) - nI 1 = nI k := nI_pred k
/-- the ladders k - 1, k - 2 .. 0 lean at the digits of left -/
def dig (nT : Nat) : Nat → (Nat → Int32) → Nat → (Nat → Int32)
  | 0, f, _ => f
  | k + 1, f, left => dig nT k (upd f (27 + 4 * k + 3) (nI (left % nT))) (left / nT)
theorem wf_lean {nw : Nat → Int32} {nT nL l t : Nat} (h : WF nw nT nL) (ht : t < nT) : WF (upd nw (27 + 4 * l + 3) (nI t)) nT nL := by
  obtain ⟨h1, h2, h3, h4, h5⟩ := h
  refine ⟨by rw [upd_ne _ _ (by omega)]; exact h1, by rw [upd_ne _ _ (by omega)]; exact h2, h3, h4, fun j hj => ?_⟩
  by_cases e : j = l
  · subst e
    right
    exact ⟨t, ht, by rw [show 30 + 4 * j = 27 + 4 * j + 3 by omega, upd_eq]⟩
  · rw [upd_ne _ _ (by omega)]
    exact h5 j hj
theorem dig_wf {nT nL : Nat} (h0 : 0 < nT) : ∀ k (f : Nat → Int32) left, WF f nT nL → WF (dig nT k f left) nT nL
  | 0, f, _, h => h
  | k + 1, f, left, h => dig_wf h0 k _ _ (wf_lean h (Nat.mod_lt _ h0))
theorem dig_far {nT : Nat} : ∀ k (f : Nat → Int32) left, k ≤ 4 → Far (dig nT k f left) f
  | 0, f, _, _ => Far.rf _
  | k + 1, f, left, hk => (dig_far k _ _ (by omega)).trans ((Far.rf f).upd (by omega) _)
theorem plan_digits {d nT nL : Nat} {L1 L2 L3 L4 L5 : Option Value} {x6 : Int32} {Q : Option Value → XH → Prop} (h0 : 0 < nT) : ∀ k left {h : XH} {nw tp ro rd ud as kp la sz : Nat → Int32} {it mv : Nat → Int64} {ty pl : Int32} {fa : Bool} {un ku : Int32} {ik : Bool}, k ≤ nL → left < 2 ^ 31 → WF nw nT nL → X xT mX7_plan (xR (d + 4, 0, 0)) (0, 0) 143 [some (.ref 98), L1, L2, L3, L4, L5, some (.int x6), none, none] [] (mh h (dig nT k nw left) tp ro rd ud as kp la sz it mv ty pl fa un ku ik) Q → X xT mX7_plan (xR (d + 4, 0, 0)) (0, 0) 98 [some (.ref 98), L1, L2, L3, L4, L5, some (.int x6), some (.int (nI left)), some (.int (nI k - nI 1))] [] (mh h nw tp ro rd ud as kp la sz it mv ty pl fa un ku ik) Q := by
  intro k
  induction k with
  | zero =>
    intro left h nw tp ro rd ud as kp la sz it mv ty pl fa un ku ik hk hl wf K
    refine X.iload iX7_plan_98 rfl ?_
    refine X.iflt iX7_plan_100 (fun c100 => ?_) (fun c100 => ?_)
    · exact X.unset 7 rfl (X.unset 8 rfl K)
    · exact absurd (by decide) c100
  | succ k ih =>
    intro left h nw tp ro rd ud as kp la sz it mv ty pl fa un ku ik hk hl wf K
    have hT := wf.2.2.1
    have hL := wf.2.2.2.1
    have w2 := wf_lean wf (l := k) (Nat.mod_lt left h0)
    rw [nI_pred1]
    refine X.iload iX7_plan_98 rfl ?_
    refine X.iflt iX7_plan_100 (fun c100 => ?_) (fun c100 => ?_)
    · exact absurd c100 (nI_pos (by omega))
    · refine X.aload iX7_plan_103 rfl ?_
      refine X.getf iX7_plan_104 (by first | rfl | repeat (first | assumption | exact xup_eq _ _ _ | rw [xup_ne _ _ (by first | decide | omega | assumption)])) rfl ?_
      refine X.pushi (v := nI 27) iX7_plan_107 ?_
      refine X.pushi (v := nI 4) iX7_plan_109 ?_
      refine X.iload iX7_plan_110 rfl ?_
      refine X.imul iX7_plan_112 ?_
      refine X.iadd iX7_plan_113 ?_
      refine X.pushi (v := nI 3) iX7_plan_114 ?_
      refine X.iadd iX7_plan_115 ?_
      refine X.iload iX7_plan_116 rfl ?_
      refine X.aload iX7_plan_118 rfl ?_
      refine X.getf iX7_plan_119 (by first | rfl | repeat (first | assumption | exact xup_eq _ _ _ | rw [xup_ne _ _ (by first | decide | omega | assumption)])) rfl ?_
      refine X.pushi (v := nI 0) iX7_plan_122 ?_
      refine X.ialdN iX7_plan_123 (by first | rfl | repeat (first | assumption | exact xup_eq _ _ _ | rw [xup_ne _ _ (by first | decide | omega | assumption)])) (by omega) (by decide) ?_
      rw [show nw 0 = nI nT from wf.1]
      refine X.irem iX7_plan_124 (nI_ne0 h0 (by omega)) ?_
      rw [pk_rem hl h0 (by omega)]
      refine X.iastE iX7_plan_125 rfl (ixL k 3) (by omega) (by decide) ?_
      rw [mh99]
      refine X.iload iX7_plan_126 rfl ?_
      refine X.aload iX7_plan_128 rfl ?_
      refine X.getf iX7_plan_129 rfl rfl ?_
      refine X.pushi (v := nI 0) iX7_plan_132 ?_
      refine X.ialdN iX7_plan_133 rfl (by omega) (by decide) ?_
      rw [w2.1]
      refine X.idiv iX7_plan_134 (nI_ne0 h0 (by omega)) ?_
      rw [pk_div hl h0 (by omega)]
      refine X.istore iX7_plan_135 rfl rfl ?_
      refine X.iinc iX7_plan_137 rfl rfl rfl ?_
      refine X.goto iX7_plan_140 ?_
      rw [im1]
      exact ih (left / nT) (by omega) (Nat.lt_of_le_of_lt (Nat.div_le_self _ _) hl) w2 K
/-- the first of the ways below w that is worth most, and what it is worth -/
def bm (own : Nat → Int32) : Nat → Nat × Int32
  | 0 => (0, -1)
  | w + 1 => if (bm own w).2 < own w then (w, own w) else bm own w
theorem bm_le (own : Nat → Int32) : ∀ w, (bm own w).1 ≤ w
  | 0 => Nat.le_refl _
  | w + 1 => by
    unfold bm
    split
    · exact Nat.le_succ w
    · exact Nat.le_succ_of_le (bm_le own w)
def plOwn (nw : Nat → Int32) (nT nL n w : Nat) : Int32 := gbN (dig nT nL nw w) nT nL n 3 - nw 3
def planF (nw : Nat → Int32) (nT nL n : Nat) (lad : Int32) : Int32 :=
  if lad = -4 then (bm (plOwn nw nT nL n) (nT ^ nL)).2 else nI ((bm (plOwn nw nT nL n) (nT ^ nL)).1 / nT ^ (nL - 1 - lad.toNatClampNeg) % nT)
set_option maxHeartbeats 1000000 in
theorem plan_more {d w : Nat} {L1 L2 L3 : Option Value} {own : Int32} {bst : Nat × Int32} {g : Nat → Int32} {Q : Option Value → XH → Prop} {h : XH} {nw tp ro rd ud as kp la sz : Nat → Int32} {it mv : Nat → Int64} {ty pl : Int32} {fa : Bool} {un ku : Int32} {ik : Bool} (ih : X xT mX7_plan (xR (d + 4, 0, 0)) (0, 0) 78 [some (.ref 98), L1, L2, L3, some (.int (nI (if bst.2 < own then (w, own) else bst).1)), some (.int (if bst.2 < own then (w, own) else bst).2), some (.int (nI (w + 1))), none, none] [] (mh h nw tp ro rd ud (cp nw as 43) kp la sz it mv ty pl fa un ku ik) Q) (far : Far g nw) (hL3 : ∃ x, L3 = some (.int x)) : X xT mX7_plan (xR (d + 4, 0, 0)) (0, 0) 161 [some (.ref 98), L1, L2, L3, some (.int (nI bst.1)), some (.int bst.2), some (.int (nI w)), none, none] [.int own] (mh h g tp ro rd ud (cp nw as 43) kp la sz it mv ty pl fa un ku ik) Q := by
  obtain ⟨x3, rfl⟩ := hL3
  refine X.istore iX7_plan_161 rfl rfl ?_
  refine X.iload iX7_plan_163 rfl ?_
  refine X.iload iX7_plan_165 rfl ?_
  refine X.cmle iX7_plan_167 (fun c167 => ?_) (fun c167 => ?_)
  · refine X.iload iX7_plan_175 rfl ?_
    refine X.istore iX7_plan_177 rfl rfl ?_
    refine X.iload iX7_plan_179 rfl ?_
    refine X.iload iX7_plan_181 rfl ?_
    refine X.cmle iX7_plan_183 (fun c183 => ?_) (fun c183 => ?_)
    · refine X.iload iX7_plan_191 rfl ?_
      refine X.istore iX7_plan_193 rfl rfl ?_
      refine X.aload iX7_plan_195 rfl ?_
      refine X.callVv iX7_plan_196 (g_backs (d := d + 3)) (by first | rfl | repeat (first | assumption | exact xup_eq _ _ _ | rw [xup_ne _ _ (by first | decide | omega | assumption)])) rfl rfl (xfit _ _ _) (Nat.le_of_ble_eq_true rfl) ?_
      rw [cp_back far]
      refine X.iinc iX7_plan_199 rfl rfl rfl ?_
      refine X.goto iX7_plan_202 ?_
      rw [nI_1]
      first
      | (rw [if_neg (Int32.not_lt.mpr c167)] at ih; first | exact X.unset 8 rfl ih | exact absurd c167 c183)
      | (rw [if_pos (Int32.not_le.mp c167)] at ih; first | exact X.unset 8 rfl ih | exact absurd c183 c167)
    · refine X.iload iX7_plan_186 rfl ?_
      refine X.goto iX7_plan_188 ?_
      refine X.istore iX7_plan_193 rfl rfl ?_
      refine X.aload iX7_plan_195 rfl ?_
      refine X.callVv iX7_plan_196 (g_backs (d := d + 3)) (by first | rfl | repeat (first | assumption | exact xup_eq _ _ _ | rw [xup_ne _ _ (by first | decide | omega | assumption)])) rfl rfl (xfit _ _ _) (Nat.le_of_ble_eq_true rfl) ?_
      rw [cp_back far]
      refine X.iinc iX7_plan_199 rfl rfl rfl ?_
      refine X.goto iX7_plan_202 ?_
      rw [nI_1]
      first
      | (rw [if_neg (Int32.not_lt.mpr c167)] at ih; first | exact X.unset 8 rfl ih | exact absurd c167 c183)
      | (rw [if_pos (Int32.not_le.mp c167)] at ih; first | exact X.unset 8 rfl ih | exact absurd c183 c167)
  · refine X.iload iX7_plan_170 rfl ?_
    refine X.goto iX7_plan_172 ?_
    refine X.istore iX7_plan_177 rfl rfl ?_
    refine X.iload iX7_plan_179 rfl ?_
    refine X.iload iX7_plan_181 rfl ?_
    refine X.cmle iX7_plan_183 (fun c183 => ?_) (fun c183 => ?_)
    · refine X.iload iX7_plan_191 rfl ?_
      refine X.istore iX7_plan_193 rfl rfl ?_
      refine X.aload iX7_plan_195 rfl ?_
      refine X.callVv iX7_plan_196 (g_backs (d := d + 3)) (by first | rfl | repeat (first | assumption | exact xup_eq _ _ _ | rw [xup_ne _ _ (by first | decide | omega | assumption)])) rfl rfl (xfit _ _ _) (Nat.le_of_ble_eq_true rfl) ?_
      rw [cp_back far]
      refine X.iinc iX7_plan_199 rfl rfl rfl ?_
      refine X.goto iX7_plan_202 ?_
      rw [nI_1]
      first
      | (rw [if_neg (Int32.not_lt.mpr c167)] at ih; first | exact X.unset 8 rfl ih | exact absurd c167 c183)
      | (rw [if_pos (Int32.not_le.mp c167)] at ih; first | exact X.unset 8 rfl ih | exact absurd c183 c167)
    · refine X.iload iX7_plan_186 rfl ?_
      refine X.goto iX7_plan_188 ?_
      refine X.istore iX7_plan_193 rfl rfl ?_
      refine X.aload iX7_plan_195 rfl ?_
      refine X.callVv iX7_plan_196 (g_backs (d := d + 3)) (by first | rfl | repeat (first | assumption | exact xup_eq _ _ _ | rw [xup_ne _ _ (by first | decide | omega | assumption)])) rfl rfl (xfit _ _ _) (Nat.le_of_ble_eq_true rfl) ?_
      rw [cp_back far]
      refine X.iinc iX7_plan_199 rfl rfl rfl ?_
      refine X.goto iX7_plan_202 ?_
      rw [nI_1]
      first
      | (rw [if_neg (Int32.not_lt.mpr c167)] at ih; first | exact X.unset 8 rfl ih | exact absurd c167 c183)
      | (rw [if_pos (Int32.not_le.mp c167)] at ih; first | exact X.unset 8 rfl ih | exact absurd c183 c167)
set_option maxHeartbeats 1000000 in
theorem plan_loop {d nT nL n : Nat} {lad : Int32} {h : XH} {nw tp ro rd ud as kp la sz : Nat → Int32} {it mv : Nat → Int64} {ty pl : Int32} {fa : Bool} {un ku : Int32} {ik : Bool} (wf : WF nw nT nL) (h0 : 0 < nT) (hn : n ≤ 14) (hl : lad = -4 ∨ ∃ l, l < nL ∧ lad = nI l) : ∀ w, w ≤ nT ^ nL → X xT mX7_plan (xR (d + 4, 0, 0)) (0, 0) 78 [some (.ref 98), some (.int (nI n)), some (.int lad), some (.int (nI (nT ^ nL))), some (.int (nI (bm (plOwn nw nT nL n) w).1)), some (.int (bm (plOwn nw nT nL n) w).2), some (.int (nI w)), none, none] [] (mh h nw tp ro rd ud (cp nw as 43) kp la sz it mv ty pl fa un ku ik) (fun v h' => v = some (.int (planF nw nT nL n lad)) ∧ h' = (mh h nw tp ro rd ud (cp nw as 43) kp la sz it mv ty pl fa un ku ik)) := by
  have hT := wf.2.2.1
  have hL := wf.2.2.2.1
  have hw := pw_le hT hL
  refine xloop _ ?_ ?_
  · have hb := bm_le (plOwn nw nT nL n) (nT ^ nL)
    refine X.iload iX7_plan_78 rfl ?_
    refine X.iload iX7_plan_80 rfl ?_
    refine X.cmge iX7_plan_81 (fun c81 => ?_) (fun c81 => ?_)
    · refine X.iload iX7_plan_205 rfl ?_
      refine X.pushi iX7_plan_206 ?_
      refine X.cmne iX7_plan_208 (fun c208 => ?_) (fun c208 => ?_)
      · obtain ⟨l, hll, rfl⟩ := hl.resolve_left c208
        have hp : 0 < nT ^ (nL - 1 - l) := Nat.pow_pos h0
        have hp2 : nT ^ (nL - 1 - l) ≤ 1296 := pw_le hT (by omega)
        have e : planF nw nT nL n (nI l) = nI ((bm (plOwn nw nT nL n) (nT ^ nL)).1 / nT ^ (nL - 1 - l) % nT) := by rw [planF, if_neg c208, nI_clamp (by omega)]
        rw [e]
        refine X.iload iX7_plan_216 rfl ?_
        refine X.aload iX7_plan_218 rfl ?_
        refine X.getf iX7_plan_219 (by first | rfl | repeat (first | assumption | exact xup_eq _ _ _ | rw [xup_ne _ _ (by first | decide | omega | assumption)])) rfl ?_
        refine X.pushi (v := nI 0) iX7_plan_222 ?_
        refine X.ialdN iX7_plan_223 (by first | rfl | repeat (first | assumption | exact xup_eq _ _ _ | rw [xup_ne _ _ (by first | decide | omega | assumption)])) (by omega) (by decide) ?_
        refine X.aload iX7_plan_224 rfl ?_
        refine X.getf iX7_plan_225 (by first | rfl | repeat (first | assumption | exact xup_eq _ _ _ | rw [xup_ne _ _ (by first | decide | omega | assumption)])) rfl ?_
        refine X.pushi (v := nI 1) iX7_plan_228 ?_
        refine X.ialdN iX7_plan_229 (by first | rfl | repeat (first | assumption | exact xup_eq _ _ _ | rw [xup_ne _ _ (by first | decide | omega | assumption)])) (by omega) (by decide) ?_
        refine X.pushi (v := nI 1) iX7_plan_230 ?_
        refine X.isub iX7_plan_231 ?_
        refine X.iload iX7_plan_232 rfl ?_
        refine X.isub iX7_plan_233 ?_
        rw [show nw 0 = nI nT from wf.1, show nw 1 = nI nL from wf.2.1, pk_sub (by omega), pk_sub (by omega)]
        refine X.callSi iX7_plan_234 (c_X7_power (d + 3) _ nT (nL - 1 - l) (by omega)) rfl rfl (xfit _ _ _) (Nat.le_of_ble_eq_true rfl) ?_
        refine X.idiv iX7_plan_237 (nI_ne0 hp (by omega)) ?_
        rw [pk_div (by omega) hp (by omega)]
        refine X.aload iX7_plan_238 rfl ?_
        refine X.getf iX7_plan_239 rfl rfl ?_
        refine X.pushi (v := nI 0) iX7_plan_242 ?_
        refine X.ialdN iX7_plan_243 rfl (by omega) (by decide) ?_
        rw [show nw 0 = nI nT from wf.1]
        refine X.irem iX7_plan_244 (nI_ne0 h0 (by omega)) ?_
        rw [pk_rem (Nat.lt_of_le_of_lt (Nat.div_le_self _ _) (by omega)) h0 (by omega)]
        exact X.iret iX7_plan_245 ⟨rfl, rfl⟩
      · refine X.iload iX7_plan_211 rfl ?_
        refine X.goto iX7_plan_213 ?_
        exact X.iret iX7_plan_245 ⟨(by rw [planF, if_pos c208]), rfl⟩
    · exact absurd (Int32.le_refl _) c81
  · intro w hwk ih
    have w2 := dig_wf (nL := nL) h0 nL nw w wf
    have far := (gbN_far w2 n).trans (dig_far nL nw w hL)
    have eb : bm (plOwn nw nT nL n) (w + 1) = if (bm (plOwn nw nT nL n) w).2 < plOwn nw nT nL n w then (w, plOwn nw nT nL n w) else bm (plOwn nw nT nL n) w := rfl
    rw [eb] at ih
    refine X.iload iX7_plan_78 rfl ?_
    refine X.iload iX7_plan_80 rfl ?_
    refine X.cmge iX7_plan_81 (fun c81 => ?_) (fun c81 => ?_)
    · exact absurd c81 (nI_ge hwk (by omega))
    · refine X.iload iX7_plan_84 rfl ?_
      refine X.istore iX7_plan_86 rfl rfl ?_
      refine X.aload iX7_plan_88 rfl ?_
      refine X.getf iX7_plan_89 (by first | rfl | repeat (first | assumption | exact xup_eq _ _ _ | rw [xup_ne _ _ (by first | decide | omega | assumption)])) rfl ?_
      refine X.pushi (v := nI 1) iX7_plan_92 ?_
      refine X.ialdN iX7_plan_93 (by first | rfl | repeat (first | assumption | exact xup_eq _ _ _ | rw [xup_ne _ _ (by first | decide | omega | assumption)])) (by omega) (by decide) ?_
      refine X.pushi (v := nI 1) iX7_plan_94 ?_
      refine X.isub iX7_plan_95 ?_
      rw [show nw 1 = nI nL from wf.2.1]
      refine X.istore iX7_plan_96 rfl rfl ?_
      refine plan_digits h0 nL w (Nat.le_refl _) (by omega) wf ?_
      refine X.aload iX7_plan_143 rfl ?_
      refine X.iload iX7_plan_144 rfl ?_
      refine X.callVv iX7_plan_145 (g_goesOn (d := d) w2 (by omega)) rfl rfl rfl (xfit _ _ _) (Nat.le_of_ble_eq_true rfl) ?_
      refine X.aload iX7_plan_148 rfl ?_
      refine X.getf iX7_plan_149 rfl rfl ?_
      refine X.pushi (v := nI 3) iX7_plan_152 ?_
      refine X.ialdN iX7_plan_153 rfl (by omega) (by decide) ?_
      refine X.aload iX7_plan_154 rfl ?_
      refine X.getf iX7_plan_155 rfl rfl ?_
      refine X.pushi (v := nI 3) iX7_plan_158 ?_
      refine X.ialdN iX7_plan_159 rfl (by omega) (by decide) ?_
      refine X.isub iX7_plan_160 ?_
      refine (show X xT mX7_plan (xR (d + 4, 0, 0)) (0, 0) 161 [some (.ref 98), some (.int (nI n)), some (.int lad), some (.int (nI (nT ^ nL))), some (.int (nI (bm (plOwn nw nT nL n) w).1)), some (.int (bm (plOwn nw nT nL n) w).2), some (.int (nI w)), none, none] [.int (plOwn nw nT nL n w)] (mh h (gbN (dig nT nL nw w) nT nL n) tp ro rd ud (cp nw as 43) kp la sz it mv ty pl fa un ku ik) _ from ?_)
      exact plan_more ih far ⟨_, rfl⟩
