/-! the reference: trees, ladders, what is told of them -/
def inI (x a b : Int32) : Bool := decide (a ≤ x ∧ x ≤ b)
theorem c7_inI {d : Nat} {h : XH} {x a b : Int32} {a' b' : Int64} (ea : a' = a.toInt64) (eb : b' = b.toInt64) : MetI mX7_in (d, 0, 0) [.long x.toInt64, .long a', .long b'] h (bI (inI x a b)) := c7_in d h x a b ea eb
theorem inI_nat {x : Int32} {a b : Nat} (ha : a < 2 ^ 31) (hb : b < 2 ^ 31) (h : inI x (nI a) (nI b) = true) : ∃ n, a ≤ n ∧ n ≤ b ∧ x = nI n := by
  have h1 := of_decide_eq_true h
  have h3 : (nI a).toInt ≤ x.toInt := Int32.le_iff_toInt_le.mp h1.1
  have h2 : x.toInt ≤ (nI b).toInt := Int32.le_iff_toInt_le.mp h1.2
  rw [nI_toInt hb] at h2
  rw [nI_toInt ha] at h3
  refine ⟨x.toInt.toNat, by omega, by omega, Int32.toInt_inj.mp ?_⟩
  rw [nI_toInt (by omega)]
  omega
theorem inI_of {n a b : Nat} (h1 : a ≤ n) (h2 : n ≤ b) (hb : b < 2 ^ 31) : inI (nI n) (nI a) (nI b) = true := decide_eq_true ⟨nI_le h1 (by omega), nI_le h2 hb⟩
theorem below {x y : Int32} {n : Nat} (hn : n ≤ 6) (hy : y = nI n) (h : decide (nI 0 ≤ x ∧ x ≤ y - nI 1) = true) : ∃ t, t < n ∧ x = nI t := by
  subst hy
  match n, hn with
  | 0, _ =>
    have h1 := of_decide_eq_true h
    have h3 : (0 : Int) ≤ x.toInt := Int32.le_iff_toInt_le.mp h1.1
    have h2 : x.toInt ≤ (-1 : Int) := Int32.le_iff_toInt_le.mp h1.2
    omega
  | n + 1, hn =>
    rw [pk_sub (by omega)] at h
    obtain ⟨t, -, h2, h3⟩ := inI_nat (by decide) (by omega) h
    exact ⟨t, by omega, h3⟩
theorem below_of {t n : Nat} (hn : n ≤ 6) (ht : t < n) : decide (nI 0 ≤ nI t ∧ nI t ≤ nI n - nI 1) = true := by
  rw [pk_sub (by omega)]
  exact decide_eq_true ⟨nI_le (by omega) (by omega), nI_le (by omega) (by omega)⟩
theorem isT_nat {nw : Nat → Int32} {nT nL : Nat} (wf : WF nw nT nL) {x : Int32} (h : isT nw x = true) : ∃ t, t < nT ∧ x = nI t := below wf.2.2.1 wf.1 h
theorem isL_nat {nw : Nat → Int32} {nT nL : Nat} (wf : WF nw nT nL) {x : Int32} (h : isL nw x = true) : ∃ t, t < nL ∧ x = nI t := below (by have := wf.2.2.2.1; omega) wf.2.1 h
theorem isT_of {nw : Nat → Int32} {nT nL : Nat} (wf : WF nw nT nL) {t : Nat} (h : t < nT) : isT nw (nI t) = true := by rw [isT, wf.1]; exact below_of wf.2.2.1 h
theorem isL_of {nw : Nat → Int32} {nT nL : Nat} (wf : WF nw nT nL) {t : Nat} (h : t < nL) : isL nw (nI t) = true := by rw [isL, wf.2.1]; exact below_of (by have := wf.2.2.2.1; omega) h
/-! rows copied -/
def cp {α : Type} (f g : Nat → α) (n : Nat) : Nat → α := fun i => if i < n then f i else g i
theorem cp_0 {α : Type} (f g : Nat → α) : cp f g 0 = g := by funext i; simp [cp]
theorem cp_s (f g : Nat → Int32) (k : Nat) : upd (cp f g k) k (f k) = cp f g (k + 1) := by
  funext i
  unfold upd cp
  by_cases hi : i = k
  · subst hi; simp
  · rw [if_neg hi]
    by_cases h2 : i < k
    · rw [if_pos h2, if_pos (by omega)]
    · rw [if_neg h2, if_neg (by omega)]
theorem c_X7_asides {d : Nat} {h : XH} {nw as : Nat → Int32} {ty pl : Int32} {fa : Bool} {un ku : Int32} {ik : Bool} (h98 : h 98 = some (.inr (7, mfs ty pl fa un ku ik))) (h99 : h 99 = some (IA 43 nw)) (h104 : h 104 = some (IA 43 as)) : MetV mX7_asides (d, 0, 0) [.ref 98] h (xup h 104 (IA 43 (cp nw as 43))) := by
  have P : ∀ k, k ≤ 43 → X xT mX7_asides (xR (d, 0, 0)) (0, 0) 2 [some (.ref 98), some (.int (nI k))] [] (xup h 104 (IA 43 (cp nw as k))) (fun v h' => v = none ∧ h' = xup h 104 (IA 43 (cp nw as 43))) := by
    refine xloop 43 ?_ ?_
    · refine X.iload iX7_asides_2 rfl ?_
      refine X.pushi (v := nI 43) iX7_asides_3 ?_
      refine X.cmge iX7_asides_5 (fun c5 => ?_) (fun c5 => ?_)
      · exact X.vret iX7_asides_26 ⟨rfl, rfl⟩
      · exact absurd (Int32.le_refl _) c5
    · intro k hk ih
      refine X.iload iX7_asides_2 rfl ?_
      refine X.pushi (v := nI 43) iX7_asides_3 ?_
      refine X.cmge iX7_asides_5 (fun c5 => ?_) (fun c5 => ?_)
      · exact absurd c5 (nI_ge hk (by decide))
      · refine X.aload iX7_asides_8 rfl ?_
        refine X.getf iX7_asides_9 (by repeat (first | assumption | exact xup_eq _ _ _ | rw [xup_ne _ _ (by first | decide | omega | assumption)])) rfl ?_
        refine X.iload iX7_asides_12 rfl ?_
        refine X.aload iX7_asides_13 rfl ?_
        refine X.getf iX7_asides_14 (by repeat (first | assumption | exact xup_eq _ _ _ | rw [xup_ne _ _ (by first | decide | omega | assumption)])) rfl ?_
        refine X.iload iX7_asides_17 rfl ?_
        refine X.ialdN iX7_asides_18 (by repeat (first | assumption | exact xup_eq _ _ _ | rw [xup_ne _ _ (by first | decide | omega | assumption)])) (by omega) (by decide) ?_
        refine X.iastN iX7_asides_19 (by repeat (first | assumption | exact xup_eq _ _ _ | rw [xup_ne _ _ (by first | decide | omega | assumption)])) (by omega) (by decide) ?_
        refine X.iinc iX7_asides_20 rfl rfl rfl ?_
        refine X.goto iX7_asides_23 ?_
        rw [nI_1]
        exact X.heap (by rw [xup_xup, cp_s]) ih
  have p0 := P 0 (Nat.zero_le _)
  rw [cp_0, xup_self _ h104] at p0
  refine MetX.of (by decide) rfl (Nat.le_of_ble_eq_true rfl) ?_
  refine X.pushi (v := nI 0) iX7_asides_0 ?_
  refine X.istore iX7_asides_1 rfl rfl ?_
  exact p0
theorem c_X7_backs {d : Nat} {h : XH} {nw as : Nat → Int32} {ty pl : Int32} {fa : Bool} {un ku : Int32} {ik : Bool} (h98 : h 98 = some (.inr (7, mfs ty pl fa un ku ik))) (h99 : h 99 = some (IA 43 nw)) (h104 : h 104 = some (IA 43 as)) : MetV mX7_backs (d, 0, 0) [.ref 98] h (xup h 99 (IA 43 (cp as nw 43))) := by
  have P : ∀ k, k ≤ 43 → X xT mX7_backs (xR (d, 0, 0)) (0, 0) 2 [some (.ref 98), some (.int (nI k))] [] (xup h 99 (IA 43 (cp as nw k))) (fun v h' => v = none ∧ h' = xup h 99 (IA 43 (cp as nw 43))) := by
    refine xloop 43 ?_ ?_
    · refine X.iload iX7_backs_2 rfl ?_
      refine X.pushi (v := nI 43) iX7_backs_3 ?_
      refine X.cmge iX7_backs_5 (fun c5 => ?_) (fun c5 => ?_)
      · exact X.vret iX7_backs_26 ⟨rfl, rfl⟩
      · exact absurd (Int32.le_refl _) c5
    · intro k hk ih
      refine X.iload iX7_backs_2 rfl ?_
      refine X.pushi (v := nI 43) iX7_backs_3 ?_
      refine X.cmge iX7_backs_5 (fun c5 => ?_) (fun c5 => ?_)
      · exact absurd c5 (nI_ge hk (by decide))
      · refine X.aload iX7_backs_8 rfl ?_
        refine X.getf iX7_backs_9 (by repeat (first | assumption | exact xup_eq _ _ _ | rw [xup_ne _ _ (by first | decide | omega | assumption)])) rfl ?_
        refine X.iload iX7_backs_12 rfl ?_
        refine X.aload iX7_backs_13 rfl ?_
        refine X.getf iX7_backs_14 (by repeat (first | assumption | exact xup_eq _ _ _ | rw [xup_ne _ _ (by first | decide | omega | assumption)])) rfl ?_
        refine X.iload iX7_backs_17 rfl ?_
        refine X.ialdN iX7_backs_18 (by repeat (first | assumption | exact xup_eq _ _ _ | rw [xup_ne _ _ (by first | decide | omega | assumption)])) (by omega) (by decide) ?_
        refine X.iastN iX7_backs_19 (by repeat (first | assumption | exact xup_eq _ _ _ | rw [xup_ne _ _ (by first | decide | omega | assumption)])) (by omega) (by decide) ?_
        refine X.iinc iX7_backs_20 rfl rfl rfl ?_
        refine X.goto iX7_backs_23 ?_
        rw [nI_1]
        exact X.heap (by rw [xup_xup, cp_s]) ih
  have p0 := P 0 (Nat.zero_le _)
  rw [cp_0, xup_self _ h99] at p0
  refine MetX.of (by decide) rfl (Nat.le_of_ble_eq_true rfl) ?_
  refine X.pushi (v := nI 0) iX7_backs_0 ?_
  refine X.istore iX7_backs_1 rfl rfl ?_
  exact p0
def tcF (nw : Nat → Int32) (nT : Nat) (hi fr ri : Int32) : Nat → Int32 :=
  upd (upd (upd (upd nw (9 + 3 * nT) hi) (9 + 3 * nT + 1) fr) (9 + 3 * nT + 2) ri) 0 (nI (nT + 1))
theorem c_X7_treeComes {d : Nat} {h : XH} {nw : Nat → Int32} {nT : Nat} {ty pl : Int32} {fa : Bool} {un ku : Int32} {ik : Bool} {hi fr ri : Int32} (h98 : h 98 = some (.inr (7, mfs ty pl fa un ku ik))) (h99 : h 99 = some (IA 43 nw)) (h0 : nw 0 = nI nT) (hT : nT < 6) : MetV mX7_treeComes (d, 0, 0) [.ref 98, .int hi, .int fr, .int ri] h (xup (xup h 99 (IA 43 (tcF nw nT hi fr ri))) 98 (.inr (7, mfs ty pl fa (nI 0) ku ik))) := by
  have e0 : nI 9 + nI 3 * nw 0 = nI (9 + 3 * nT) := by rw [h0, pk_mul, nI_add]
  refine MetX.of (by decide) rfl (Nat.le_of_ble_eq_true rfl) ?_
  refine X.pushi (v := nI 9) iX7_treeComes_0 ?_
  refine X.pushi (v := nI 3) iX7_treeComes_2 ?_
  refine X.aload iX7_treeComes_3 rfl ?_
  refine X.getf iX7_treeComes_4 (by repeat (first | assumption | exact xup_eq _ _ _ | rw [xup_ne _ _ (by first | decide | omega | assumption)])) rfl ?_
  refine X.pushi (v := nI 0) iX7_treeComes_7 ?_
  refine X.ialdN iX7_treeComes_8 (by repeat (first | assumption | exact xup_eq _ _ _ | rw [xup_ne _ _ (by first | decide | omega | assumption)])) (by omega) (by decide) ?_
  refine X.imul iX7_treeComes_9 ?_
  refine X.iadd iX7_treeComes_10 ?_
  rw [e0]
  refine X.istore iX7_treeComes_11 rfl rfl ?_
  refine X.aload iX7_treeComes_13 rfl ?_
  refine X.getf iX7_treeComes_14 (by repeat (first | assumption | exact xup_eq _ _ _ | rw [xup_ne _ _ (by first | decide | omega | assumption)])) rfl ?_
  refine X.iload iX7_treeComes_17 rfl ?_
  refine X.iload iX7_treeComes_19 rfl ?_
  refine X.iastN iX7_treeComes_20 (by repeat (first | assumption | exact xup_eq _ _ _ | rw [xup_ne _ _ (by first | decide | omega | assumption)])) (by omega) (by decide) ?_
  refine X.aload iX7_treeComes_21 rfl ?_
  refine X.getf iX7_treeComes_22 (by repeat (first | assumption | exact xup_eq _ _ _ | rw [xup_ne _ _ (by first | decide | omega | assumption)])) rfl ?_
  refine X.iload iX7_treeComes_25 rfl ?_
  refine X.pushi (v := nI 1) iX7_treeComes_27 ?_
  refine X.iadd iX7_treeComes_28 ?_
  refine X.iload iX7_treeComes_29 rfl ?_
  refine X.iastE iX7_treeComes_30 (by repeat (first | assumption | exact xup_eq _ _ _ | rw [xup_ne _ _ (by first | decide | omega | assumption)])) (nI_add _ 1) (by omega) (by decide) ?_
  refine X.aload iX7_treeComes_31 rfl ?_
  refine X.getf iX7_treeComes_32 (by repeat (first | assumption | exact xup_eq _ _ _ | rw [xup_ne _ _ (by first | decide | omega | assumption)])) rfl ?_
  refine X.iload iX7_treeComes_35 rfl ?_
  refine X.pushi (v := nI 2) iX7_treeComes_37 ?_
  refine X.iadd iX7_treeComes_38 ?_
  refine X.iload iX7_treeComes_39 rfl ?_
  refine X.iastE iX7_treeComes_40 (by repeat (first | assumption | exact xup_eq _ _ _ | rw [xup_ne _ _ (by first | decide | omega | assumption)])) (nI_add _ 2) (by omega) (by decide) ?_
  refine X.aload iX7_treeComes_41 rfl ?_
  refine X.getf iX7_treeComes_42 (by repeat (first | assumption | exact xup_eq _ _ _ | rw [xup_ne _ _ (by first | decide | omega | assumption)])) rfl ?_
  refine X.pushi (v := nI 0) iX7_treeComes_45 ?_
  refine X.dup2 iX7_treeComes_46 ?_
  refine X.ialdN iX7_treeComes_47 (by repeat (first | assumption | exact xup_eq _ _ _ | rw [xup_ne _ _ (by first | decide | omega | assumption)])) (by omega) (by decide) ?_
  refine X.pushi (v := nI 1) iX7_treeComes_48 ?_
  refine X.iadd iX7_treeComes_49 ?_
  refine X.iastN iX7_treeComes_50 (by repeat (first | assumption | exact xup_eq _ _ _ | rw [xup_ne _ _ (by first | decide | omega | assumption)])) (by omega) (by decide) ?_
  refine X.aload iX7_treeComes_51 rfl ?_
  refine X.pushi (v := nI 0) iX7_treeComes_52 ?_
  refine X.puti iX7_treeComes_53 (by repeat (first | assumption | exact xup_eq _ _ _ | rw [xup_ne _ _ (by first | decide | omega | assumption)])) (Nat.le_of_ble_eq_true rfl) ?_
  refine X.vret iX7_treeComes_56 ⟨rfl, ?_⟩
  simp only [xup_xup]
  have e1 : upd (upd (upd nw (9 + 3 * nT) hi) (9 + 3 * nT + 1) fr) (9 + 3 * nT + 2) ri 0 + nI 1 = nI (nT + 1) := by rw [upd_ne _ _ (by omega), upd_ne _ _ (by omega), upd_ne _ _ (by omega), h0, nI_add]
  rw [e1]
  rfl
def lcF (nw : Nat → Int32) (nL : Nat) (ki le pr tr : Int32) : Nat → Int32 :=
  upd (upd (upd (upd (upd nw (27 + 4 * nL) ki) (27 + 4 * nL + 1) le) (27 + 4 * nL + 2) pr) (27 + 4 * nL + 3) tr) 1 (nI (nL + 1))
theorem c_X7_ladderComes {d : Nat} {h : XH} {nw : Nat → Int32} {nL : Nat} {ty pl : Int32} {fa : Bool} {un ku : Int32} {ik : Bool} {ki le pr tr : Int32} (h98 : h 98 = some (.inr (7, mfs ty pl fa un ku ik))) (h99 : h 99 = some (IA 43 nw)) (h0 : nw 1 = nI nL) (hL : nL < 4) : MetV mX7_ladderComes (d, 0, 0) [.ref 98, .int ki, .int le, .int pr, .int tr] h (xup (xup h 99 (IA 43 (lcF nw nL ki le pr tr))) 98 (.inr (7, mfs ty pl fa (nI 0) ku ik))) := by
  have e0 : nI 27 + nI 4 * nw 1 = nI (27 + 4 * nL) := by rw [h0, pk_mul, nI_add]
  refine MetX.of (by decide) rfl (Nat.le_of_ble_eq_true rfl) ?_
  refine X.pushi (v := nI 27) iX7_ladderComes_0 ?_
  refine X.pushi (v := nI 4) iX7_ladderComes_2 ?_
  refine X.aload iX7_ladderComes_3 rfl ?_
  refine X.getf iX7_ladderComes_4 (by repeat (first | assumption | exact xup_eq _ _ _ | rw [xup_ne _ _ (by first | decide | omega | assumption)])) rfl ?_
  refine X.pushi (v := nI 1) iX7_ladderComes_7 ?_
  refine X.ialdN iX7_ladderComes_8 (by repeat (first | assumption | exact xup_eq _ _ _ | rw [xup_ne _ _ (by first | decide | omega | assumption)])) (by omega) (by decide) ?_
  refine X.imul iX7_ladderComes_9 ?_
  refine X.iadd iX7_ladderComes_10 ?_
  rw [e0]
  refine X.istore iX7_ladderComes_11 rfl rfl ?_
  refine X.aload iX7_ladderComes_13 rfl ?_
  refine X.getf iX7_ladderComes_14 (by repeat (first | assumption | exact xup_eq _ _ _ | rw [xup_ne _ _ (by first | decide | omega | assumption)])) rfl ?_
  refine X.iload iX7_ladderComes_17 rfl ?_
  refine X.iload iX7_ladderComes_19 rfl ?_
  refine X.iastN iX7_ladderComes_20 (by repeat (first | assumption | exact xup_eq _ _ _ | rw [xup_ne _ _ (by first | decide | omega | assumption)])) (by omega) (by decide) ?_
  refine X.aload iX7_ladderComes_21 rfl ?_
  refine X.getf iX7_ladderComes_22 (by repeat (first | assumption | exact xup_eq _ _ _ | rw [xup_ne _ _ (by first | decide | omega | assumption)])) rfl ?_
  refine X.iload iX7_ladderComes_25 rfl ?_
  refine X.pushi (v := nI 1) iX7_ladderComes_27 ?_
  refine X.iadd iX7_ladderComes_28 ?_
  refine X.iload iX7_ladderComes_29 rfl ?_
  refine X.iastE iX7_ladderComes_30 (by repeat (first | assumption | exact xup_eq _ _ _ | rw [xup_ne _ _ (by first | decide | omega | assumption)])) (nI_add _ 1) (by omega) (by decide) ?_
  refine X.aload iX7_ladderComes_31 rfl ?_
  refine X.getf iX7_ladderComes_32 (by repeat (first | assumption | exact xup_eq _ _ _ | rw [xup_ne _ _ (by first | decide | omega | assumption)])) rfl ?_
  refine X.iload iX7_ladderComes_35 rfl ?_
  refine X.pushi (v := nI 2) iX7_ladderComes_37 ?_
  refine X.iadd iX7_ladderComes_38 ?_
  refine X.iload iX7_ladderComes_39 rfl ?_
  refine X.iastE iX7_ladderComes_40 (by repeat (first | assumption | exact xup_eq _ _ _ | rw [xup_ne _ _ (by first | decide | omega | assumption)])) (nI_add _ 2) (by omega) (by decide) ?_
  refine X.aload iX7_ladderComes_41 rfl ?_
  refine X.getf iX7_ladderComes_42 (by repeat (first | assumption | exact xup_eq _ _ _ | rw [xup_ne _ _ (by first | decide | omega | assumption)])) rfl ?_
  refine X.iload iX7_ladderComes_45 rfl ?_
  refine X.pushi (v := nI 3) iX7_ladderComes_47 ?_
  refine X.iadd iX7_ladderComes_48 ?_
  refine X.iload iX7_ladderComes_49 rfl ?_
  refine X.iastE iX7_ladderComes_51 (by repeat (first | assumption | exact xup_eq _ _ _ | rw [xup_ne _ _ (by first | decide | omega | assumption)])) (nI_add _ 3) (by omega) (by decide) ?_
  refine X.aload iX7_ladderComes_52 rfl ?_
  refine X.getf iX7_ladderComes_53 (by repeat (first | assumption | exact xup_eq _ _ _ | rw [xup_ne _ _ (by first | decide | omega | assumption)])) rfl ?_
  refine X.pushi (v := nI 1) iX7_ladderComes_56 ?_
  refine X.dup2 iX7_ladderComes_57 ?_
  refine X.ialdN iX7_ladderComes_58 (by repeat (first | assumption | exact xup_eq _ _ _ | rw [xup_ne _ _ (by first | decide | omega | assumption)])) (by omega) (by decide) ?_
  refine X.pushi (v := nI 1) iX7_ladderComes_59 ?_
  refine X.iadd iX7_ladderComes_60 ?_
  refine X.iastN iX7_ladderComes_61 (by repeat (first | assumption | exact xup_eq _ _ _ | rw [xup_ne _ _ (by first | decide | omega | assumption)])) (by omega) (by decide) ?_
  refine X.aload iX7_ladderComes_62 rfl ?_
  refine X.pushi (v := nI 0) iX7_ladderComes_63 ?_
  refine X.puti iX7_ladderComes_64 (by repeat (first | assumption | exact xup_eq _ _ _ | rw [xup_ne _ _ (by first | decide | omega | assumption)])) (Nat.le_of_ble_eq_true rfl) ?_
  refine X.vret iX7_ladderComes_67 ⟨rfl, ?_⟩
  simp only [xup_xup]
  have e1 : upd (upd (upd (upd nw (27 + 4 * nL) ki) (27 + 4 * nL + 1) le) (27 + 4 * nL + 2) pr) (27 + 4 * nL + 3) tr 1 + nI 1 = nI (nL + 1) := by rw [upd_ne _ _ (by omega), upd_ne _ _ (by omega), upd_ne _ _ (by omega), upd_ne _ _ (by omega), h0, nI_add]
  rw [e1]
  rfl
def treeOk (hi fr ri : Int32) : Bool := inI hi (nI 1) (nI 20) && inI fr (nI 0) (nI 99) && inI ri (nI 0) (nI 99)
def ladOk (ki le pr : Int32) : Bool := inI ki (nI 0) (nI 4) && inI le (nI 1) (nI 9) && inI pr (nI 0) (nI 9)
theorem c_X7_tree_bad {d : Nat} {h : XH} {hi fr ri : Int32} (hb : treeOk hi fr ri = false) : MetI mX7_tree (d + 1, 0, 0) [.ref 98, .int hi, .int fr, .int ri] h (-1) := by
  unfold treeOk at hb
  refine MetX.of (by decide) rfl (Nat.le_of_ble_eq_true rfl) ?_
  refine X.iload iX7_tree_0 rfl ?_
  refine X.i2l iX7_tree_1 ?_
  refine X.pushl iX7_tree_2 ?_
  refine X.pushl iX7_tree_3 ?_
  refine X.callSi iX7_tree_6 (c7_inI (d := d) (a := nI 1) (b := nI 20) (by decide) (by decide)) rfl rfl (xfit _ _ _) (Nat.le_of_ble_eq_true rfl) ?_
  refine X.ifeqB iX7_tree_9 (fun c9 => ?_) (fun c9 => ?_)
  · refine X.pushi iX7_tree_36 ?_
    exact X.iret iX7_tree_37 ⟨rfl, rfl⟩
  · refine X.iload iX7_tree_12 rfl ?_
    refine X.i2l iX7_tree_13 ?_
    refine X.pushl iX7_tree_14 ?_
    refine X.pushl iX7_tree_15 ?_
    refine X.callSi iX7_tree_18 (c7_inI (d := d) (a := nI 0) (b := nI 99) (by decide) (by decide)) rfl rfl (xfit _ _ _) (Nat.le_of_ble_eq_true rfl) ?_
    refine X.ifeqB iX7_tree_21 (fun c21 => ?_) (fun c21 => ?_)
    · refine X.pushi iX7_tree_36 ?_
      exact X.iret iX7_tree_37 ⟨rfl, rfl⟩
    · refine X.iload iX7_tree_24 rfl ?_
      refine X.i2l iX7_tree_25 ?_
      refine X.pushl iX7_tree_26 ?_
      refine X.pushl iX7_tree_27 ?_
      refine X.callSi iX7_tree_30 (c7_inI (d := d) (a := nI 0) (b := nI 99) (by decide) (by decide)) rfl rfl (xfit _ _ _) (Nat.le_of_ble_eq_true rfl) ?_
      refine X.ifneB iX7_tree_33 (fun c33 => ?_) (fun c33 => ?_)
      · (rw [c9, c21, c33] at hb; cases hb)
      · refine X.pushi iX7_tree_36 ?_
        exact X.iret iX7_tree_37 ⟨rfl, rfl⟩
theorem c_X7_tree {d : Nat} {h : XH} {nw : Nat → Int32} {nT : Nat} {ty pl : Int32} {fa : Bool} {un ku : Int32} {ik : Bool} {hi fr ri : Int32} (h98 : h 98 = some (.inr (7, mfs ty pl fa un ku ik))) (h99 : h 99 = some (IA 43 nw)) (h0 : nw 0 = nI nT) (hT : nT ≤ 6) (hb : treeOk hi fr ri = true) : MetH mX7_tree (d + 1, 0, 0) [.ref 98, .int hi, .int fr, .int ri] h (if nT = 6 then -3 else nI nT) (if nT = 6 then h else xup (xup h 99 (IA 43 (tcF nw nT hi fr ri))) 98 (.inr (7, mfs ty pl fa (nI 0) ku ik))) := by
  unfold treeOk at hb
  have hb1 := (Bool.and_eq_true_iff.mp (Bool.and_eq_true_iff.mp hb).1).1
  have hb2 := (Bool.and_eq_true_iff.mp (Bool.and_eq_true_iff.mp hb).1).2
  have hb3 := (Bool.and_eq_true_iff.mp hb).2
  refine MetX.of (by decide) rfl (Nat.le_of_ble_eq_true rfl) ?_
  refine X.iload iX7_tree_0 rfl ?_
  refine X.i2l iX7_tree_1 ?_
  refine X.pushl iX7_tree_2 ?_
  refine X.pushl iX7_tree_3 ?_
  refine X.callSi iX7_tree_6 (c7_inI (d := d) (a := nI 1) (b := nI 20) (by decide) (by decide)) rfl rfl (xfit _ _ _) (Nat.le_of_ble_eq_true rfl) ?_
  refine X.ifeqB iX7_tree_9 (fun c9 => ?_) (fun c9 => ?_)
  · exact absurd (c9.symm.trans hb1) (by decide)
  · refine X.iload iX7_tree_12 rfl ?_
    refine X.i2l iX7_tree_13 ?_
    refine X.pushl iX7_tree_14 ?_
    refine X.pushl iX7_tree_15 ?_
    refine X.callSi iX7_tree_18 (c7_inI (d := d) (a := nI 0) (b := nI 99) (by decide) (by decide)) rfl rfl (xfit _ _ _) (Nat.le_of_ble_eq_true rfl) ?_
    refine X.ifeqB iX7_tree_21 (fun c21 => ?_) (fun c21 => ?_)
    · exact absurd (c21.symm.trans hb2) (by decide)
    · refine X.iload iX7_tree_24 rfl ?_
      refine X.i2l iX7_tree_25 ?_
      refine X.pushl iX7_tree_26 ?_
      refine X.pushl iX7_tree_27 ?_
      refine X.callSi iX7_tree_30 (c7_inI (d := d) (a := nI 0) (b := nI 99) (by decide) (by decide)) rfl rfl (xfit _ _ _) (Nat.le_of_ble_eq_true rfl) ?_
      refine X.ifneB iX7_tree_33 (fun c33 => ?_) (fun c33 => ?_)
      · refine X.aload iX7_tree_38 rfl ?_
        refine X.getf iX7_tree_39 (by repeat (first | assumption | exact xup_eq _ _ _ | rw [xup_ne _ _ (by first | decide | omega | assumption)])) rfl ?_
        refine X.pushi (v := nI 0) iX7_tree_42 ?_
        refine X.ialdN iX7_tree_43 (by repeat (first | assumption | exact xup_eq _ _ _ | rw [xup_ne _ _ (by first | decide | omega | assumption)])) (by omega) (by decide) ?_
        refine X.pushi (v := nI 6) iX7_tree_44 ?_
        refine X.cmne iX7_tree_46 (fun c46 => ?_) (fun c46 => ?_)
        · have e6 : ¬ nT = 6 := fun q => c46 (by rw [h0, q])
          refine X.aload iX7_tree_52 rfl ?_
          refine X.iload iX7_tree_53 rfl ?_
          refine X.iload iX7_tree_54 rfl ?_
          refine X.iload iX7_tree_55 rfl ?_
          refine X.callVv iX7_tree_56 (c_X7_treeComes (d := d) h98 h99 h0 (by omega)) (by repeat (first | assumption | exact xup_eq _ _ _ | rw [xup_ne _ _ (by first | decide | omega | assumption)])) rfl rfl (xfit _ _ _) (Nat.le_of_ble_eq_true rfl) ?_
          refine X.aload iX7_tree_59 rfl ?_
          refine X.getf iX7_tree_60 (by repeat (first | assumption | exact xup_eq _ _ _ | rw [xup_ne _ _ (by first | decide | omega | assumption)])) rfl ?_
          refine X.pushi (v := nI 0) iX7_tree_63 ?_
          refine X.ialdN iX7_tree_64 (by repeat (first | assumption | exact xup_eq _ _ _ | rw [xup_ne _ _ (by first | decide | omega | assumption)])) (by omega) (by decide) ?_
          refine X.pushi (v := nI 1) iX7_tree_65 ?_
          refine X.isub iX7_tree_66 ?_
          refine X.iret iX7_tree_67 ⟨?_, by rw [if_neg e6]⟩
          rw [if_neg e6, show tcF nw nT hi fr ri 0 = nI (nT + 1) from upd_eq _ _ _, pk_sub (by omega)]
          rfl
        · refine X.pushi iX7_tree_49 ?_
          have e6 : nT = 6 := (nI_eq (by omega) (by decide)).mp (h0.symm.trans c46)
          exact X.iret iX7_tree_51 ⟨by rw [if_pos e6], by rw [if_pos e6]⟩
      · exact absurd (c33.symm.trans hb3) (by decide)
theorem c_X7_ladder_bad {d : Nat} {h : XH} {ki le pr : Int32} (hb : ladOk ki le pr = false) : MetI mX7_ladder (d + 1, 0, 0) [.ref 98, .int ki, .int le, .int pr] h (-1) := by
  unfold ladOk at hb
  refine MetX.of (by decide) rfl (Nat.le_of_ble_eq_true rfl) ?_
  refine X.iload iX7_ladder_0 rfl ?_
  refine X.i2l iX7_ladder_1 ?_
  refine X.pushl iX7_ladder_2 ?_
  refine X.pushl iX7_ladder_3 ?_
  refine X.callSi iX7_ladder_6 (c7_inI (d := d) (a := nI 0) (b := nI 4) (by decide) (by decide)) rfl rfl (xfit _ _ _) (Nat.le_of_ble_eq_true rfl) ?_
  refine X.ifeqB iX7_ladder_9 (fun c9 => ?_) (fun c9 => ?_)
  · refine X.pushi iX7_ladder_36 ?_
    exact X.iret iX7_ladder_37 ⟨rfl, rfl⟩
  · refine X.iload iX7_ladder_12 rfl ?_
    refine X.i2l iX7_ladder_13 ?_
    refine X.pushl iX7_ladder_14 ?_
    refine X.pushl iX7_ladder_15 ?_
    refine X.callSi iX7_ladder_18 (c7_inI (d := d) (a := nI 1) (b := nI 9) (by decide) (by decide)) rfl rfl (xfit _ _ _) (Nat.le_of_ble_eq_true rfl) ?_
    refine X.ifeqB iX7_ladder_21 (fun c21 => ?_) (fun c21 => ?_)
    · refine X.pushi iX7_ladder_36 ?_
      exact X.iret iX7_ladder_37 ⟨rfl, rfl⟩
    · refine X.iload iX7_ladder_24 rfl ?_
      refine X.i2l iX7_ladder_25 ?_
      refine X.pushl iX7_ladder_26 ?_
      refine X.pushl iX7_ladder_27 ?_
      refine X.callSi iX7_ladder_30 (c7_inI (d := d) (a := nI 0) (b := nI 9) (by decide) (by decide)) rfl rfl (xfit _ _ _) (Nat.le_of_ble_eq_true rfl) ?_
      refine X.ifneB iX7_ladder_33 (fun c33 => ?_) (fun c33 => ?_)
      · (rw [c9, c21, c33] at hb; cases hb)
      · refine X.pushi iX7_ladder_36 ?_
        exact X.iret iX7_ladder_37 ⟨rfl, rfl⟩
theorem c_X7_ladder {d : Nat} {h : XH} {nw : Nat → Int32} {nL : Nat} {ty pl : Int32} {fa : Bool} {un ku : Int32} {ik : Bool} {ki le pr : Int32} (h98 : h 98 = some (.inr (7, mfs ty pl fa un ku ik))) (h99 : h 99 = some (IA 43 nw)) (h0 : nw 1 = nI nL) (hL : nL ≤ 4) (hb : ladOk ki le pr = true) : MetH mX7_ladder (d + 1, 0, 0) [.ref 98, .int ki, .int le, .int pr] h (if nL = 4 then -3 else nI nL) (if nL = 4 then h else xup (xup h 99 (IA 43 (lcF nw nL ki le pr (-4)))) 98 (.inr (7, mfs ty pl fa (nI 0) ku ik))) := by
  unfold ladOk at hb
  have hb1 := (Bool.and_eq_true_iff.mp (Bool.and_eq_true_iff.mp hb).1).1
  have hb2 := (Bool.and_eq_true_iff.mp (Bool.and_eq_true_iff.mp hb).1).2
  have hb3 := (Bool.and_eq_true_iff.mp hb).2
  refine MetX.of (by decide) rfl (Nat.le_of_ble_eq_true rfl) ?_
  refine X.iload iX7_ladder_0 rfl ?_
  refine X.i2l iX7_ladder_1 ?_
  refine X.pushl iX7_ladder_2 ?_
  refine X.pushl iX7_ladder_3 ?_
  refine X.callSi iX7_ladder_6 (c7_inI (d := d) (a := nI 0) (b := nI 4) (by decide) (by decide)) rfl rfl (xfit _ _ _) (Nat.le_of_ble_eq_true rfl) ?_
  refine X.ifeqB iX7_ladder_9 (fun c9 => ?_) (fun c9 => ?_)
  · exact absurd (c9.symm.trans hb1) (by decide)
  · refine X.iload iX7_ladder_12 rfl ?_
    refine X.i2l iX7_ladder_13 ?_
    refine X.pushl iX7_ladder_14 ?_
    refine X.pushl iX7_ladder_15 ?_
    refine X.callSi iX7_ladder_18 (c7_inI (d := d) (a := nI 1) (b := nI 9) (by decide) (by decide)) rfl rfl (xfit _ _ _) (Nat.le_of_ble_eq_true rfl) ?_
    refine X.ifeqB iX7_ladder_21 (fun c21 => ?_) (fun c21 => ?_)
    · exact absurd (c21.symm.trans hb2) (by decide)
    · refine X.iload iX7_ladder_24 rfl ?_
      refine X.i2l iX7_ladder_25 ?_
      refine X.pushl iX7_ladder_26 ?_
      refine X.pushl iX7_ladder_27 ?_
      refine X.callSi iX7_ladder_30 (c7_inI (d := d) (a := nI 0) (b := nI 9) (by decide) (by decide)) rfl rfl (xfit _ _ _) (Nat.le_of_ble_eq_true rfl) ?_
      refine X.ifneB iX7_ladder_33 (fun c33 => ?_) (fun c33 => ?_)
      · refine X.aload iX7_ladder_38 rfl ?_
        refine X.getf iX7_ladder_39 (by repeat (first | assumption | exact xup_eq _ _ _ | rw [xup_ne _ _ (by first | decide | omega | assumption)])) rfl ?_
        refine X.pushi (v := nI 1) iX7_ladder_42 ?_
        refine X.ialdN iX7_ladder_43 (by repeat (first | assumption | exact xup_eq _ _ _ | rw [xup_ne _ _ (by first | decide | omega | assumption)])) (by omega) (by decide) ?_
        refine X.pushi (v := nI 4) iX7_ladder_44 ?_
        refine X.cmne iX7_ladder_45 (fun c45 => ?_) (fun c45 => ?_)
        · have e6 : ¬ nL = 4 := fun q => c45 (by rw [h0, q])
          refine X.aload iX7_ladder_51 rfl ?_
          refine X.iload iX7_ladder_52 rfl ?_
          refine X.iload iX7_ladder_53 rfl ?_
          refine X.iload iX7_ladder_54 rfl ?_
          refine X.pushi iX7_ladder_55 ?_
          refine X.callVv iX7_ladder_57 (c_X7_ladderComes (d := d) h98 h99 h0 (by omega)) (by repeat (first | assumption | exact xup_eq _ _ _ | rw [xup_ne _ _ (by first | decide | omega | assumption)])) rfl rfl (xfit _ _ _) (Nat.le_of_ble_eq_true rfl) ?_
          refine X.aload iX7_ladder_60 rfl ?_
          refine X.getf iX7_ladder_61 (by repeat (first | assumption | exact xup_eq _ _ _ | rw [xup_ne _ _ (by first | decide | omega | assumption)])) rfl ?_
          refine X.pushi (v := nI 1) iX7_ladder_64 ?_
          refine X.ialdN iX7_ladder_65 (by repeat (first | assumption | exact xup_eq _ _ _ | rw [xup_ne _ _ (by first | decide | omega | assumption)])) (by omega) (by decide) ?_
          refine X.pushi (v := nI 1) iX7_ladder_66 ?_
          refine X.isub iX7_ladder_67 ?_
          refine X.iret iX7_ladder_68 ⟨?_, by rw [if_neg e6]⟩
          rw [if_neg e6, show lcF nw nL ki le pr (-4) 1 = nI (nL + 1) from upd_eq _ _ _, pk_sub (by omega)]
          rfl
        · refine X.pushi iX7_ladder_48 ?_
          have e6 : nL = 4 := (nI_eq (by omega) (by decide)).mp (h0.symm.trans c45)
          exact X.iret iX7_ladder_50 ⟨by rw [if_pos e6], by rw [if_pos e6]⟩
      · exact absurd (c33.symm.trans hb3) (by decide)
def bitI (l : Nat) : Int32 := nI 1 <<< (nI l &&& 31)
def lnF (nw : Nat → Int32) (t : Int32) : Nat → Int32
  | 0 => nI 0
  | k + 1 => lnF nw t k ||| (if nw (30 + 4 * k) = t then bitI k else nI 0)
theorem c_X7_leaners {d : Nat} {h : XH} {nw : Nat → Int32} {nL : Nat} {t : Int32} (H : MO h nw) (h1 : nw 1 = nI nL) (hL : nL ≤ 4) : MetI mX7_leaners (d + 2, 0, 0) [.ref 98, .int t] h (lnF nw t nL) := by
  obtain ⟨⟨ty, pl, fa, un, ku, ik, h98⟩, h99⟩ := id H
  have P : ∀ k, k ≤ nL → X xT mX7_leaners (xR (d + 2, 0, 0)) (0, 0) 4 [some (.ref 98), some (.int t), some (.int (lnF nw t k)), some (.int (nI k))] [] h (fun v h' => v = some (.int (lnF nw t nL)) ∧ h' = h) := by
    refine xloop nL ?_ ?_
    · refine X.iload iX7_leaners_4 rfl ?_
      refine X.aload iX7_leaners_5 rfl ?_
      refine X.getf iX7_leaners_6 (by repeat (first | assumption | exact xup_eq _ _ _ | rw [xup_ne _ _ (by first | decide | omega | assumption)])) rfl ?_
      refine X.pushi (v := nI 1) iX7_leaners_9 ?_
      refine X.ialdN iX7_leaners_10 (by repeat (first | assumption | exact xup_eq _ _ _ | rw [xup_ne _ _ (by first | decide | omega | assumption)])) (by omega) (by decide) ?_
      refine X.cmge iX7_leaners_11 (fun c11 => ?_) (fun c11 => ?_)
      · refine X.iload iX7_leaners_39 rfl ?_
        exact X.iret iX7_leaners_40 ⟨rfl, rfl⟩
      · exact absurd (by rw [h1]; exact nI_le (Nat.le_refl _) (by omega)) c11
    · intro k hk ih
      rw [show lnF nw t (k + 1) = lnF nw t k ||| (if nw (30 + 4 * k) = t then bitI k else nI 0) from rfl] at ih
      refine X.iload iX7_leaners_4 rfl ?_
      refine X.aload iX7_leaners_5 rfl ?_
      refine X.getf iX7_leaners_6 (by repeat (first | assumption | exact xup_eq _ _ _ | rw [xup_ne _ _ (by first | decide | omega | assumption)])) rfl ?_
      refine X.pushi (v := nI 1) iX7_leaners_9 ?_
      refine X.ialdN iX7_leaners_10 (by repeat (first | assumption | exact xup_eq _ _ _ | rw [xup_ne _ _ (by first | decide | omega | assumption)])) (by omega) (by decide) ?_
      refine X.cmge iX7_leaners_11 (fun c11 => ?_) (fun c11 => ?_)
      · exact absurd (by rw [← h1]; exact c11) (nI_ge hk (by omega))
      · refine X.iload iX7_leaners_14 rfl ?_
        refine X.aload iX7_leaners_15 rfl ?_
        refine X.iload iX7_leaners_16 rfl ?_
        refine X.callVi iX7_leaners_17 (c_X7_leansAt (d := d) H (by omega)) (by repeat (first | assumption | exact xup_eq _ _ _ | rw [xup_ne _ _ (by first | decide | omega | assumption)])) rfl rfl (xfit _ _ _) (Nat.le_of_ble_eq_true rfl) ?_
        refine X.iload iX7_leaners_20 rfl ?_
        refine X.cmne iX7_leaners_21 (fun c21 => ?_) (fun c21 => ?_)
        · refine X.pushi (v := nI 0) iX7_leaners_30 ?_
          refine X.ior iX7_leaners_31 ?_
          refine X.istore iX7_leaners_32 rfl rfl ?_
          refine X.iinc iX7_leaners_33 rfl rfl rfl ?_
          refine X.goto iX7_leaners_36 ?_
          rw [nI_1]
          first
          | (rw [if_pos c21] at ih; exact ih)
          | (rw [if_neg c21] at ih; exact ih)
        · refine X.pushi (v := nI 1) iX7_leaners_24 ?_
          refine X.iload iX7_leaners_25 rfl ?_
          refine X.ishl iX7_leaners_26 ?_
          refine X.goto iX7_leaners_27 ?_
          refine X.ior iX7_leaners_31 ?_
          refine X.istore iX7_leaners_32 rfl rfl ?_
          refine X.iinc iX7_leaners_33 rfl rfl rfl ?_
          refine X.goto iX7_leaners_36 ?_
          rw [nI_1]
          first
          | (rw [if_pos c21] at ih; exact ih)
          | (rw [if_neg c21] at ih; exact ih)
  refine MetX.of (by decide) rfl (Nat.le_of_ble_eq_true rfl) ?_
  refine X.pushi (v := nI 0) iX7_leaners_0 ?_
  refine X.istore iX7_leaners_1 rfl rfl ?_
  refine X.pushi (v := nI 0) iX7_leaners_2 ?_
  refine X.istore iX7_leaners_3 rfl rfl ?_
  exact P 0 (Nat.zero_le _)
def rcF (nw : Nat → Int32) (t : Nat) (day : Int32) (lean : Bool) : Nat → Int32
  | 0 => nI 0
  | k + 1 => rcF nw t day lean k ||| (if rcI nw k t day = true ∧ (lean = true → nw (30 + 4 * k) = nI t) then bitI k else nI 0)
theorem c_X7_reachers {d : Nat} {h : XH} {nw : Nat → Int32} {nL t : Nat} {day : Int32} {lean : Bool} (H : MO h nw) (h1 : nw 1 = nI nL) (hL : nL ≤ 4) (ht : t < 6) : MetI mX7_reachers (d + 2, 0, 0) [.ref 98, .int (nI t), .int day, .int (bI lean)] h (rcF nw t day lean nL) := by
  obtain ⟨⟨ty, pl, fa, un, ku, ik, h98⟩, h99⟩ := id H
  have P : ∀ k, k ≤ nL → X xT mX7_reachers (xR (d + 2, 0, 0)) (0, 0) 6 [some (.ref 98), some (.int (nI t)), some (.int day), some (.int (bI lean)), some (.int (rcF nw t day lean k)), some (.int (nI k))] [] h (fun v h' => v = some (.int (rcF nw t day lean nL)) ∧ h' = h) := by
    refine xloop nL ?_ ?_
    · refine X.iload iX7_reachers_6 rfl ?_
      refine X.aload iX7_reachers_8 rfl ?_
      refine X.getf iX7_reachers_9 (by repeat (first | assumption | exact xup_eq _ _ _ | rw [xup_ne _ _ (by first | decide | omega | assumption)])) rfl ?_
      refine X.pushi (v := nI 1) iX7_reachers_12 ?_
      refine X.ialdN iX7_reachers_13 (by repeat (first | assumption | exact xup_eq _ _ _ | rw [xup_ne _ _ (by first | decide | omega | assumption)])) (by omega) (by decide) ?_
      refine X.cmge iX7_reachers_14 (fun c14 => ?_) (fun c14 => ?_)
      · refine X.iload iX7_reachers_61 rfl ?_
        exact X.iret iX7_reachers_63 ⟨rfl, rfl⟩
      · exact absurd (by rw [h1]; exact nI_le (Nat.le_refl _) (by omega)) c14
    · intro k hk ih
      rw [show rcF nw t day lean (k + 1) = rcF nw t day lean k ||| (if rcI nw k t day = true ∧ (lean = true → nw (30 + 4 * k) = nI t) then bitI k else nI 0) from rfl] at ih
      refine X.iload iX7_reachers_6 rfl ?_
      refine X.aload iX7_reachers_8 rfl ?_
      refine X.getf iX7_reachers_9 (by repeat (first | assumption | exact xup_eq _ _ _ | rw [xup_ne _ _ (by first | decide | omega | assumption)])) rfl ?_
      refine X.pushi (v := nI 1) iX7_reachers_12 ?_
      refine X.ialdN iX7_reachers_13 (by repeat (first | assumption | exact xup_eq _ _ _ | rw [xup_ne _ _ (by first | decide | omega | assumption)])) (by omega) (by decide) ?_
      refine X.cmge iX7_reachers_14 (fun c14 => ?_) (fun c14 => ?_)
      · exact absurd (by rw [← h1]; exact c14) (nI_ge hk (by omega))
      · refine X.iload iX7_reachers_17 rfl ?_
        refine X.aload iX7_reachers_19 rfl ?_
        refine X.iload iX7_reachers_20 rfl ?_
        refine X.iload iX7_reachers_22 rfl ?_
        refine X.iload iX7_reachers_23 rfl ?_
        refine X.callVi iX7_reachers_24 (c_X7_isReached (d := d) H (by omega) (by omega)) (by repeat (first | assumption | exact xup_eq _ _ _ | rw [xup_ne _ _ (by first | decide | omega | assumption)])) rfl rfl (xfit _ _ _) (Nat.le_of_ble_eq_true rfl) ?_
        refine X.ifeqB iX7_reachers_27 (fun c27 => ?_) (fun c27 => ?_)
        · refine X.pushi (v := nI 0) iX7_reachers_51 ?_
          refine X.ior iX7_reachers_52 ?_
          refine X.istore iX7_reachers_53 rfl rfl ?_
          refine X.iinc iX7_reachers_55 rfl rfl rfl ?_
          refine X.goto iX7_reachers_58 ?_
          rw [nI_1]
          first
          | (rw [if_neg (fun q => Bool.noConfusion (c27.symm.trans q.1))] at ih; exact ih)
          | (rw [if_pos (And.intro c27 (fun q => Bool.noConfusion (c31.symm.trans q)))] at ih; exact ih)
          | (rw [if_neg (fun q => c41 (q.2 c31))] at ih; exact ih)
          | (rw [if_pos (And.intro c27 (fun _ => c41))] at ih; exact ih)
        · refine X.iload iX7_reachers_30 rfl ?_
          refine X.ifeqB iX7_reachers_31 (fun c31 => ?_) (fun c31 => ?_)
          · refine X.pushi (v := nI 1) iX7_reachers_44 ?_
            refine X.iload iX7_reachers_45 rfl ?_
            refine X.ishl iX7_reachers_47 ?_
            refine X.goto iX7_reachers_48 ?_
            refine X.ior iX7_reachers_52 ?_
            refine X.istore iX7_reachers_53 rfl rfl ?_
            refine X.iinc iX7_reachers_55 rfl rfl rfl ?_
            refine X.goto iX7_reachers_58 ?_
            rw [nI_1]
            first
            | (rw [if_neg (fun q => Bool.noConfusion (c27.symm.trans q.1))] at ih; exact ih)
            | (rw [if_pos (And.intro c27 (fun q => Bool.noConfusion (c31.symm.trans q)))] at ih; exact ih)
            | (rw [if_neg (fun q => c41 (q.2 c31))] at ih; exact ih)
            | (rw [if_pos (And.intro c27 (fun _ => c41))] at ih; exact ih)
          · refine X.aload iX7_reachers_34 rfl ?_
            refine X.iload iX7_reachers_35 rfl ?_
            refine X.callVi iX7_reachers_37 (c_X7_leansAt (d := d) H (by omega)) (by repeat (first | assumption | exact xup_eq _ _ _ | rw [xup_ne _ _ (by first | decide | omega | assumption)])) rfl rfl (xfit _ _ _) (Nat.le_of_ble_eq_true rfl) ?_
            refine X.iload iX7_reachers_40 rfl ?_
            refine X.cmne iX7_reachers_41 (fun c41 => ?_) (fun c41 => ?_)
            · refine X.pushi (v := nI 0) iX7_reachers_51 ?_
              refine X.ior iX7_reachers_52 ?_
              refine X.istore iX7_reachers_53 rfl rfl ?_
              refine X.iinc iX7_reachers_55 rfl rfl rfl ?_
              refine X.goto iX7_reachers_58 ?_
              rw [nI_1]
              first
              | (rw [if_neg (fun q => Bool.noConfusion (c27.symm.trans q.1))] at ih; exact ih)
              | (rw [if_pos (And.intro c27 (fun q => Bool.noConfusion (c31.symm.trans q)))] at ih; exact ih)
              | (rw [if_neg (fun q => c41 (q.2 c31))] at ih; exact ih)
              | (rw [if_pos (And.intro c27 (fun _ => c41))] at ih; exact ih)
            · refine X.pushi (v := nI 1) iX7_reachers_44 ?_
              refine X.iload iX7_reachers_45 rfl ?_
              refine X.ishl iX7_reachers_47 ?_
              refine X.goto iX7_reachers_48 ?_
              refine X.ior iX7_reachers_52 ?_
              refine X.istore iX7_reachers_53 rfl rfl ?_
              refine X.iinc iX7_reachers_55 rfl rfl rfl ?_
              refine X.goto iX7_reachers_58 ?_
              rw [nI_1]
              first
              | (rw [if_neg (fun q => Bool.noConfusion (c27.symm.trans q.1))] at ih; exact ih)
              | (rw [if_pos (And.intro c27 (fun q => Bool.noConfusion (c31.symm.trans q)))] at ih; exact ih)
              | (rw [if_neg (fun q => c41 (q.2 c31))] at ih; exact ih)
              | (rw [if_pos (And.intro c27 (fun _ => c41))] at ih; exact ih)
  refine MetX.of (by decide) rfl (Nat.le_of_ble_eq_true rfl) ?_
  refine X.pushi (v := nI 0) iX7_reachers_0 ?_
  refine X.istore iX7_reachers_1 rfl rfl ?_
  refine X.pushi (v := nI 0) iX7_reachers_3 ?_
  refine X.istore iX7_reachers_4 rfl rfl ?_
  exact P 0 (Nat.zero_le _)
