/-! the reference: AN ORCHARD out of a text -/
def rT1 (tp : Nat → Int32) (n p : Nat) (fa : Bool) : Int32 × Nat × Bool := nbr tp n (nI 1) (nI 20) p fa
def rT2 (tp : Nat → Int32) (n p : Nat) (fa : Bool) : Nat × Bool := sgn tp n (nI 58) (rT1 tp n p fa).2.1 (rT1 tp n p fa).2.2
def rT3 (tp : Nat → Int32) (n p : Nat) (fa : Bool) : Int32 × Nat × Bool := nbr tp n (nI 0) (nI 99) (rT2 tp n p fa).1 (rT2 tp n p fa).2
def rT4 (tp : Nat → Int32) (n p : Nat) (fa : Bool) : Nat × Bool := sgn tp n (nI 64) (rT3 tp n p fa).2.1 (rT3 tp n p fa).2.2
def rT5 (tp : Nat → Int32) (n p : Nat) (fa : Bool) : Int32 × Nat × Bool := nbr tp n (nI 0) (nI 99) (rT4 tp n p fa).1 (rT4 tp n p fa).2
theorem rT1_le {tp : Nat → Int32} {n p : Nat} {fa : Bool} (hp : p ≤ n) : (rT1 tp n p fa).2.1 ≤ n := nbr_le hp
theorem rT2_le {tp : Nat → Int32} {n p : Nat} {fa : Bool} (hp : p ≤ n) : (rT2 tp n p fa).1 ≤ n := sgn_le (by decide) (rT1_le hp)
theorem rT3_le {tp : Nat → Int32} {n p : Nat} {fa : Bool} (hp : p ≤ n) : (rT3 tp n p fa).2.1 ≤ n := nbr_le (rT2_le hp)
theorem rT4_le {tp : Nat → Int32} {n p : Nat} {fa : Bool} (hp : p ≤ n) : (rT4 tp n p fa).1 ≤ n := sgn_le (by decide) (rT3_le hp)
theorem rT5_le {tp : Nat → Int32} {n p : Nat} {fa : Bool} (hp : p ≤ n) : (rT5 tp n p fa).2.1 ≤ n := nbr_le (rT4_le hp)
theorem rT5_true (tp : Nat → Int32) (n p : Nat) : (rT5 tp n p true).2 = (p, true) := rfl
def ro3 (ro : Nat → Int32) (k : Nat) (a b c : Int32) : Nat → Int32 := upd (upd (upd ro (3 * k) a) (3 * k + 1) b) (3 * k + 2) c
theorem ix31 (k w : Nat) : nI 3 * nI k + nI w = nI (3 * k + w) := by rw [pk_mul, nI_add]
theorem ix41 (k w : Nat) : nI 4 * nI k + nI w = nI (4 * k + w) := by rw [pk_mul, nI_add]
theorem rt_body {d n p k : Nat} {Q : Option Value → XH → Prop} {h : XH} {nw tp ro rd ud as kp la sz : Nat → Int32} {it mv : Nat → Int64} {ty pl : Int32} {fa : Bool} {un ku : Int32} {ik : Bool} (hn : n ≤ 90) (hp : p ≤ n) (hk : k < 6 ∨ fa = true) (ep : pl = nI p) (et : ty = nI n) (K : X xT mX7_readTrees (xR (d + 2, 0, 0)) (0, 0) 117 [some (.ref 98), some (.int (nI k)), none, none, none] [] (mh h nw tp (if (rT5 tp n p fa).2.2 = true then ro else ro3 ro k (rT1 tp n p fa).1 (rT3 tp n p fa).1 (rT5 tp n p fa).1) rd ud as kp la sz it mv ty (nI (rT5 tp n p fa).2.1) ((rT5 tp n p fa).2.2) un ku ik) Q) : X xT mX7_readTrees (xR (d + 2, 0, 0)) (0, 0) 41 [some (.ref 98), some (.int (nI k)), none, none, none] [] (mh h nw tp ro rd ud as kp la sz it mv ty pl fa un ku ik) Q := by
  subst ep
  subst et
  refine X.aload iX7_readTrees_41 rfl ?_
  refine X.pushi (v := nI 1) iX7_readTrees_42 ?_
  refine X.pushi (v := nI 20) iX7_readTrees_43 ?_
  refine X.callVi iX7_readTrees_45 (c_X7_number (d := d) (lo := nI 1) (hi := nI 20) hn hp rfl rfl) (by first | rfl | repeat (first | assumption | exact xup_eq _ _ _ | rw [xup_ne _ _ (by first | decide | omega | assumption)])) rfl rfl (xfit _ _ _) (Nat.le_of_ble_eq_true rfl) ?_
  refine X.istore iX7_readTrees_48 rfl rfl ?_
  refine X.aload iX7_readTrees_49 rfl ?_
  refine X.pushi (v := nI 58) iX7_readTrees_50 ?_
  refine X.callVv iX7_readTrees_52 (c_X7_sign (d := d) (c := nI 58) (fa := (rT1 tp n p fa).2.2) hn (rT1_le hp) rfl rfl) (by first | rfl | repeat (first | assumption | exact xup_eq _ _ _ | rw [xup_ne _ _ (by first | decide | omega | assumption)])) rfl rfl (xfit _ _ _) (Nat.le_of_ble_eq_true rfl) ?_
  refine X.aload iX7_readTrees_55 rfl ?_
  refine X.pushi (v := nI 0) iX7_readTrees_56 ?_
  refine X.pushi (v := nI 99) iX7_readTrees_57 ?_
  refine X.callVi iX7_readTrees_59 (c_X7_number (d := d) (lo := nI 0) (hi := nI 99) (fa := (rT2 tp n p fa).2) hn (rT2_le hp) rfl rfl) (by first | rfl | repeat (first | assumption | exact xup_eq _ _ _ | rw [xup_ne _ _ (by first | decide | omega | assumption)])) rfl rfl (xfit _ _ _) (Nat.le_of_ble_eq_true rfl) ?_
  refine X.istore iX7_readTrees_62 rfl rfl ?_
  refine X.aload iX7_readTrees_63 rfl ?_
  refine X.pushi (v := nI 64) iX7_readTrees_64 ?_
  refine X.callVv iX7_readTrees_66 (c_X7_sign (d := d) (c := nI 64) (fa := (rT3 tp n p fa).2.2) hn (rT3_le hp) rfl rfl) (by first | rfl | repeat (first | assumption | exact xup_eq _ _ _ | rw [xup_ne _ _ (by first | decide | omega | assumption)])) rfl rfl (xfit _ _ _) (Nat.le_of_ble_eq_true rfl) ?_
  refine X.aload iX7_readTrees_69 rfl ?_
  refine X.pushi (v := nI 0) iX7_readTrees_70 ?_
  refine X.pushi (v := nI 99) iX7_readTrees_71 ?_
  refine X.callVi iX7_readTrees_73 (c_X7_number (d := d) (lo := nI 0) (hi := nI 99) (fa := (rT4 tp n p fa).2) hn (rT4_le hp) rfl rfl) (by first | rfl | repeat (first | assumption | exact xup_eq _ _ _ | rw [xup_ne _ _ (by first | decide | omega | assumption)])) rfl rfl (xfit _ _ _) (Nat.le_of_ble_eq_true rfl) ?_
  refine X.istore iX7_readTrees_76 rfl rfl ?_
  refine X.aload iX7_readTrees_78 rfl ?_
  refine X.getf iX7_readTrees_79 (by first | rfl | repeat (first | assumption | exact xup_eq _ _ _ | rw [xup_ne _ _ (by first | decide | omega | assumption)])) rfl ?_
  refine X.ifneB iX7_readTrees_82 (fun c82 => ?_) (fun c82 => ?_)
  · first
    | (rw [if_pos (show (rT5 tp n p fa).2.2 = true from c82)] at K; exact X.unset 2 rfl (X.unset 3 rfl (X.unset 4 rfl K)))
    | (rw [if_neg (fun q => Bool.noConfusion ((show (rT5 tp n p fa).2.2 = false from c82).symm.trans q))] at K; exact X.unset 2 rfl (X.unset 3 rfl (X.unset 4 rfl K)))
  · have k6 : k < 6 := hk.resolve_right (fun q => by rw [q] at c82; exact Bool.noConfusion (show true = false from c82))
    refine X.aload iX7_readTrees_85 rfl ?_
    refine X.getf iX7_readTrees_86 (by first | rfl | repeat (first | assumption | exact xup_eq _ _ _ | rw [xup_ne _ _ (by first | decide | omega | assumption)])) rfl ?_
    refine X.pushi (v := nI 3) iX7_readTrees_89 ?_
    refine X.iload iX7_readTrees_90 rfl ?_
    refine X.imul iX7_readTrees_91 ?_
    refine X.iload iX7_readTrees_92 rfl ?_
    refine X.iastE iX7_readTrees_93 (by first | rfl | repeat (first | assumption | exact xup_eq _ _ _ | rw [xup_ne _ _ (by first | decide | omega | assumption)])) (pk_mul 3 k) (by omega) (by decide) ?_
    rw [mh101]
    refine X.aload iX7_readTrees_94 rfl ?_
    refine X.getf iX7_readTrees_95 (by first | rfl | repeat (first | assumption | exact xup_eq _ _ _ | rw [xup_ne _ _ (by first | decide | omega | assumption)])) rfl ?_
    refine X.pushi (v := nI 3) iX7_readTrees_98 ?_
    refine X.iload iX7_readTrees_99 rfl ?_
    refine X.imul iX7_readTrees_100 ?_
    refine X.pushi (v := nI 1) iX7_readTrees_101 ?_
    refine X.iadd iX7_readTrees_102 ?_
    refine X.iload iX7_readTrees_103 rfl ?_
    refine X.iastE iX7_readTrees_104 (by first | rfl | repeat (first | assumption | exact xup_eq _ _ _ | rw [xup_ne _ _ (by first | decide | omega | assumption)])) (ix31 k 1) (by omega) (by decide) ?_
    rw [mh101]
    refine X.aload iX7_readTrees_105 rfl ?_
    refine X.getf iX7_readTrees_106 (by first | rfl | repeat (first | assumption | exact xup_eq _ _ _ | rw [xup_ne _ _ (by first | decide | omega | assumption)])) rfl ?_
    refine X.pushi (v := nI 3) iX7_readTrees_109 ?_
    refine X.iload iX7_readTrees_110 rfl ?_
    refine X.imul iX7_readTrees_111 ?_
    refine X.pushi (v := nI 2) iX7_readTrees_112 ?_
    refine X.iadd iX7_readTrees_113 ?_
    refine X.iload iX7_readTrees_114 rfl ?_
    refine X.iastE iX7_readTrees_116 (by first | rfl | repeat (first | assumption | exact xup_eq _ _ _ | rw [xup_ne _ _ (by first | decide | omega | assumption)])) (ix31 k 2) (by omega) (by decide) ?_
    rw [mh101]
    first
    | (rw [if_pos (show (rT5 tp n p fa).2.2 = true from c82)] at K; exact X.unset 2 rfl (X.unset 3 rfl (X.unset 4 rfl K)))
    | (rw [if_neg (fun q => Bool.noConfusion ((show (rT5 tp n p fa).2.2 = false from c82).symm.trans q))] at K; exact X.unset 2 rfl (X.unset 3 rfl (X.unset 4 rfl K)))
/-- where the next tree begins, and whether it may -/
def rtP (tp : Nat → Int32) (n k p : Nat) : Nat := if k = 0 then p else if k < 6 then sk tp n p + 1 else sk tp n p
def rtL (tp : Nat → Int32) (n : Nat) : Nat → Nat → Nat → (Nat → Int32) → Nat × Nat × Bool × (Nat → Int32)
  | 0, k, p, ro => (k, p, true, ro)
  | f + 1, k, p, ro =>
    if k = 0 ∨ ltr tp n (sk tp n p) = nI 44 then
      (if (rT5 tp n (rtP tp n k p) (decide (6 ≤ k))).2.2 = true then (k + 1, (rT5 tp n (rtP tp n k p) (decide (6 ≤ k))).2.1, true, ro)
      else rtL tp n f (k + 1) (rT5 tp n (rtP tp n k p) (decide (6 ≤ k))).2.1 (ro3 ro k (rT1 tp n (rtP tp n k p) (decide (6 ≤ k))).1 (rT3 tp n (rtP tp n k p) (decide (6 ≤ k))).1 (rT5 tp n (rtP tp n k p) (decide (6 ≤ k))).1))
    else (k, sk tp n p, false, ro)
theorem rtP_le {tp : Nat → Int32} {n k p : Nat} (hp : p ≤ n) (h : k = 0 ∨ ltr tp n (sk tp n p) = nI 44) : rtP tp n k p ≤ n := by
  have h1 := sk_le (tp := tp) hp
  unfold rtP
  split
  · exact hp
  · rename_i q
    have := ltr_end (by decide) (h.resolve_left q)
    split <;> omega
set_option maxHeartbeats 1000000 in
theorem trees_loop {d n : Nat} {h : XH} {nw tp ro rd ud as kp la sz : Nat → Int32} {it mv : Nat → Int64} {ty pl : Int32} {fa : Bool} {un ku : Int32} {ik : Bool} (hn : n ≤ 90) (et : ty = nI n) : ∀ f k p (ro : Nat → Int32), k + f = 7 → p ≤ n → X xT mX7_readTrees (xR (d + 2, 0, 0)) (0, 0) 2 [some (.ref 98), some (.int (nI k)), none, none, none] [] (mh h nw tp ro rd ud as kp la sz it mv ty (nI p) false un ku ik) (fun v h' => v = some (.int (nI (rtL tp n f k p ro).1)) ∧ h' = (mh h nw tp ((rtL tp n f k p ro).2.2.2) rd ud as kp la sz it mv ty (nI (rtL tp n f k p ro).2.1) ((rtL tp n f k p ro).2.2.1) un ku ik)) ∨ k = 7 := by
  subst et
  intro f
  induction f with
  | zero => intro k p ro hk hp; exact Or.inr (by omega)
  | succ f ih =>
    intro k p ro hk hp
    left
    have e : rtL tp n (f + 1) k p ro = if k = 0 ∨ ltr tp n (sk tp n p) = nI 44 then
      (if (rT5 tp n (rtP tp n k p) (decide (6 ≤ k))).2.2 = true then (k + 1, (rT5 tp n (rtP tp n k p) (decide (6 ≤ k))).2.1, true, ro)
      else rtL tp n f (k + 1) (rT5 tp n (rtP tp n k p) (decide (6 ≤ k))).2.1 (ro3 ro k (rT1 tp n (rtP tp n k p) (decide (6 ≤ k))).1 (rT3 tp n (rtP tp n k p) (decide (6 ≤ k))).1 (rT5 tp n (rtP tp n k p) (decide (6 ≤ k))).1))
    else (k, sk tp n p, false, ro) := rfl
    have h1 := sk_le (tp := tp) hp
    have body : k = 0 ∨ ltr tp n (sk tp n p) = nI 44 → X xT mX7_readTrees (xR (d + 2, 0, 0)) (0, 0) 41 [some (.ref 98), some (.int (nI k)), none, none, none] [] (mh h nw tp ro rd ud as kp la sz it mv (nI n) (nI (rtP tp n k p)) (decide (6 ≤ k)) un ku ik) (fun v h' => v = some (.int (nI (rtL tp n (f + 1) k p ro).1)) ∧ h' = (mh h nw tp ((rtL tp n (f + 1) k p ro).2.2.2) rd ud as kp la sz it mv (nI n) (nI (rtL tp n (f + 1) k p ro).2.1) ((rtL tp n (f + 1) k p ro).2.2.1) un ku ik)) := by
      intro hc
      rw [e, if_pos hc]
      have hP := rtP_le hp hc
      refine rt_body (pl := nI (rtP tp n k p)) (ty := nI n) hn hP (by
        rcases Nat.lt_or_ge k 6 with q | q
        · exact Or.inl q
        · exact Or.inr (decide_eq_true q)) rfl rfl ?_
      refine X.iinc iX7_readTrees_117 rfl rfl rfl ?_
      refine X.goto iX7_readTrees_120 ?_
      rw [nI_1]
      cases hz : (rT5 tp n (rtP tp n k p) (decide (6 ≤ k))).2.2
      · have k6 : ¬ 6 ≤ k := fun q => by
          rw [decide_eq_true q, rT5_true] at hz
          exact Bool.noConfusion (show true = false from hz)
        exact (ih (k + 1) _ _ (by omega) (rT5_le hP)).resolve_right (by omega)
      · refine X.aload iX7_readTrees_2 rfl ?_
        refine X.getf iX7_readTrees_3 (by first | rfl | repeat (first | assumption | exact xup_eq _ _ _ | rw [xup_ne _ _ (by first | decide | omega | assumption)])) rfl ?_
        refine X.ifneB iX7_readTrees_6 (fun c6 => ?_) (fun c6 => ?_)
        · refine X.iload iX7_readTrees_123 rfl ?_
          exact X.iret iX7_readTrees_124 ⟨rfl, rfl⟩
        · exact absurd c6 (by decide)
    refine X.aload iX7_readTrees_2 rfl ?_
    refine X.getf iX7_readTrees_3 (by first | rfl | repeat (first | assumption | exact xup_eq _ _ _ | rw [xup_ne _ _ (by first | decide | omega | assumption)])) rfl ?_
    refine X.ifneB iX7_readTrees_6 (fun c6 => ?_) (fun c6 => ?_)
    · exact absurd c6 (by decide)
    · refine X.iload iX7_readTrees_9 rfl ?_
      refine X.ifeq iX7_readTrees_10 (fun c10 => ?_) (fun c10 => ?_)
      · have k0 : k = 0 := (nI_eq (show k < 2 ^ 31 by omega) (show 0 < 2 ^ 31 by decide)).mp c10
        subst k0
        refine X.iload iX7_readTrees_22 rfl ?_
        refine X.ifle iX7_readTrees_23 (fun _ => ?_) (fun q => absurd (Int32.le_refl _) q)
        exact body (Or.inl rfl)
      · refine X.aload iX7_readTrees_13 rfl ?_
        refine X.callVi iX7_readTrees_14 (c_X7_here (d := d + 1) hn hp rfl rfl) (by first | rfl | repeat (first | assumption | exact xup_eq _ _ _ | rw [xup_ne _ _ (by first | decide | omega | assumption)])) rfl rfl (xfit _ _ _) (Nat.le_of_ble_eq_true rfl) ?_
        refine X.pushi (v := nI 44) iX7_readTrees_17 ?_
        refine X.cmne iX7_readTrees_19 (fun c19 => ?_) (fun c19 => ?_)
        · have k0 : ¬ k = 0 := fun q => c10 (by rw [q]; rfl)
          rw [e, if_neg (fun q => q.elim k0 c19)]
          refine X.iload iX7_readTrees_123 rfl ?_
          exact X.iret iX7_readTrees_124 ⟨rfl, rfl⟩
        · have k0 : ¬ k = 0 := fun q => c10 (by rw [q]; rfl)
          refine X.iload iX7_readTrees_22 rfl ?_
          refine X.ifle iX7_readTrees_23 (fun c23 => ?_) (fun c23 => ?_)
          · exact absurd c23 (nI_nle (by omega) (by omega))
          · refine X.aload iX7_readTrees_26 rfl ?_
            refine X.iload iX7_readTrees_27 rfl ?_
            refine X.pushi (v := nI 6) iX7_readTrees_28 ?_
            refine X.cmge iX7_readTrees_30 (fun c30 => ?_) (fun c30 => ?_)
            · refine X.pushi (v := bI false) iX7_readTrees_37 ?_
              first
              | (have k6 : 6 ≤ k := (nI_leI (by decide) (by omega)).mp c30; have b := body (Or.inr c19); rw [show rtP tp n k p = sk tp n p by rw [rtP, if_neg k0, if_neg (by omega)], decide_eq_true k6] at b; refine X.callVv iX7_readTrees_38 (c_X7_must (d := d + 1) (is := false) rfl) rfl rfl rfl (xfit _ _ _) (Nat.le_of_ble_eq_true rfl) ?_; exact b)
              | (have k6 : ¬ 6 ≤ k := fun q => c30 (nI_le q (by omega)); have b := body (Or.inr c19); rw [show rtP tp n k p = sk tp n p + 1 by rw [rtP, if_neg k0, if_pos (by omega)], decide_eq_false k6] at b; refine X.callVv iX7_readTrees_38 (c_X7_must (d := d + 1) (is := true) rfl) rfl rfl rfl (xfit _ _ _) (Nat.le_of_ble_eq_true rfl) ?_; exact b)
            · refine X.pushi (v := bI true) iX7_readTrees_33 ?_
              refine X.goto iX7_readTrees_34 ?_
              first
              | (have k6 : 6 ≤ k := (nI_leI (by decide) (by omega)).mp c30; have b := body (Or.inr c19); rw [show rtP tp n k p = sk tp n p by rw [rtP, if_neg k0, if_neg (by omega)], decide_eq_true k6] at b; refine X.callVv iX7_readTrees_38 (c_X7_must (d := d + 1) (is := false) rfl) rfl rfl rfl (xfit _ _ _) (Nat.le_of_ble_eq_true rfl) ?_; exact b)
              | (have k6 : ¬ 6 ≤ k := fun q => c30 (nI_le q (by omega)); have b := body (Or.inr c19); rw [show rtP tp n k p = sk tp n p + 1 by rw [rtP, if_neg k0, if_pos (by omega)], decide_eq_false k6] at b; refine X.callVv iX7_readTrees_38 (c_X7_must (d := d + 1) (is := true) rfl) rfl rfl rfl (xfit _ _ _) (Nat.le_of_ble_eq_true rfl) ?_; exact b)
theorem c_X7_readTrees {d n p : Nat} {h : XH} {nw tp ro rd ud as kp la sz : Nat → Int32} {it mv : Nat → Int64} {ty pl : Int32} {fa : Bool} {un ku : Int32} {ik : Bool} (hn : n ≤ 90) (hp : p ≤ n) (ef : fa = false) (ep : pl = nI p) (et : ty = nI n) : MetH mX7_readTrees (d + 2, 0, 0) [.ref 98] (mh h nw tp ro rd ud as kp la sz it mv ty pl fa un ku ik) (nI (rtL tp n 7 0 p ro).1) (mh h nw tp ((rtL tp n 7 0 p ro).2.2.2) rd ud as kp la sz it mv ty (nI (rtL tp n 7 0 p ro).2.1) ((rtL tp n 7 0 p ro).2.2.1) un ku ik) := by
  subst ep
  subst ef
  refine MetX.of (by decide) rfl (Nat.le_of_ble_eq_true rfl) ?_
  refine X.pushi (v := nI 0) iX7_readTrees_0 ?_
  refine X.istore iX7_readTrees_1 rfl rfl ?_
  exact (trees_loop (pl := nI p) (fa := false) (ro := ro) hn et 7 0 p ro rfl hp).resolve_right (by decide)
theorem rtL_le {tp : Nat → Int32} {n : Nat} : ∀ f k p (ro : Nat → Int32), p ≤ n → (rtL tp n f k p ro).2.1 ≤ n
  | 0, k, p, ro, hp => hp
  | f + 1, k, p, ro, hp => by
    unfold rtL
    split
    · rename_i hc
      have hP := rT5_le (tp := tp) (fa := decide (6 ≤ k)) (rtP_le hp hc)
      split
      · exact hP
      · exact rtL_le f _ _ _ hP
    · exact (sk_le hp).2
/-- without a fault there are 1 to 6 trees -/
theorem rtL_ok {tp : Nat → Int32} {n : Nat} : ∀ f k p (ro : Nat → Int32), k + f = 7 → (rtL tp n f k p ro).2.2.1 = false → 1 ≤ (rtL tp n f k p ro).1 ∧ (rtL tp n f k p ro).1 ≤ 6
  | 0, k, p, ro, _, h => Bool.noConfusion (show true = false from h)
  | f + 1, k, p, ro, hk, h => by
    unfold rtL at h ⊢
    split
    · rename_i hc
      rw [if_pos hc] at h
      split
      · rename_i h2
        rw [if_pos h2] at h
        exact Bool.noConfusion (show true = false from h)
      · rename_i h2
        rw [if_neg h2] at h
        exact rtL_ok f _ _ _ (by omega) h
    · rename_i hc
      have : ¬ k = 0 := fun q => hc (Or.inl q)
      show 1 ≤ k ∧ k ≤ 6
      omega
