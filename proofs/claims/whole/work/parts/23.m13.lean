/-! the reference: how THE TAPE is read. n letters tp 0 .. tp (n - 1), the place p; isFault fa -/
def skF (tp : Nat → Int32) : Nat → Nat → Nat
  | 0, p => p
  | f + 1, p => if tp p = nI 32 then skF tp f (p + 1) else p
/-- behind blanks -/
def sk (tp : Nat → Int32) (n p : Nat) : Nat := skF tp (n - p) p
theorem skF_le (tp : Nat → Int32) : ∀ f p, p ≤ skF tp f p ∧ skF tp f p ≤ p + f
  | 0, p => ⟨Nat.le_refl _, Nat.le_refl _⟩
  | f + 1, p => by
    unfold skF
    split
    · have := skF_le tp f (p + 1); omega
    · omega
theorem sk_le {tp : Nat → Int32} {n p : Nat} (hp : p ≤ n) : p ≤ sk tp n p ∧ sk tp n p ≤ n := by
  have := skF_le tp (n - p) p
  unfold sk
  omega
/-- the letter at a place; 0 at the end -/
def ltr (tp : Nat → Int32) (n q : Nat) : Int32 := if q < n then tp q else nI 0
theorem here_loop {d n : Nat} {h : XH} {nw tp ro rd ud as kp la sz : Nat → Int32} {it mv : Nat → Int64} {ty pl : Int32} {fa : Bool} {un ku : Int32} {ik : Bool} (hn : n ≤ 90) : ∀ f p, p + f = n → X xT mX7_here (xR (d, 0, 0)) (0, 0) 0 [some (.ref 98)] [] (mh h nw tp ro rd ud as kp la sz it mv (nI n) (nI p) fa un ku ik) (fun v h' => v = some (.int (ltr tp n (skF tp f p))) ∧ h' = (mh h nw tp ro rd ud as kp la sz it mv (nI n) (nI (skF tp f p)) fa un ku ik)) := by
  intro f
  induction f with
  | zero =>
    intro p hp
    have : p = n := by omega
    subst this
    refine X.aload iX7_here_0 rfl ?_
    refine X.getf iX7_here_1 (by first | rfl | repeat (first | assumption | exact xup_eq _ _ _ | rw [xup_ne _ _ (by first | decide | omega | assumption)])) rfl ?_
    refine X.aload iX7_here_4 rfl ?_
    refine X.getf iX7_here_5 (by first | rfl | repeat (first | assumption | exact xup_eq _ _ _ | rw [xup_ne _ _ (by first | decide | omega | assumption)])) rfl ?_
    refine X.cmge iX7_here_8 (fun c8 => ?_) (fun c8 => ?_)
    · refine X.aload iX7_here_38 rfl ?_
      refine X.getf iX7_here_39 (by first | rfl | repeat (first | assumption | exact xup_eq _ _ _ | rw [xup_ne _ _ (by first | decide | omega | assumption)])) rfl ?_
      refine X.aload iX7_here_42 rfl ?_
      refine X.getf iX7_here_43 (by first | rfl | repeat (first | assumption | exact xup_eq _ _ _ | rw [xup_ne _ _ (by first | decide | omega | assumption)])) rfl ?_
      refine X.cmge iX7_here_46 (fun c46 => ?_) (fun c46 => ?_)
      · refine X.pushi (v := nI 0) iX7_here_61 ?_
        exact X.iret iX7_here_62 ⟨(by rw [show skF tp 0 p = p from rfl, ltr, if_neg (Nat.lt_irrefl _)]), rfl⟩
      · exact absurd (Int32.le_refl _) c46
    · exact absurd (Int32.le_refl _) c8
  | succ f ih =>
    intro p hp
    have e : skF tp (f + 1) p = if tp p = nI 32 then skF tp f (p + 1) else p := rfl
    rw [e]
    refine X.aload iX7_here_0 rfl ?_
    refine X.getf iX7_here_1 (by first | rfl | repeat (first | assumption | exact xup_eq _ _ _ | rw [xup_ne _ _ (by first | decide | omega | assumption)])) rfl ?_
    refine X.aload iX7_here_4 rfl ?_
    refine X.getf iX7_here_5 (by first | rfl | repeat (first | assumption | exact xup_eq _ _ _ | rw [xup_ne _ _ (by first | decide | omega | assumption)])) rfl ?_
    refine X.cmge iX7_here_8 (fun c8 => ?_) (fun c8 => ?_)
    · exact absurd c8 (nI_ge (by omega) (by omega))
    · refine X.aload iX7_here_11 rfl ?_
      refine X.getf iX7_here_12 (by first | rfl | repeat (first | assumption | exact xup_eq _ _ _ | rw [xup_ne _ _ (by first | decide | omega | assumption)])) rfl ?_
      refine X.aload iX7_here_15 rfl ?_
      refine X.getf iX7_here_16 (by first | rfl | repeat (first | assumption | exact xup_eq _ _ _ | rw [xup_ne _ _ (by first | decide | omega | assumption)])) rfl ?_
      refine X.ialdN iX7_here_19 (by first | rfl | repeat (first | assumption | exact xup_eq _ _ _ | rw [xup_ne _ _ (by first | decide | omega | assumption)])) (by omega) (by decide) ?_
      refine X.pushi (v := nI 32) iX7_here_20 ?_
      refine X.cmne iX7_here_22 (fun c22 => ?_) (fun c22 => ?_)
      · rw [if_neg c22]
        refine X.aload iX7_here_38 rfl ?_
        refine X.getf iX7_here_39 (by first | rfl | repeat (first | assumption | exact xup_eq _ _ _ | rw [xup_ne _ _ (by first | decide | omega | assumption)])) rfl ?_
        refine X.aload iX7_here_42 rfl ?_
        refine X.getf iX7_here_43 (by first | rfl | repeat (first | assumption | exact xup_eq _ _ _ | rw [xup_ne _ _ (by first | decide | omega | assumption)])) rfl ?_
        refine X.cmge iX7_here_46 (fun c46 => ?_) (fun c46 => ?_)
        · exact absurd c46 (nI_ge (by omega) (by omega))
        · refine X.aload iX7_here_49 rfl ?_
          refine X.getf iX7_here_50 (by first | rfl | repeat (first | assumption | exact xup_eq _ _ _ | rw [xup_ne _ _ (by first | decide | omega | assumption)])) rfl ?_
          refine X.aload iX7_here_53 rfl ?_
          refine X.getf iX7_here_54 (by first | rfl | repeat (first | assumption | exact xup_eq _ _ _ | rw [xup_ne _ _ (by first | decide | omega | assumption)])) rfl ?_
          refine X.ialdN iX7_here_57 (by first | rfl | repeat (first | assumption | exact xup_eq _ _ _ | rw [xup_ne _ _ (by first | decide | omega | assumption)])) (by omega) (by decide) ?_
          refine X.goto iX7_here_58 ?_
          exact X.iret iX7_here_62 ⟨(by rw [ltr, if_pos (show p < n by omega)]), rfl⟩
      · refine X.aload iX7_here_25 rfl ?_
        refine X.dupa iX7_here_26 ?_
        refine X.getf iX7_here_27 (by first | rfl | repeat (first | assumption | exact xup_eq _ _ _ | rw [xup_ne _ _ (by first | decide | omega | assumption)])) rfl ?_
        refine X.pushi (v := nI 1) iX7_here_30 ?_
        refine X.iadd iX7_here_31 ?_
        rw [nI_add]
        refine X.puti iX7_here_32 (by first | rfl | repeat (first | assumption | exact xup_eq _ _ _ | rw [xup_ne _ _ (by first | decide | omega | assumption)])) (Nat.le_of_ble_eq_true rfl) ?_
        rw [mh98_3]
        refine X.goto iX7_here_35 ?_
        rw [if_pos c22]
        exact ih (p + 1) (by omega)
theorem c_X7_here {d n p : Nat} {h : XH} {nw tp ro rd ud as kp la sz : Nat → Int32} {it mv : Nat → Int64} {ty pl : Int32} {fa : Bool} {un ku : Int32} {ik : Bool} (hn : n ≤ 90) (hp : p ≤ n) (ep : pl = nI p) (et : ty = nI n) : MetH mX7_here (d, 0, 0) [.ref 98] (mh h nw tp ro rd ud as kp la sz it mv ty pl fa un ku ik) (ltr tp n (sk tp n p)) (mh h nw tp ro rd ud as kp la sz it mv ty (nI (sk tp n p)) fa un ku ik) := by
  subst ep
  subst et
  refine MetX.of (by decide) rfl (Nat.le_of_ble_eq_true rfl) ?_
  exact here_loop (ty := nI n) (pl := nI p) hn (n - p) p (by omega)
theorem c_X7_must {d p : Nat} {is : Bool} {h : XH} {nw tp ro rd ud as kp la sz : Nat → Int32} {it mv : Nat → Int64} {ty pl : Int32} {fa : Bool} {un ku : Int32} {ik : Bool} (ep : pl = nI p) : MetV mX7_must (d, 0, 0) [.ref 98, .int (bI is)] (mh h nw tp ro rd ud as kp la sz it mv ty pl fa un ku ik) (mh h nw tp ro rd ud as kp la sz it mv ty (nI (if (fa || !is) = true then p else p + 1)) (fa || !is) un ku ik) := by
  subst ep
  have hj : ∀ x : Bool, x = (fa || !is) → X xT mX7_must (xR (d, 0, 0)) (0, 0) 20 [some (.ref 98), some (.int (bI is))] [] (mh h nw tp ro rd ud as kp la sz it mv ty (nI p) x un ku ik) (fun v h' => v = none ∧ h' = (mh h nw tp ro rd ud as kp la sz it mv ty (nI (if (fa || !is) = true then p else p + 1)) (fa || !is) un ku ik)) := by
    intro x hx
    rw [← hx]
    refine X.aload iX7_must_20 rfl ?_
    refine X.dupa iX7_must_21 ?_
    refine X.getf iX7_must_22 (by first | rfl | repeat (first | assumption | exact xup_eq _ _ _ | rw [xup_ne _ _ (by first | decide | omega | assumption)])) rfl ?_
    refine X.aload iX7_must_25 rfl ?_
    refine X.getf iX7_must_26 (by first | rfl | repeat (first | assumption | exact xup_eq _ _ _ | rw [xup_ne _ _ (by first | decide | omega | assumption)])) rfl ?_
    refine X.ifeqB iX7_must_29 (fun c29 => ?_) (fun c29 => ?_)
    · refine X.pushi (v := nI 1) iX7_must_36 ?_
      refine X.iadd iX7_must_37 ?_
      rw [nI_add]
      refine X.puti iX7_must_38 (by first | rfl | repeat (first | assumption | exact xup_eq _ _ _ | rw [xup_ne _ _ (by first | decide | omega | assumption)])) (Nat.le_of_ble_eq_true rfl) ?_
      rw [mh98_3]
      first
      | (exact X.vret iX7_must_41 ⟨rfl, by rw [if_pos c29, Nat.add_zero]⟩)
      | (exact X.vret iX7_must_41 ⟨rfl, by rw [if_neg (fun q => Bool.noConfusion (c29.symm.trans q))]⟩)
    · refine X.pushi (v := nI 0) iX7_must_32 ?_
      refine X.goto iX7_must_33 ?_
      refine X.iadd iX7_must_37 ?_
      rw [nI_add]
      refine X.puti iX7_must_38 (by first | rfl | repeat (first | assumption | exact xup_eq _ _ _ | rw [xup_ne _ _ (by first | decide | omega | assumption)])) (Nat.le_of_ble_eq_true rfl) ?_
      rw [mh98_3]
      first
      | (exact X.vret iX7_must_41 ⟨rfl, by rw [if_pos c29, Nat.add_zero]⟩)
      | (exact X.vret iX7_must_41 ⟨rfl, by rw [if_neg (fun q => Bool.noConfusion (c29.symm.trans q))]⟩)
  refine MetX.of (by decide) rfl (Nat.le_of_ble_eq_true rfl) ?_
  refine X.aload iX7_must_0 rfl ?_
  refine X.aload iX7_must_1 rfl ?_
  refine X.getf iX7_must_2 (by first | rfl | repeat (first | assumption | exact xup_eq _ _ _ | rw [xup_ne _ _ (by first | decide | omega | assumption)])) rfl ?_
  refine X.ifneB iX7_must_5 (fun c5 => ?_) (fun c5 => ?_)
  · refine X.pushi (v := bI true) iX7_must_12 ?_
    refine X.goto iX7_must_13 ?_
    refine X.putz iX7_must_17 (by first | rfl | repeat (first | assumption | exact xup_eq _ _ _ | rw [xup_ne _ _ (by first | decide | omega | assumption)])) (Nat.le_of_ble_eq_true rfl) ?_
    rw [mh98_4]
    refine hj _ ?_
    first
    | (rw [c5]; rfl)
    | (rw [c9, Bool.not_false, Bool.or_true]; done)
    | (rw [c5, c9]; rfl)
  · refine X.iload iX7_must_8 rfl ?_
    refine X.ifneB iX7_must_9 (fun c9 => ?_) (fun c9 => ?_)
    · refine X.pushi (v := bI false) iX7_must_16 ?_
      refine X.putz iX7_must_17 (by first | rfl | repeat (first | assumption | exact xup_eq _ _ _ | rw [xup_ne _ _ (by first | decide | omega | assumption)])) (Nat.le_of_ble_eq_true rfl) ?_
      rw [mh98_4]
      refine hj _ ?_
      first
      | (rw [c5]; rfl)
      | (rw [c9, Bool.not_false, Bool.or_true]; done)
      | (rw [c5, c9]; rfl)
    · refine X.pushi (v := bI true) iX7_must_12 ?_
      refine X.goto iX7_must_13 ?_
      refine X.putz iX7_must_17 (by first | rfl | repeat (first | assumption | exact xup_eq _ _ _ | rw [xup_ne _ _ (by first | decide | omega | assumption)])) (Nat.le_of_ble_eq_true rfl) ?_
      rw [mh98_4]
      refine hj _ ?_
      first
      | (rw [c5]; rfl)
      | (rw [c9, Bool.not_false, Bool.or_true]; done)
      | (rw [c5, c9]; rfl)
def sgn (tp : Nat → Int32) (n : Nat) (c : Int32) (p : Nat) (fa : Bool) : Nat × Bool :=
  if fa = true then (p, true) else if ltr tp n (sk tp n p) = c then (sk tp n p + 1, false) else (sk tp n p, true)
theorem ltr_end {tp : Nat → Int32} {n q : Nat} {c : Int32} (hc : ¬ nI 0 = c) (h : ltr tp n q = c) : q < n := by
  unfold ltr at h
  by_cases hq : q < n
  · exact hq
  · rw [if_neg hq] at h; exact absurd h hc
theorem sgn_le {tp : Nat → Int32} {n p : Nat} {c : Int32} {fa : Bool} (hc : ¬ nI 0 = c) (hp : p ≤ n) : (sgn tp n c p fa).1 ≤ n := by
  have h1 := sk_le (tp := tp) hp
  unfold sgn
  split
  · exact hp
  · split
    · rename_i q
      have := ltr_end hc q
      show sk tp n p + 1 ≤ n
      omega
    · exact h1.2
theorem c_X7_sign {d n p : Nat} {c : Int32} {h : XH} {nw tp ro rd ud as kp la sz : Nat → Int32} {it mv : Nat → Int64} {ty pl : Int32} {fa : Bool} {un ku : Int32} {ik : Bool} (hn : n ≤ 90) (hp : p ≤ n) (ep : pl = nI p) (et : ty = nI n) : MetV mX7_sign (d + 1, 0, 0) [.ref 98, .int c] (mh h nw tp ro rd ud as kp la sz it mv ty pl fa un ku ik) (mh h nw tp ro rd ud as kp la sz it mv ty (nI (sgn tp n c p fa).1) ((sgn tp n c p fa).2) un ku ik) := by
  subst ep
  subst et
  refine MetX.of (by decide) rfl (Nat.le_of_ble_eq_true rfl) ?_
  refine X.aload iX7_sign_0 rfl ?_
  refine X.aload iX7_sign_1 rfl ?_
  refine X.getf iX7_sign_2 (by first | rfl | repeat (first | assumption | exact xup_eq _ _ _ | rw [xup_ne _ _ (by first | decide | omega | assumption)])) rfl ?_
  refine X.ifneB iX7_sign_5 (fun c5 => ?_) (fun c5 => ?_)
  · refine X.pushi (v := bI false) iX7_sign_20 ?_
    first
    | (rw [sgn, if_pos c5]; refine X.callVv iX7_sign_21 (c_X7_must (d := d) (is := false) rfl) rfl rfl rfl (xfit _ _ _) (Nat.le_of_ble_eq_true rfl) ?_; rw [c5]; exact X.vret iX7_sign_24 ⟨rfl, rfl⟩)
    | (rw [sgn, if_neg (fun q => Bool.noConfusion (c5.symm.trans q)), if_neg c13]; refine X.callVv iX7_sign_21 (c_X7_must (d := d) (is := false) rfl) rfl rfl rfl (xfit _ _ _) (Nat.le_of_ble_eq_true rfl) ?_; rw [c5]; exact X.vret iX7_sign_24 ⟨rfl, rfl⟩)
    | (rw [sgn, if_neg (fun q => Bool.noConfusion (c5.symm.trans q)), if_pos c13]; refine X.callVv iX7_sign_21 (c_X7_must (d := d) (is := true) rfl) rfl rfl rfl (xfit _ _ _) (Nat.le_of_ble_eq_true rfl) ?_; rw [c5]; exact X.vret iX7_sign_24 ⟨rfl, rfl⟩)
  · refine X.aload iX7_sign_8 rfl ?_
    refine X.callVi iX7_sign_9 (c_X7_here (d := d) hn hp rfl rfl) (by first | rfl | repeat (first | assumption | exact xup_eq _ _ _ | rw [xup_ne _ _ (by first | decide | omega | assumption)])) rfl rfl (xfit _ _ _) (Nat.le_of_ble_eq_true rfl) ?_
    refine X.iload iX7_sign_12 rfl ?_
    refine X.cmne iX7_sign_13 (fun c13 => ?_) (fun c13 => ?_)
    · refine X.pushi (v := bI false) iX7_sign_20 ?_
      first
      | (rw [sgn, if_pos c5]; refine X.callVv iX7_sign_21 (c_X7_must (d := d) (is := false) rfl) rfl rfl rfl (xfit _ _ _) (Nat.le_of_ble_eq_true rfl) ?_; rw [c5]; exact X.vret iX7_sign_24 ⟨rfl, rfl⟩)
      | (rw [sgn, if_neg (fun q => Bool.noConfusion (c5.symm.trans q)), if_neg c13]; refine X.callVv iX7_sign_21 (c_X7_must (d := d) (is := false) rfl) rfl rfl rfl (xfit _ _ _) (Nat.le_of_ble_eq_true rfl) ?_; rw [c5]; exact X.vret iX7_sign_24 ⟨rfl, rfl⟩)
      | (rw [sgn, if_neg (fun q => Bool.noConfusion (c5.symm.trans q)), if_pos c13]; refine X.callVv iX7_sign_21 (c_X7_must (d := d) (is := true) rfl) rfl rfl rfl (xfit _ _ _) (Nat.le_of_ble_eq_true rfl) ?_; rw [c5]; exact X.vret iX7_sign_24 ⟨rfl, rfl⟩)
    · refine X.pushi (v := bI true) iX7_sign_16 ?_
      refine X.goto iX7_sign_17 ?_
      first
      | (rw [sgn, if_pos c5]; refine X.callVv iX7_sign_21 (c_X7_must (d := d) (is := false) rfl) rfl rfl rfl (xfit _ _ _) (Nat.le_of_ble_eq_true rfl) ?_; rw [c5]; exact X.vret iX7_sign_24 ⟨rfl, rfl⟩)
      | (rw [sgn, if_neg (fun q => Bool.noConfusion (c5.symm.trans q)), if_neg c13]; refine X.callVv iX7_sign_21 (c_X7_must (d := d) (is := false) rfl) rfl rfl rfl (xfit _ _ _) (Nat.le_of_ble_eq_true rfl) ?_; rw [c5]; exact X.vret iX7_sign_24 ⟨rfl, rfl⟩)
      | (rw [sgn, if_neg (fun q => Bool.noConfusion (c5.symm.trans q)), if_pos c13]; refine X.callVv iX7_sign_21 (c_X7_must (d := d) (is := true) rfl) rfl rfl rfl (xfit _ _ _) (Nat.le_of_ble_eq_true rfl) ?_; rw [c5]; exact X.vret iX7_sign_24 ⟨rfl, rfl⟩)
/-- a digit: what it is, the place, whether there is a fault -/
def dgt (tp : Nat → Int32) (n : Nat) (lo hi : Int32) (p : Nat) (fa : Bool) : Int32 × Nat × Bool :=
  if fa = true then (-1, p, true) else if inI (ltr tp n (sk tp n p) - nI 48) lo hi = true then (ltr tp n (sk tp n p) - nI 48, sk tp n p + 1, false) else (ltr tp n (sk tp n p) - nI 48, sk tp n p, true)
theorem dgt_le {tp : Nat → Int32} {n p : Nat} {lo hi : Int32} {fa : Bool} (hlo : 0 ≤ lo) (hp : p ≤ n) : (dgt tp n lo hi p fa).2.1 ≤ n := by
  have h1 := sk_le (tp := tp) hp
  unfold dgt
  split
  · exact hp
  · split
    · rename_i q
      show sk tp n p + 1 ≤ n
      rcases Nat.lt_or_ge (sk tp n p) n with z | z
      · exact z
      · exfalso
        have q1 := (of_decide_eq_true q).1
        rw [ltr, if_neg (by omega)] at q1
        exact absurd (Int32.le_trans hlo q1) (by decide)
    · exact h1.2
theorem c_X7_digit {d n p : Nat} {lo hi : Int32} {h : XH} {nw tp ro rd ud as kp la sz : Nat → Int32} {it mv : Nat → Int64} {ty pl : Int32} {fa : Bool} {un ku : Int32} {ik : Bool} (hn : n ≤ 90) (hp : p ≤ n) (hlo : 0 ≤ lo) (ep : pl = nI p) (et : ty = nI n) : MetH mX7_digit (d + 1, 0, 0) [.ref 98, .int lo, .int hi] (mh h nw tp ro rd ud as kp la sz it mv ty pl fa un ku ik) (dgt tp n lo hi p fa).1 (mh h nw tp ro rd ud as kp la sz it mv ty (nI (dgt tp n lo hi p fa).2.1) ((dgt tp n lo hi p fa).2.2) un ku ik) := by
  subst ep
  subst et
  have hm : inI (-1) lo hi = false := decide_eq_false (fun q => absurd (Int32.le_trans hlo q.1) (by decide))
  refine MetX.of (by decide) rfl (Nat.le_of_ble_eq_true rfl) ?_
  refine X.aload iX7_digit_0 rfl ?_
  refine X.getf iX7_digit_1 (by first | rfl | repeat (first | assumption | exact xup_eq _ _ _ | rw [xup_ne _ _ (by first | decide | omega | assumption)])) rfl ?_
  refine X.ifeqB iX7_digit_4 (fun c4 => ?_) (fun c4 => ?_)
  · refine X.aload iX7_digit_11 rfl ?_
    refine X.callVi iX7_digit_12 (c_X7_here (d := d) hn hp rfl rfl) (by first | rfl | repeat (first | assumption | exact xup_eq _ _ _ | rw [xup_ne _ _ (by first | decide | omega | assumption)])) rfl rfl (xfit _ _ _) (Nat.le_of_ble_eq_true rfl) ?_
    refine X.pushi (v := nI 48) iX7_digit_15 ?_
    refine X.isub iX7_digit_17 ?_
    refine X.istore iX7_digit_18 rfl rfl ?_
    refine X.aload iX7_digit_19 rfl ?_
    refine X.iload iX7_digit_20 rfl ?_
    refine X.i2l iX7_digit_21 ?_
    refine X.iload iX7_digit_22 rfl ?_
    refine X.i2l iX7_digit_23 ?_
    refine X.iload iX7_digit_24 rfl ?_
    refine X.i2l iX7_digit_25 ?_
    refine X.callSi iX7_digit_26 (c7_inI (d := d) (a := lo) (b := hi) rfl rfl) rfl rfl (xfit _ _ _) (Nat.le_of_ble_eq_true rfl) ?_
    refine X.callVv iX7_digit_29 (c_X7_must (d := d) rfl) (by first | rfl | repeat (first | assumption | exact xup_eq _ _ _ | rw [xup_ne _ _ (by first | decide | omega | assumption)])) rfl rfl (xfit _ _ _) (Nat.le_of_ble_eq_true rfl) ?_
    refine X.iload iX7_digit_32 rfl ?_
    first
    | (rw [dgt, if_pos c4]; rw [c4, hm]; exact X.iret iX7_digit_33 ⟨rfl, rfl⟩)
    | (rw [dgt, if_neg (fun q => Bool.noConfusion (c4.symm.trans q))]; rw [c4]; cases hz : inI (ltr tp n (sk tp n p) - nI 48) lo hi <;> exact X.iret iX7_digit_33 ⟨rfl, rfl⟩)
  · refine X.pushi iX7_digit_7 ?_
    refine X.goto iX7_digit_8 ?_
    refine X.istore iX7_digit_18 rfl rfl ?_
    refine X.aload iX7_digit_19 rfl ?_
    refine X.iload iX7_digit_20 rfl ?_
    refine X.i2l iX7_digit_21 ?_
    refine X.iload iX7_digit_22 rfl ?_
    refine X.i2l iX7_digit_23 ?_
    refine X.iload iX7_digit_24 rfl ?_
    refine X.i2l iX7_digit_25 ?_
    refine X.callSi iX7_digit_26 (c7_inI (d := d) (a := lo) (b := hi) rfl rfl) rfl rfl (xfit _ _ _) (Nat.le_of_ble_eq_true rfl) ?_
    refine X.callVv iX7_digit_29 (c_X7_must (d := d) rfl) (by first | rfl | repeat (first | assumption | exact xup_eq _ _ _ | rw [xup_ne _ _ (by first | decide | omega | assumption)])) rfl rfl (xfit _ _ _) (Nat.le_of_ble_eq_true rfl) ?_
    refine X.iload iX7_digit_32 rfl ?_
    first
    | (rw [dgt, if_pos c4]; rw [c4, hm]; exact X.iret iX7_digit_33 ⟨rfl, rfl⟩)
    | (rw [dgt, if_neg (fun q => Bool.noConfusion (c4.symm.trans q))]; rw [c4]; cases hz : inI (ltr tp n (sk tp n p) - nI 48) lo hi <;> exact X.iret iX7_digit_33 ⟨rfl, rfl⟩)
