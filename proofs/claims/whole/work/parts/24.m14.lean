/-! the reference: numbers, trees of a text -/
def isD (x : Int32) : Bool := inI x (nI 48) (nI 57)
theorem ltr_D {tp : Nat → Int32} {n q : Nat} (h : isD (ltr tp n q) = true) : q < n ∧ ltr tp n q = tp q := by
  by_cases hq : q < n
  · exact ⟨hq, by rw [ltr, if_pos hq]⟩
  · rw [ltr, if_neg hq] at h
    exact absurd h (by decide)
/-- a second digit stands at r -/
def two (tp : Nat → Int32) (n r : Nat) : Bool := decide (r < n) && isD (tp r)
def nbrV (tp : Nat → Int32) (n q : Nat) : Int32 := if two tp n (q + 1) = true then nI 10 * (tp q - nI 48) + tp (q + 1) - nI 48 else tp q - nI 48
def nbrE (tp : Nat → Int32) (n q : Nat) : Nat := if two tp n (q + 1) = true then q + 2 else q + 1
/-- a number: what it is, the place, whether there is a fault -/
def nbr (tp : Nat → Int32) (n : Nat) (lo hi : Int32) (p : Nat) (fa : Bool) : Int32 × Nat × Bool :=
  if fa = true then (nI 0, p, true) else
  if isD (ltr tp n (sk tp n p)) = true then (if inI (nbrV tp n (sk tp n p)) lo hi = true then (nbrV tp n (sk tp n p), nbrE tp n (sk tp n p), false) else (nbrV tp n (sk tp n p), sk tp n p, true)) else (nI 0, sk tp n p, true)
theorem nbrE_le {tp : Nat → Int32} {n q : Nat} (hq : q < n) : q < nbrE tp n q ∧ nbrE tp n q ≤ n := by
  unfold nbrE two
  split
  · rename_i h
    have := of_decide_eq_true (Bool.and_eq_true_iff.mp h).1
    omega
  · omega
theorem nbr_le {tp : Nat → Int32} {n p : Nat} {lo hi : Int32} {fa : Bool} (hp : p ≤ n) : (nbr tp n lo hi p fa).2.1 ≤ n := by
  have h1 := sk_le (tp := tp) hp
  unfold nbr
  split
  · exact hp
  · split
    · rename_i q
      have h2 := nbrE_le (tp := tp) (ltr_D q).1
      split
      · exact h2.2
      · exact h1.2
    · exact h1.2
theorem num_end {d q r : Nat} {lo hi v : Int32} {x3 : Int32} {h : XH} {nw tp ro rd ud as kp la sz : Nat → Int32} {it mv : Nat → Int64} {ty pl : Int32} {fa : Bool} {un ku : Int32} {ik : Bool} : X xT mX7_number (xR (d + 1, 0, 0)) (0, 0) 139 [some (.ref 98), some (.int lo), some (.int hi), some (.int x3), some (.int (nI q)), some (.int v)] [] (mh h nw tp ro rd ud as kp la sz it mv ty (nI r) false un ku ik) (fun z h' => z = some (.int v) ∧ h' = (mh h nw tp ro rd ud as kp la sz it mv ty (nI (if inI v lo hi = true then r else q)) (!(inI v lo hi)) un ku ik)) := by
  refine X.aload iX7_number_139 rfl ?_
  refine X.getf iX7_number_140 (by first | rfl | repeat (first | assumption | exact xup_eq _ _ _ | rw [xup_ne _ _ (by first | decide | omega | assumption)])) rfl ?_
  refine X.ifneB iX7_number_143 (fun c143 => ?_) (fun c143 => ?_)
  · exact absurd c143 (by decide)
  · refine X.iload iX7_number_146 rfl ?_
    refine X.i2l iX7_number_148 ?_
    refine X.iload iX7_number_149 rfl ?_
    refine X.i2l iX7_number_150 ?_
    refine X.iload iX7_number_151 rfl ?_
    refine X.i2l iX7_number_152 ?_
    refine X.callSi iX7_number_153 (c7_inI (d := d) (a := lo) (b := hi) rfl rfl) rfl rfl (xfit _ _ _) (Nat.le_of_ble_eq_true rfl) ?_
    refine X.ifneB iX7_number_156 (fun c156 => ?_) (fun c156 => ?_)
    · first
      | (refine X.iload iX7_number_170 rfl ?_; exact X.iret iX7_number_172 ⟨rfl, by rw [c156]; rfl⟩)
      | (rw [mh98_3]; refine X.iload iX7_number_170 rfl ?_; exact X.iret iX7_number_172 ⟨rfl, by rw [c156]; rfl⟩)
    · refine X.aload iX7_number_159 rfl ?_
      refine X.pushi (v := bI true) iX7_number_160 ?_
      refine X.putz iX7_number_161 (by first | rfl | repeat (first | assumption | exact xup_eq _ _ _ | rw [xup_ne _ _ (by first | decide | omega | assumption)])) (Nat.le_of_ble_eq_true rfl) ?_
      rw [mh98_4]
      refine X.aload iX7_number_164 rfl ?_
      refine X.iload iX7_number_165 rfl ?_
      refine X.puti iX7_number_167 (by first | rfl | repeat (first | assumption | exact xup_eq _ _ _ | rw [xup_ne _ _ (by first | decide | omega | assumption)])) (Nat.le_of_ble_eq_true rfl) ?_
      first
      | (refine X.iload iX7_number_170 rfl ?_; exact X.iret iX7_number_172 ⟨rfl, by rw [c156]; rfl⟩)
      | (rw [mh98_3]; refine X.iload iX7_number_170 rfl ?_; exact X.iret iX7_number_172 ⟨rfl, by rw [c156]; rfl⟩)
theorem num_go {d n q : Nat} {lo hi : Int32} {x3 : Int32} {h : XH} {nw tp ro rd ud as kp la sz : Nat → Int32} {it mv : Nat → Int64} {ty pl : Int32} {fa : Bool} {un ku : Int32} {ik : Bool} (hn : n ≤ 90) (hq : q < n) (hD : isD (tp q) = true) (et : ty = nI n) : X xT mX7_number (xR (d + 1, 0, 0)) (0, 0) 55 [some (.ref 98), some (.int lo), some (.int hi), some (.int x3), some (.int (nI q)), some (.int (nI 0))] [] (mh h nw tp ro rd ud as kp la sz it mv ty (nI q) false un ku ik) (fun z h' => z = some (.int (nbrV tp n q)) ∧ h' = (mh h nw tp ro rd ud as kp la sz it mv ty (nI (if inI (nbrV tp n q) lo hi = true then nbrE tp n q else q)) (!(inI (nbrV tp n q) lo hi)) un ku ik)) := by
  subst et
  have s2 : ∀ v, two tp n (q + 1) = true → v = nbrV tp n q → X xT mX7_number (xR (d + 1, 0, 0)) (0, 0) 55 [some (.ref 98), some (.int lo), some (.int hi), some (.int x3), some (.int (nI q)), some (.int v)] [] (mh h nw tp ro rd ud as kp la sz it mv (nI n) (nI (q + 2)) false un ku ik) (fun z h' => z = some (.int (nbrV tp n q)) ∧ h' = (mh h nw tp ro rd ud as kp la sz it mv (nI n) (nI (if inI (nbrV tp n q) lo hi = true then nbrE tp n q else q)) (!(inI (nbrV tp n q) lo hi)) un ku ik)) := by
    intro v h2 hv
    have e2 : nbrE tp n q = q + 2 := by rw [nbrE, if_pos h2]
    rw [e2, ← hv]
    refine X.aload iX7_number_55 rfl ?_
    refine X.getf iX7_number_56 (by first | rfl | repeat (first | assumption | exact xup_eq _ _ _ | rw [xup_ne _ _ (by first | decide | omega | assumption)])) rfl ?_
    refine X.ifneB iX7_number_59 (fun c59 => ?_) (fun c59 => ?_)
    · exact absurd c59 (by decide)
    · refine X.aload iX7_number_62 rfl ?_
      refine X.getf iX7_number_63 (by first | rfl | repeat (first | assumption | exact xup_eq _ _ _ | rw [xup_ne _ _ (by first | decide | omega | assumption)])) rfl ?_
      refine X.aload iX7_number_66 rfl ?_
      refine X.getf iX7_number_67 (by first | rfl | repeat (first | assumption | exact xup_eq _ _ _ | rw [xup_ne _ _ (by first | decide | omega | assumption)])) rfl ?_
      refine X.cmge iX7_number_70 (fun c70 => ?_) (fun c70 => ?_)
      · exact num_end (pl := pl) (fa := fa)
      · refine X.aload iX7_number_73 rfl ?_
        refine X.getf iX7_number_74 (by first | rfl | repeat (first | assumption | exact xup_eq _ _ _ | rw [xup_ne _ _ (by first | decide | omega | assumption)])) rfl ?_
        refine X.iload iX7_number_77 rfl ?_
        refine X.isub iX7_number_79 ?_
        refine X.pushi (v := nI 2) iX7_number_80 ?_
        rw [pk_sub (show q ≤ q + 2 by omega), Nat.add_sub_cancel_left]
        refine X.cmge iX7_number_81 (fun c81 => ?_) (fun c81 => ?_)
        · exact num_end (pl := pl) (fa := fa)
        · exact absurd (Int32.le_refl _) c81
  have s1 : X xT mX7_number (xR (d + 1, 0, 0)) (0, 0) 55 [some (.ref 98), some (.int lo), some (.int hi), some (.int x3), some (.int (nI q)), some (.int (tp q - nI 48))] [] (mh h nw tp ro rd ud as kp la sz it mv (nI n) (nI (q + 1)) false un ku ik) (fun z h' => z = some (.int (nbrV tp n q)) ∧ h' = (mh h nw tp ro rd ud as kp la sz it mv (nI n) (nI (if inI (nbrV tp n q) lo hi = true then nbrE tp n q else q)) (!(inI (nbrV tp n q) lo hi)) un ku ik)) := by
    refine X.aload iX7_number_55 rfl ?_
    refine X.getf iX7_number_56 (by first | rfl | repeat (first | assumption | exact xup_eq _ _ _ | rw [xup_ne _ _ (by first | decide | omega | assumption)])) rfl ?_
    refine X.ifneB iX7_number_59 (fun c59 => ?_) (fun c59 => ?_)
    · exact absurd c59 (by decide)
    · refine X.aload iX7_number_62 rfl ?_
      refine X.getf iX7_number_63 (by first | rfl | repeat (first | assumption | exact xup_eq _ _ _ | rw [xup_ne _ _ (by first | decide | omega | assumption)])) rfl ?_
      refine X.aload iX7_number_66 rfl ?_
      refine X.getf iX7_number_67 (by first | rfl | repeat (first | assumption | exact xup_eq _ _ _ | rw [xup_ne _ _ (by first | decide | omega | assumption)])) rfl ?_
      refine X.cmge iX7_number_70 (fun c70 => ?_) (fun c70 => ?_)
      · have h2 : two tp n (q + 1) = false := by
          first
          | (rw [two, decide_eq_false (fun z => nI_ge z (by omega) c70), Bool.false_and]; done)
          | (rw [two, show isD (tp (q + 1)) = false from c103, Bool.and_false]; done)
        have e1 : nbrE tp n q = q + 1 := by rw [nbrE, h2]; rfl
        have e2 : nbrV tp n q = tp q - nI 48 := by rw [nbrV, h2]; rfl
        rw [e1, e2]
        exact num_end (pl := pl) (fa := fa)
      · refine X.aload iX7_number_73 rfl ?_
        refine X.getf iX7_number_74 (by first | rfl | repeat (first | assumption | exact xup_eq _ _ _ | rw [xup_ne _ _ (by first | decide | omega | assumption)])) rfl ?_
        refine X.iload iX7_number_77 rfl ?_
        refine X.isub iX7_number_79 ?_
        refine X.pushi (v := nI 2) iX7_number_80 ?_
        rw [pk_sub (show q ≤ q + 1 by omega), Nat.add_sub_cancel_left]
        refine X.cmge iX7_number_81 (fun c81 => ?_) (fun c81 => ?_)
        · exact absurd c81 (by decide)
        · have h1 : q + 1 < n := by
            rcases Nat.lt_or_ge (q + 1) n with z | z
            · exact z
            · exact absurd (nI_le z (by omega)) c70
          refine X.aload iX7_number_84 rfl ?_
          refine X.getf iX7_number_85 (by first | rfl | repeat (first | assumption | exact xup_eq _ _ _ | rw [xup_ne _ _ (by first | decide | omega | assumption)])) rfl ?_
          refine X.aload iX7_number_88 rfl ?_
          refine X.getf iX7_number_89 (by first | rfl | repeat (first | assumption | exact xup_eq _ _ _ | rw [xup_ne _ _ (by first | decide | omega | assumption)])) rfl ?_
          refine X.ialdN iX7_number_92 (by first | rfl | repeat (first | assumption | exact xup_eq _ _ _ | rw [xup_ne _ _ (by first | decide | omega | assumption)])) (by omega) (by decide) ?_
          refine X.i2l iX7_number_93 ?_
          refine X.pushl iX7_number_94 ?_
          refine X.pushl iX7_number_97 ?_
          refine X.callSi iX7_number_100 (c7_inI (d := d) (a := nI 48) (b := nI 57) (by decide) (by decide)) rfl rfl (xfit _ _ _) (Nat.le_of_ble_eq_true rfl) ?_
          refine X.ifeqB iX7_number_103 (fun c103 => ?_) (fun c103 => ?_)
          · have h2 : two tp n (q + 1) = false := by
              first
              | (rw [two, decide_eq_false (fun z => nI_ge z (by omega) c70), Bool.false_and]; done)
              | (rw [two, show isD (tp (q + 1)) = false from c103, Bool.and_false]; done)
            have e1 : nbrE tp n q = q + 1 := by rw [nbrE, h2]; rfl
            have e2 : nbrV tp n q = tp q - nI 48 := by rw [nbrV, h2]; rfl
            rw [e1, e2]
            exact num_end (pl := pl) (fa := fa)
          · refine X.pushi (v := nI 10) iX7_number_106 ?_
            refine X.iload iX7_number_108 rfl ?_
            refine X.imul iX7_number_110 ?_
            refine X.aload iX7_number_111 rfl ?_
            refine X.getf iX7_number_112 (by first | rfl | repeat (first | assumption | exact xup_eq _ _ _ | rw [xup_ne _ _ (by first | decide | omega | assumption)])) rfl ?_
            refine X.aload iX7_number_115 rfl ?_
            refine X.getf iX7_number_116 (by first | rfl | repeat (first | assumption | exact xup_eq _ _ _ | rw [xup_ne _ _ (by first | decide | omega | assumption)])) rfl ?_
            refine X.ialdN iX7_number_119 (by first | rfl | repeat (first | assumption | exact xup_eq _ _ _ | rw [xup_ne _ _ (by first | decide | omega | assumption)])) (by omega) (by decide) ?_
            refine X.iadd iX7_number_120 ?_
            refine X.pushi (v := nI 48) iX7_number_121 ?_
            refine X.isub iX7_number_123 ?_
            refine X.istore iX7_number_124 rfl rfl ?_
            refine X.aload iX7_number_126 rfl ?_
            refine X.dupa iX7_number_127 ?_
            refine X.getf iX7_number_128 (by first | rfl | repeat (first | assumption | exact xup_eq _ _ _ | rw [xup_ne _ _ (by first | decide | omega | assumption)])) rfl ?_
            refine X.pushi (v := nI 1) iX7_number_131 ?_
            refine X.iadd iX7_number_132 ?_
            rw [nI_add]
            refine X.puti iX7_number_133 (by first | rfl | repeat (first | assumption | exact xup_eq _ _ _ | rw [xup_ne _ _ (by first | decide | omega | assumption)])) (Nat.le_of_ble_eq_true rfl) ?_
            rw [mh98_3]
            refine X.goto iX7_number_136 ?_
            have h2 : two tp n (q + 1) = true := by rw [two, decide_eq_true h1, Bool.true_and]; exact c103
            exact s2 _ h2 (by rw [nbrV, if_pos h2])
  refine X.aload iX7_number_55 rfl ?_
  refine X.getf iX7_number_56 (by first | rfl | repeat (first | assumption | exact xup_eq _ _ _ | rw [xup_ne _ _ (by first | decide | omega | assumption)])) rfl ?_
  refine X.ifneB iX7_number_59 (fun c59 => ?_) (fun c59 => ?_)
  · exact absurd c59 (by decide)
  · refine X.aload iX7_number_62 rfl ?_
    refine X.getf iX7_number_63 (by first | rfl | repeat (first | assumption | exact xup_eq _ _ _ | rw [xup_ne _ _ (by first | decide | omega | assumption)])) rfl ?_
    refine X.aload iX7_number_66 rfl ?_
    refine X.getf iX7_number_67 (by first | rfl | repeat (first | assumption | exact xup_eq _ _ _ | rw [xup_ne _ _ (by first | decide | omega | assumption)])) rfl ?_
    refine X.cmge iX7_number_70 (fun c70 => ?_) (fun c70 => ?_)
    · exact absurd c70 (nI_ge hq (by omega))
    · refine X.aload iX7_number_73 rfl ?_
      refine X.getf iX7_number_74 (by first | rfl | repeat (first | assumption | exact xup_eq _ _ _ | rw [xup_ne _ _ (by first | decide | omega | assumption)])) rfl ?_
      refine X.iload iX7_number_77 rfl ?_
      refine X.isub iX7_number_79 ?_
      refine X.pushi (v := nI 2) iX7_number_80 ?_
      rw [pk_sub (Nat.le_refl _), Nat.sub_self]
      refine X.cmge iX7_number_81 (fun c81 => ?_) (fun c81 => ?_)
      · exact absurd c81 (by decide)
      · refine X.aload iX7_number_84 rfl ?_
        refine X.getf iX7_number_85 (by first | rfl | repeat (first | assumption | exact xup_eq _ _ _ | rw [xup_ne _ _ (by first | decide | omega | assumption)])) rfl ?_
        refine X.aload iX7_number_88 rfl ?_
        refine X.getf iX7_number_89 (by first | rfl | repeat (first | assumption | exact xup_eq _ _ _ | rw [xup_ne _ _ (by first | decide | omega | assumption)])) rfl ?_
        refine X.ialdN iX7_number_92 (by first | rfl | repeat (first | assumption | exact xup_eq _ _ _ | rw [xup_ne _ _ (by first | decide | omega | assumption)])) (by omega) (by decide) ?_
        refine X.i2l iX7_number_93 ?_
        refine X.pushl iX7_number_94 ?_
        refine X.pushl iX7_number_97 ?_
        refine X.callSi iX7_number_100 (c7_inI (d := d) (a := nI 48) (b := nI 57) (by decide) (by decide)) rfl rfl (xfit _ _ _) (Nat.le_of_ble_eq_true rfl) ?_
        refine X.ifeqB iX7_number_103 (fun c103 => ?_) (fun c103 => ?_)
        · exact absurd (c103.symm.trans hD) (by decide)
        · refine X.pushi (v := nI 10) iX7_number_106 ?_
          refine X.iload iX7_number_108 rfl ?_
          refine X.imul iX7_number_110 ?_
          refine X.aload iX7_number_111 rfl ?_
          refine X.getf iX7_number_112 (by first | rfl | repeat (first | assumption | exact xup_eq _ _ _ | rw [xup_ne _ _ (by first | decide | omega | assumption)])) rfl ?_
          refine X.aload iX7_number_115 rfl ?_
          refine X.getf iX7_number_116 (by first | rfl | repeat (first | assumption | exact xup_eq _ _ _ | rw [xup_ne _ _ (by first | decide | omega | assumption)])) rfl ?_
          refine X.ialdN iX7_number_119 (by first | rfl | repeat (first | assumption | exact xup_eq _ _ _ | rw [xup_ne _ _ (by first | decide | omega | assumption)])) (by omega) (by decide) ?_
          refine X.iadd iX7_number_120 ?_
          refine X.pushi (v := nI 48) iX7_number_121 ?_
          refine X.isub iX7_number_123 ?_
          rw [show nI 10 * nI 0 = 0 by decide, Int32.zero_add]
          refine X.istore iX7_number_124 rfl rfl ?_
          refine X.aload iX7_number_126 rfl ?_
          refine X.dupa iX7_number_127 ?_
          refine X.getf iX7_number_128 (by first | rfl | repeat (first | assumption | exact xup_eq _ _ _ | rw [xup_ne _ _ (by first | decide | omega | assumption)])) rfl ?_
          refine X.pushi (v := nI 1) iX7_number_131 ?_
          refine X.iadd iX7_number_132 ?_
          rw [nI_add]
          refine X.puti iX7_number_133 (by first | rfl | repeat (first | assumption | exact xup_eq _ _ _ | rw [xup_ne _ _ (by first | decide | omega | assumption)])) (Nat.le_of_ble_eq_true rfl) ?_
          rw [mh98_3]
          refine X.goto iX7_number_136 ?_
          exact s1
theorem c_X7_number {d n p : Nat} {lo hi : Int32} {h : XH} {nw tp ro rd ud as kp la sz : Nat → Int32} {it mv : Nat → Int64} {ty pl : Int32} {fa : Bool} {un ku : Int32} {ik : Bool} (hn : n ≤ 90) (hp : p ≤ n) (ep : pl = nI p) (et : ty = nI n) : MetH mX7_number (d + 1, 0, 0) [.ref 98, .int lo, .int hi] (mh h nw tp ro rd ud as kp la sz it mv ty pl fa un ku ik) (nbr tp n lo hi p fa).1 (mh h nw tp ro rd ud as kp la sz it mv ty (nI (nbr tp n lo hi p fa).2.1) ((nbr tp n lo hi p fa).2.2) un ku ik) := by
  subst ep
  subst et
  have hs := sk_le (tp := tp) hp
  have bad : ∀ (r : Nat) (c : Int32), X xT mX7_number (xR (d + 1, 0, 0)) (0, 0) 55 [some (.ref 98), some (.int lo), some (.int hi), some (.int c), some (.int (nI r)), some (.int (nI 0))] [] (mh h nw tp ro rd ud as kp la sz it mv (nI n) (nI r) true un ku ik) (fun z h' => z = some (.int (nI 0)) ∧ h' = (mh h nw tp ro rd ud as kp la sz it mv (nI n) (nI r) true un ku ik)) := by
    intro r c
    refine X.aload iX7_number_55 rfl ?_
    refine X.getf iX7_number_56 (by first | rfl | repeat (first | assumption | exact xup_eq _ _ _ | rw [xup_ne _ _ (by first | decide | omega | assumption)])) rfl ?_
    refine X.ifneB iX7_number_59 (fun c59 => ?_) (fun c59 => ?_)
    · refine X.aload iX7_number_139 rfl ?_
      refine X.getf iX7_number_140 (by first | rfl | repeat (first | assumption | exact xup_eq _ _ _ | rw [xup_ne _ _ (by first | decide | omega | assumption)])) rfl ?_
      refine X.ifneB iX7_number_143 (fun c143 => ?_) (fun c143 => ?_)
      · refine X.iload iX7_number_170 rfl ?_
        exact X.iret iX7_number_172 ⟨rfl, rfl⟩
      · exact absurd c143 (by decide)
    · exact absurd c59 (by decide)
  refine MetX.of (by decide) rfl (Nat.le_of_ble_eq_true rfl) ?_
  refine X.aload iX7_number_0 rfl ?_
  refine X.getf iX7_number_1 (by first | rfl | repeat (first | assumption | exact xup_eq _ _ _ | rw [xup_ne _ _ (by first | decide | omega | assumption)])) rfl ?_
  refine X.ifeqB iX7_number_4 (fun c4 => ?_) (fun c4 => ?_)
  · refine X.aload iX7_number_11 rfl ?_
    refine X.callVi iX7_number_12 (c_X7_here (d := d) hn hp rfl rfl) (by first | rfl | repeat (first | assumption | exact xup_eq _ _ _ | rw [xup_ne _ _ (by first | decide | omega | assumption)])) rfl rfl (xfit _ _ _) (Nat.le_of_ble_eq_true rfl) ?_
    refine X.istore iX7_number_15 rfl rfl ?_
    refine X.aload iX7_number_16 rfl ?_
    refine X.getf iX7_number_17 (by first | rfl | repeat (first | assumption | exact xup_eq _ _ _ | rw [xup_ne _ _ (by first | decide | omega | assumption)])) rfl ?_
    refine X.istore iX7_number_20 rfl rfl ?_
    refine X.pushi (v := nI 0) iX7_number_22 ?_
    refine X.istore iX7_number_23 rfl rfl ?_
    refine X.aload iX7_number_25 rfl ?_
    refine X.aload iX7_number_26 rfl ?_
    refine X.getf iX7_number_27 (by first | rfl | repeat (first | assumption | exact xup_eq _ _ _ | rw [xup_ne _ _ (by first | decide | omega | assumption)])) rfl ?_
    refine X.ifneB iX7_number_30 (fun c30 => ?_) (fun c30 => ?_)
    · refine X.pushi (v := bI true) iX7_number_47 ?_
      refine X.goto iX7_number_48 ?_
      refine X.putz iX7_number_52 (by first | rfl | repeat (first | assumption | exact xup_eq _ _ _ | rw [xup_ne _ _ (by first | decide | omega | assumption)])) (Nat.le_of_ble_eq_true rfl) ?_
      rw [mh98_4]
      first
      | (exact absurd (c4.symm.trans c30) (by decide))
      | (exact absurd (c30.symm.trans c4) (by decide))
      | (rw [nbr, if_pos c4]; exact bad p _)
      | skip
      all_goals rw [nbr, if_neg (fun q => Bool.noConfusion (c4.symm.trans q))]
      all_goals first
      | (exact absurd (c30.symm.trans c4) (by decide))
      | (rw [if_neg (fun q => Bool.noConfusion ((show isD _ = false from c44).symm.trans q))]; exact bad _ _)
      | skip
      all_goals
        rw [if_pos (show isD (ltr tp n (sk tp n p)) = true from c44)]
        obtain ⟨g1, g2⟩ := ltr_D (show isD (ltr tp n (sk tp n p)) = true from c44)
        refine X.imp (num_go (ty := nI n) (pl := nI p) (fa := fa) hn g1 (by rw [← g2]; exact c44) rfl) (fun v h' q => ?_)
        cases hz : inI (nbrV tp n (sk tp n p)) lo hi
        · rw [hz] at q; exact q
        · rw [hz] at q; exact q
    · refine X.iload iX7_number_33 rfl ?_
      refine X.i2l iX7_number_34 ?_
      refine X.pushl iX7_number_35 ?_
      refine X.pushl iX7_number_38 ?_
      refine X.callSi iX7_number_41 (c7_inI (d := d) (a := nI 48) (b := nI 57) (by decide) (by decide)) rfl rfl (xfit _ _ _) (Nat.le_of_ble_eq_true rfl) ?_
      refine X.ifneB iX7_number_44 (fun c44 => ?_) (fun c44 => ?_)
      · refine X.pushi (v := bI false) iX7_number_51 ?_
        refine X.putz iX7_number_52 (by first | rfl | repeat (first | assumption | exact xup_eq _ _ _ | rw [xup_ne _ _ (by first | decide | omega | assumption)])) (Nat.le_of_ble_eq_true rfl) ?_
        rw [mh98_4]
        first
        | (exact absurd (c4.symm.trans c30) (by decide))
        | (exact absurd (c30.symm.trans c4) (by decide))
        | (rw [nbr, if_pos c4]; exact bad p _)
        | skip
        all_goals rw [nbr, if_neg (fun q => Bool.noConfusion (c4.symm.trans q))]
        all_goals first
        | (exact absurd (c30.symm.trans c4) (by decide))
        | (rw [if_neg (fun q => Bool.noConfusion ((show isD _ = false from c44).symm.trans q))]; exact bad _ _)
        | skip
        all_goals
          rw [if_pos (show isD (ltr tp n (sk tp n p)) = true from c44)]
          obtain ⟨g1, g2⟩ := ltr_D (show isD (ltr tp n (sk tp n p)) = true from c44)
          refine X.imp (num_go (ty := nI n) (pl := nI p) (fa := fa) hn g1 (by rw [← g2]; exact c44) rfl) (fun v h' q => ?_)
          cases hz : inI (nbrV tp n (sk tp n p)) lo hi
          · rw [hz] at q; exact q
          · rw [hz] at q; exact q
      · refine X.pushi (v := bI true) iX7_number_47 ?_
        refine X.goto iX7_number_48 ?_
        refine X.putz iX7_number_52 (by first | rfl | repeat (first | assumption | exact xup_eq _ _ _ | rw [xup_ne _ _ (by first | decide | omega | assumption)])) (Nat.le_of_ble_eq_true rfl) ?_
        rw [mh98_4]
        first
        | (exact absurd (c4.symm.trans c30) (by decide))
        | (exact absurd (c30.symm.trans c4) (by decide))
        | (rw [nbr, if_pos c4]; exact bad p _)
        | skip
        all_goals rw [nbr, if_neg (fun q => Bool.noConfusion (c4.symm.trans q))]
        all_goals first
        | (exact absurd (c30.symm.trans c4) (by decide))
        | (rw [if_neg (fun q => Bool.noConfusion ((show isD _ = false from c44).symm.trans q))]; exact bad _ _)
        | skip
        all_goals
          rw [if_pos (show isD (ltr tp n (sk tp n p)) = true from c44)]
          obtain ⟨g1, g2⟩ := ltr_D (show isD (ltr tp n (sk tp n p)) = true from c44)
          refine X.imp (num_go (ty := nI n) (pl := nI p) (fa := fa) hn g1 (by rw [← g2]; exact c44) rfl) (fun v h' q => ?_)
          cases hz : inI (nbrV tp n (sk tp n p)) lo hi
          · rw [hz] at q; exact q
          · rw [hz] at q; exact q
  · refine X.pushi (v := nI 0) iX7_number_7 ?_
    refine X.goto iX7_number_8 ?_
    refine X.istore iX7_number_15 rfl rfl ?_
    refine X.aload iX7_number_16 rfl ?_
    refine X.getf iX7_number_17 (by first | rfl | repeat (first | assumption | exact xup_eq _ _ _ | rw [xup_ne _ _ (by first | decide | omega | assumption)])) rfl ?_
    refine X.istore iX7_number_20 rfl rfl ?_
    refine X.pushi (v := nI 0) iX7_number_22 ?_
    refine X.istore iX7_number_23 rfl rfl ?_
    refine X.aload iX7_number_25 rfl ?_
    refine X.aload iX7_number_26 rfl ?_
    refine X.getf iX7_number_27 (by first | rfl | repeat (first | assumption | exact xup_eq _ _ _ | rw [xup_ne _ _ (by first | decide | omega | assumption)])) rfl ?_
    refine X.ifneB iX7_number_30 (fun c30 => ?_) (fun c30 => ?_)
    · refine X.pushi (v := bI true) iX7_number_47 ?_
      refine X.goto iX7_number_48 ?_
      refine X.putz iX7_number_52 (by first | rfl | repeat (first | assumption | exact xup_eq _ _ _ | rw [xup_ne _ _ (by first | decide | omega | assumption)])) (Nat.le_of_ble_eq_true rfl) ?_
      rw [mh98_4]
      first
      | (exact absurd (c4.symm.trans c30) (by decide))
      | (exact absurd (c30.symm.trans c4) (by decide))
      | (rw [nbr, if_pos c4]; exact bad p _)
      | skip
      all_goals rw [nbr, if_neg (fun q => Bool.noConfusion (c4.symm.trans q))]
      all_goals first
      | (exact absurd (c30.symm.trans c4) (by decide))
      | (rw [if_neg (fun q => Bool.noConfusion ((show isD _ = false from c44).symm.trans q))]; exact bad _ _)
      | skip
      all_goals
        rw [if_pos (show isD (ltr tp n (sk tp n p)) = true from c44)]
        obtain ⟨g1, g2⟩ := ltr_D (show isD (ltr tp n (sk tp n p)) = true from c44)
        refine X.imp (num_go (ty := nI n) (pl := nI p) (fa := fa) hn g1 (by rw [← g2]; exact c44) rfl) (fun v h' q => ?_)
        cases hz : inI (nbrV tp n (sk tp n p)) lo hi
        · rw [hz] at q; exact q
        · rw [hz] at q; exact q
    · refine X.iload iX7_number_33 rfl ?_
      refine X.i2l iX7_number_34 ?_
      refine X.pushl iX7_number_35 ?_
      refine X.pushl iX7_number_38 ?_
      refine X.callSi iX7_number_41 (c7_inI (d := d) (a := nI 48) (b := nI 57) (by decide) (by decide)) rfl rfl (xfit _ _ _) (Nat.le_of_ble_eq_true rfl) ?_
      refine X.ifneB iX7_number_44 (fun c44 => ?_) (fun c44 => ?_)
      · refine X.pushi (v := bI false) iX7_number_51 ?_
        refine X.putz iX7_number_52 (by first | rfl | repeat (first | assumption | exact xup_eq _ _ _ | rw [xup_ne _ _ (by first | decide | omega | assumption)])) (Nat.le_of_ble_eq_true rfl) ?_
        rw [mh98_4]
        first
        | (exact absurd (c4.symm.trans c30) (by decide))
        | (exact absurd (c30.symm.trans c4) (by decide))
        | (rw [nbr, if_pos c4]; exact bad p _)
        | skip
        all_goals rw [nbr, if_neg (fun q => Bool.noConfusion (c4.symm.trans q))]
        all_goals first
        | (exact absurd (c30.symm.trans c4) (by decide))
        | (rw [if_neg (fun q => Bool.noConfusion ((show isD _ = false from c44).symm.trans q))]; exact bad _ _)
        | skip
        all_goals
          rw [if_pos (show isD (ltr tp n (sk tp n p)) = true from c44)]
          obtain ⟨g1, g2⟩ := ltr_D (show isD (ltr tp n (sk tp n p)) = true from c44)
          refine X.imp (num_go (ty := nI n) (pl := nI p) (fa := fa) hn g1 (by rw [← g2]; exact c44) rfl) (fun v h' q => ?_)
          cases hz : inI (nbrV tp n (sk tp n p)) lo hi
          · rw [hz] at q; exact q
          · rw [hz] at q; exact q
      · refine X.pushi (v := bI true) iX7_number_47 ?_
        refine X.goto iX7_number_48 ?_
        refine X.putz iX7_number_52 (by first | rfl | repeat (first | assumption | exact xup_eq _ _ _ | rw [xup_ne _ _ (by first | decide | omega | assumption)])) (Nat.le_of_ble_eq_true rfl) ?_
        rw [mh98_4]
        first
        | (exact absurd (c4.symm.trans c30) (by decide))
        | (exact absurd (c30.symm.trans c4) (by decide))
        | (rw [nbr, if_pos c4]; exact bad p _)
        | skip
        all_goals rw [nbr, if_neg (fun q => Bool.noConfusion (c4.symm.trans q))]
        all_goals first
        | (exact absurd (c30.symm.trans c4) (by decide))
        | (rw [if_neg (fun q => Bool.noConfusion ((show isD _ = false from c44).symm.trans q))]; exact bad _ _)
        | skip
        all_goals
          rw [if_pos (show isD (ltr tp n (sk tp n p)) = true from c44)]
          obtain ⟨g1, g2⟩ := ltr_D (show isD (ltr tp n (sk tp n p)) = true from c44)
          refine X.imp (num_go (ty := nI n) (pl := nI p) (fa := fa) hn g1 (by rw [← g2]; exact c44) rfl) (fun v h' q => ?_)
          cases hz : inI (nbrV tp n (sk tp n p)) lo hi
          · rw [hz] at q; exact q
          · rw [hz] at q; exact q
