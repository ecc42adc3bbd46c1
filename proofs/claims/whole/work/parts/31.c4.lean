/-! the class: Orchards and Moments become others -/
abbrev ocS (o : Nat) (O : Oc) : List Value := ofs o (nI O.nT) (nI O.nL) O.ba O.wa
def setO (h : XH) (o : Nat) (O : Oc) : XH := fun i => if i = o then some (.inr (3, ocS o O)) else if i = o + 1 then some (IA 6 O.hi) else if i = o + 2 then some (IA 6 O.ri) else if i = o + 3 then some (IA 4 O.ki) else if i = o + 4 then some (IA 4 O.le) else if i = o + 5 then some (IA 4 O.pr) else h i
theorem sO0 (h : XH) (o : Nat) (O : Oc) : setO h o O o = some (.inr (3, ocS o O)) := if_pos rfl
theorem sO1 (h : XH) (o : Nat) (O : Oc) : setO h o O (o + 1) = some (IA 6 O.hi) := by rw [setO, if_neg (by omega), if_pos rfl]
theorem sO2 (h : XH) (o : Nat) (O : Oc) : setO h o O (o + 2) = some (IA 6 O.ri) := by rw [setO, if_neg (by omega), if_neg (by omega), if_pos rfl]
theorem sO3 (h : XH) (o : Nat) (O : Oc) : setO h o O (o + 3) = some (IA 4 O.ki) := by rw [setO, if_neg (by omega), if_neg (by omega), if_neg (by omega), if_pos rfl]
theorem sO4 (h : XH) (o : Nat) (O : Oc) : setO h o O (o + 4) = some (IA 4 O.le) := by rw [setO, if_neg (by omega), if_neg (by omega), if_neg (by omega), if_neg (by omega), if_pos rfl]
theorem sO5 (h : XH) (o : Nat) (O : Oc) : setO h o O (o + 5) = some (IA 4 O.pr) := by rw [setO, if_neg (by omega), if_neg (by omega), if_neg (by omega), if_neg (by omega), if_neg (by omega), if_pos rfl]
theorem sOo (h : XH) {o i : Nat} (O : Oc) (hi : i < o ∨ o + 5 < i) : setO h o O i = h i := by rw [setO, if_neg (by omega), if_neg (by omega), if_neg (by omega), if_neg (by omega), if_neg (by omega), if_neg (by omega)]
theorem sO_is (h : XH) (o : Nat) (O : Oc) : IsO (setO h o O) o O := ⟨sO0 h o O, sO1 h o O, sO2 h o O, sO3 h o O, sO4 h o O, sO5 h o O⟩
theorem sO_eq {h p : XH} {o : Nat} {O : Oc} (H : IsO p o O) (h3 : ∀ i, i < o ∨ o + 5 < i → p i = h i) : p = setO h o O := by
  obtain ⟨h0, h1, h2, h4, h5, h6⟩ := H
  funext i
  by_cases q0 : i = o
  · rw [q0, sO0, h0]
  by_cases q1 : i = o + 1
  · rw [q1, sO1, h1]
  by_cases q2 : i = o + 2
  · rw [q2, sO2, h2]
  by_cases q3 : i = o + 3
  · rw [q3, sO3, h4]
  by_cases q4 : i = o + 4
  · rw [q4, sO4, h5]
  by_cases q5 : i = o + 5
  · rw [q5, sO5, h6]
  rw [sOo h O (by omega)]
  exact h3 i (by omega)
theorem IsO.set {h : XH} {o : Nat} {O : Oc} (H : IsO h o O) : setO h o O = h := (sO_eq H (fun _ _ => rfl)).symm
theorem sO_sO (h : XH) (o : Nat) (O O' : Oc) : setO (setO h o O) o O' = setO h o O' := sO_eq (sO_is _ _ _) (fun i q => by rw [sOo _ _ q, sOo _ _ q])
theorem sO_1 (h : XH) (o : Nat) (O : Oc) (f : Nat → Int32) : xup (setO h o O) (o + 1) (IA 6 f) = setO h o (Oc.mk O.nT O.nL O.ba O.wa f O.ri O.ki O.le O.pr) := by
  refine sO_eq ⟨?_, xup_eq _ _ _, ?_, ?_, ?_, ?_⟩ (fun i q => by rw [xup_ne _ _ (by omega)]; exact sOo h O q) <;> rw [xup_ne _ _ (by omega)]
  · exact sO0 h o O
  · exact sO2 h o O
  · exact sO3 h o O
  · exact sO4 h o O
  · exact sO5 h o O
theorem sO_2 (h : XH) (o : Nat) (O : Oc) (f : Nat → Int32) : xup (setO h o O) (o + 2) (IA 6 f) = setO h o (Oc.mk O.nT O.nL O.ba O.wa O.hi f O.ki O.le O.pr) := by
  refine sO_eq ⟨?_, ?_, xup_eq _ _ _, ?_, ?_, ?_⟩ (fun i q => by rw [xup_ne _ _ (by omega)]; exact sOo h O q) <;> rw [xup_ne _ _ (by omega)]
  · exact sO0 h o O
  · exact sO1 h o O
  · exact sO3 h o O
  · exact sO4 h o O
  · exact sO5 h o O
theorem sO_3 (h : XH) (o : Nat) (O : Oc) (f : Nat → Int32) : xup (setO h o O) (o + 3) (IA 4 f) = setO h o (Oc.mk O.nT O.nL O.ba O.wa O.hi O.ri f O.le O.pr) := by
  refine sO_eq ⟨?_, ?_, ?_, xup_eq _ _ _, ?_, ?_⟩ (fun i q => by rw [xup_ne _ _ (by omega)]; exact sOo h O q) <;> rw [xup_ne _ _ (by omega)]
  · exact sO0 h o O
  · exact sO1 h o O
  · exact sO2 h o O
  · exact sO4 h o O
  · exact sO5 h o O
theorem sO_4 (h : XH) (o : Nat) (O : Oc) (f : Nat → Int32) : xup (setO h o O) (o + 4) (IA 4 f) = setO h o (Oc.mk O.nT O.nL O.ba O.wa O.hi O.ri O.ki f O.pr) := by
  refine sO_eq ⟨?_, ?_, ?_, ?_, xup_eq _ _ _, ?_⟩ (fun i q => by rw [xup_ne _ _ (by omega)]; exact sOo h O q) <;> rw [xup_ne _ _ (by omega)]
  · exact sO0 h o O
  · exact sO1 h o O
  · exact sO2 h o O
  · exact sO3 h o O
  · exact sO5 h o O
theorem sO_5 (h : XH) (o : Nat) (O : Oc) (f : Nat → Int32) : xup (setO h o O) (o + 5) (IA 4 f) = setO h o (Oc.mk O.nT O.nL O.ba O.wa O.hi O.ri O.ki O.le f) := by
  refine sO_eq ⟨?_, ?_, ?_, ?_, ?_, xup_eq _ _ _⟩ (fun i q => by rw [xup_ne _ _ (by omega)]; exact sOo h O q) <;> rw [xup_ne _ _ (by omega)]
  · exact sO0 h o O
  · exact sO1 h o O
  · exact sO2 h o O
  · exact sO3 h o O
  · exact sO4 h o O
theorem sO_ob (h : XH) (o : Nat) (O : Oc) (nT nL : Nat) (ba wa : Int32) : xup (setO h o O) o (.inr (3, ofs o (nI nT) (nI nL) ba wa)) = setO h o (Oc.mk nT nL ba wa O.hi O.ri O.ki O.le O.pr) := by
  refine sO_eq ⟨xup_eq _ _ _, ?_, ?_, ?_, ?_, ?_⟩ (fun i q => by rw [xup_ne _ _ (by omega)]; exact sOo h O q) <;> rw [xup_ne _ _ (by omega)]
  · exact sO1 h o O
  · exact sO2 h o O
  · exact sO3 h o O
  · exact sO4 h o O
  · exact sO5 h o O
theorem sO_nT (h : XH) (o : Nat) (O : Oc) (x : Nat) : xup (setO h o O) o (.inr (3, (ocS o O).set 0 (.int (nI x)))) = setO h o (Oc.mk x O.nL O.ba O.wa O.hi O.ri O.ki O.le O.pr) := sO_ob h o O x O.nL O.ba O.wa
theorem sO_nL (h : XH) (o : Nat) (O : Oc) (x : Nat) : xup (setO h o O) o (.inr (3, (ocS o O).set 1 (.int (nI x)))) = setO h o (Oc.mk O.nT x O.ba O.wa O.hi O.ri O.ki O.le O.pr) := sO_ob h o O O.nT x O.ba O.wa
theorem sO_ba (h : XH) (o : Nat) (O : Oc) (x : Int32) : xup (setO h o O) o (.inr (3, (ocS o O).set 2 (.int x))) = setO h o (Oc.mk O.nT O.nL x O.wa O.hi O.ri O.ki O.le O.pr) := sO_ob h o O O.nT O.nL x O.wa
theorem sO_wa (h : XH) (o : Nat) (O : Oc) (x : Int32) : xup (setO h o O) o (.inr (3, (ocS o O).set 3 (.int x))) = setO h o (Oc.mk O.nT O.nL O.ba x O.hi O.ri O.ki O.le O.pr) := sO_ob h o O O.nT O.nL O.ba x
/-- an Orchard's cells and its Moment's -/
theorem sMO (h : XH) {o m : Nat} (O : Oc) (M : Mo) (q : m + 2 < o ∨ o + 5 < m) : setM (setO h o O) m M = setO (setM h m M) o O := by
  refine sO_eq ((sO_is h o O).off M q) (fun i qi => ?_)
  by_cases r : i < m ∨ m + 2 < i
  · rw [sMo _ _ r, sMo _ _ r, sOo _ _ qi]
  · have : i = m ∨ i = m + 1 ∨ i = m + 2 := by omega
    rcases this with e | e | e
    · rw [e, sM0, sM0]
    · rw [e, sM1, sM1]
    · rw [e, sM2, sM2]
theorem va_cpy0 (f g : Nat → Int32) (n : Nat) : va_cpy f g 0 0 n = cp f g n := by
  funext i
  unfold va_cpy cp
  by_cases q : i < n
  · rw [if_pos q]
    simp [q]
  · rw [if_neg q]
    simp [q]
def cpM (N M : Mo) : Mo := (Mo.mk (cp N.fr M.fr 6) (cp N.ln M.ln 4) N.got N.paid N.lost N.day N.draw)
theorem c_X2_become {d m n : Nat} {h : XH} {M N : Mo} (HN : IsM h n N) (q : n + 2 < m ∨ m + 2 < n) : MetV mX2_become (d + 1, 0, 0) [.ref m, .ref n] (setM h m M) (setM h m (cpM N M)) := by
  obtain ⟨n0, n1, n2⟩ := id HN
  have z0 : setM h m M n = some (.inr (2, moS n N)) := by rw [sMo _ _ (by omega)]; exact n0
  have z1 : setM h m M (n + 1) = some (IA 6 N.fr) := by rw [sMo _ _ (by omega)]; exact n1
  refine MetX.of (by decide) rfl (Nat.le_of_ble_eq_true rfl) ?_
  refine X.aload iX2_become_0 rfl ?_
  refine X.getf iX2_become_1 (by first | assumption | exact sM0 _ _ _ | exact sM1 _ _ _ | exact sM2 _ _ _ | exact sO0 _ _ _ | exact sO1 _ _ _ | exact sO2 _ _ _ | exact sO3 _ _ _ | exact sO4 _ _ _ | exact sO5 _ _ _ | rfl | repeat (first | assumption | exact xup_eq _ _ _ | exact sM0 _ _ _ | exact sM1 _ _ _ | exact sM2 _ _ _ | exact sO0 _ _ _ | exact sO1 _ _ _ | exact sO2 _ _ _ | exact sO3 _ _ _ | exact sO4 _ _ _ | exact sO5 _ _ _ | rw [xup_ne _ _ (by first | decide | omega | assumption)] | rw [sMo _ _ (by omega)] | rw [sOo _ _ (by omega)])) rfl ?_
  refine X.pushi (v := nI 0) iX2_become_4 ?_
  refine X.aload iX2_become_5 rfl ?_
  refine X.getf iX2_become_6 (by first | assumption | exact sM0 _ _ _ | exact sM1 _ _ _ | exact sM2 _ _ _ | exact sO0 _ _ _ | exact sO1 _ _ _ | exact sO2 _ _ _ | exact sO3 _ _ _ | exact sO4 _ _ _ | exact sO5 _ _ _ | rfl | repeat (first | assumption | exact xup_eq _ _ _ | exact sM0 _ _ _ | exact sM1 _ _ _ | exact sM2 _ _ _ | exact sO0 _ _ _ | exact sO1 _ _ _ | exact sO2 _ _ _ | exact sO3 _ _ _ | exact sO4 _ _ _ | exact sO5 _ _ _ | rw [xup_ne _ _ (by first | decide | omega | assumption)] | rw [sMo _ _ (by omega)] | rw [sOo _ _ (by omega)])) rfl ?_
  refine X.pushi (v := nI 0) iX2_become_9 ?_
  refine X.pushi (v := nI 6) iX2_become_10 ?_
  refine X.copyi iX2_become_12 z1 (sM1 _ _ _) (xfit0 _ _ _) (Nat.le_of_ble_eq_true rfl) (by decide) (by decide) (by decide) (by decide) (by decide) ?_
  refine X.heap (h' := setM h m (Mo.mk (cp N.fr M.fr 6) M.ln M.got M.paid M.lost M.day M.draw)) ((congrArg (fun f => xup (setM h m M) (m + 1) (IA 6 f)) (va_cpy0 N.fr M.fr 6)).trans (sM_fr h m M _)) ?_
  refine X.aload iX2_become_15 rfl ?_
  refine X.getf iX2_become_16 (by first | assumption | exact sM0 _ _ _ | exact sM1 _ _ _ | exact sM2 _ _ _ | exact sO0 _ _ _ | exact sO1 _ _ _ | exact sO2 _ _ _ | exact sO3 _ _ _ | exact sO4 _ _ _ | exact sO5 _ _ _ | rfl | repeat (first | assumption | exact xup_eq _ _ _ | exact sM0 _ _ _ | exact sM1 _ _ _ | exact sM2 _ _ _ | exact sO0 _ _ _ | exact sO1 _ _ _ | exact sO2 _ _ _ | exact sO3 _ _ _ | exact sO4 _ _ _ | exact sO5 _ _ _ | rw [xup_ne _ _ (by first | decide | omega | assumption)] | rw [sMo _ _ (by omega)] | rw [sOo _ _ (by omega)])) rfl ?_
  refine X.pushi (v := nI 0) iX2_become_19 ?_
  refine X.aload iX2_become_20 rfl ?_
  refine X.getf iX2_become_21 (by first | assumption | exact sM0 _ _ _ | exact sM1 _ _ _ | exact sM2 _ _ _ | exact sO0 _ _ _ | exact sO1 _ _ _ | exact sO2 _ _ _ | exact sO3 _ _ _ | exact sO4 _ _ _ | exact sO5 _ _ _ | rfl | repeat (first | assumption | exact xup_eq _ _ _ | exact sM0 _ _ _ | exact sM1 _ _ _ | exact sM2 _ _ _ | exact sO0 _ _ _ | exact sO1 _ _ _ | exact sO2 _ _ _ | exact sO3 _ _ _ | exact sO4 _ _ _ | exact sO5 _ _ _ | rw [xup_ne _ _ (by first | decide | omega | assumption)] | rw [sMo _ _ (by omega)] | rw [sOo _ _ (by omega)])) rfl ?_
  refine X.pushi (v := nI 0) iX2_become_24 ?_
  refine X.pushi (v := nI 4) iX2_become_25 ?_
  refine X.copyi (f := N.ln) iX2_become_26 (by rw [sMo _ _ (by omega)]; exact n2) (sM2 _ _ _) (xfit0 _ _ _) (Nat.le_of_ble_eq_true rfl) (by decide) (by decide) (by decide) (by decide) (by decide) ?_
  refine X.heap (h' := setM h m (Mo.mk (cp N.fr M.fr 6) (cp N.ln M.ln 4) M.got M.paid M.lost M.day M.draw)) ((congrArg (fun f => xup (setM h m (Mo.mk (cp N.fr M.fr 6) M.ln M.got M.paid M.lost M.day M.draw)) (m + 2) (IA 4 f)) (va_cpy0 N.ln M.ln 4)).trans (sM_ln h m _ _)) ?_
  refine X.aload iX2_become_29 rfl ?_
  refine X.aload iX2_become_30 rfl ?_
  refine X.getf iX2_become_31 (by first | assumption | exact sM0 _ _ _ | exact sM1 _ _ _ | exact sM2 _ _ _ | exact sO0 _ _ _ | exact sO1 _ _ _ | exact sO2 _ _ _ | exact sO3 _ _ _ | exact sO4 _ _ _ | exact sO5 _ _ _ | rfl | repeat (first | assumption | exact xup_eq _ _ _ | exact sM0 _ _ _ | exact sM1 _ _ _ | exact sM2 _ _ _ | exact sO0 _ _ _ | exact sO1 _ _ _ | exact sO2 _ _ _ | exact sO3 _ _ _ | exact sO4 _ _ _ | exact sO5 _ _ _ | rw [xup_ne _ _ (by first | decide | omega | assumption)] | rw [sMo _ _ (by omega)] | rw [sOo _ _ (by omega)])) rfl ?_
  refine X.puti iX2_become_34 (by first | assumption | exact sM0 _ _ _ | exact sM1 _ _ _ | exact sM2 _ _ _ | exact sO0 _ _ _ | exact sO1 _ _ _ | exact sO2 _ _ _ | exact sO3 _ _ _ | exact sO4 _ _ _ | exact sO5 _ _ _ | rfl | repeat (first | assumption | exact xup_eq _ _ _ | exact sM0 _ _ _ | exact sM1 _ _ _ | exact sM2 _ _ _ | exact sO0 _ _ _ | exact sO1 _ _ _ | exact sO2 _ _ _ | exact sO3 _ _ _ | exact sO4 _ _ _ | exact sO5 _ _ _ | rw [xup_ne _ _ (by first | decide | omega | assumption)] | rw [sMo _ _ (by omega)] | rw [sOo _ _ (by omega)])) (Nat.le_of_ble_eq_true rfl) ?_
  rw [sM_got]
  refine X.aload iX2_become_37 rfl ?_
  refine X.aload iX2_become_38 rfl ?_
  refine X.getf iX2_become_39 (by first | assumption | exact sM0 _ _ _ | exact sM1 _ _ _ | exact sM2 _ _ _ | exact sO0 _ _ _ | exact sO1 _ _ _ | exact sO2 _ _ _ | exact sO3 _ _ _ | exact sO4 _ _ _ | exact sO5 _ _ _ | rfl | repeat (first | assumption | exact xup_eq _ _ _ | exact sM0 _ _ _ | exact sM1 _ _ _ | exact sM2 _ _ _ | exact sO0 _ _ _ | exact sO1 _ _ _ | exact sO2 _ _ _ | exact sO3 _ _ _ | exact sO4 _ _ _ | exact sO5 _ _ _ | rw [xup_ne _ _ (by first | decide | omega | assumption)] | rw [sMo _ _ (by omega)] | rw [sOo _ _ (by omega)])) rfl ?_
  refine X.puti iX2_become_42 (by first | assumption | exact sM0 _ _ _ | exact sM1 _ _ _ | exact sM2 _ _ _ | exact sO0 _ _ _ | exact sO1 _ _ _ | exact sO2 _ _ _ | exact sO3 _ _ _ | exact sO4 _ _ _ | exact sO5 _ _ _ | rfl | repeat (first | assumption | exact xup_eq _ _ _ | exact sM0 _ _ _ | exact sM1 _ _ _ | exact sM2 _ _ _ | exact sO0 _ _ _ | exact sO1 _ _ _ | exact sO2 _ _ _ | exact sO3 _ _ _ | exact sO4 _ _ _ | exact sO5 _ _ _ | rw [xup_ne _ _ (by first | decide | omega | assumption)] | rw [sMo _ _ (by omega)] | rw [sOo _ _ (by omega)])) (Nat.le_of_ble_eq_true rfl) ?_
  rw [sM_paid]
  refine X.aload iX2_become_45 rfl ?_
  refine X.aload iX2_become_46 rfl ?_
  refine X.getf iX2_become_47 (by first | assumption | exact sM0 _ _ _ | exact sM1 _ _ _ | exact sM2 _ _ _ | exact sO0 _ _ _ | exact sO1 _ _ _ | exact sO2 _ _ _ | exact sO3 _ _ _ | exact sO4 _ _ _ | exact sO5 _ _ _ | rfl | repeat (first | assumption | exact xup_eq _ _ _ | exact sM0 _ _ _ | exact sM1 _ _ _ | exact sM2 _ _ _ | exact sO0 _ _ _ | exact sO1 _ _ _ | exact sO2 _ _ _ | exact sO3 _ _ _ | exact sO4 _ _ _ | exact sO5 _ _ _ | rw [xup_ne _ _ (by first | decide | omega | assumption)] | rw [sMo _ _ (by omega)] | rw [sOo _ _ (by omega)])) rfl ?_
  refine X.puti iX2_become_50 (by first | assumption | exact sM0 _ _ _ | exact sM1 _ _ _ | exact sM2 _ _ _ | exact sO0 _ _ _ | exact sO1 _ _ _ | exact sO2 _ _ _ | exact sO3 _ _ _ | exact sO4 _ _ _ | exact sO5 _ _ _ | rfl | repeat (first | assumption | exact xup_eq _ _ _ | exact sM0 _ _ _ | exact sM1 _ _ _ | exact sM2 _ _ _ | exact sO0 _ _ _ | exact sO1 _ _ _ | exact sO2 _ _ _ | exact sO3 _ _ _ | exact sO4 _ _ _ | exact sO5 _ _ _ | rw [xup_ne _ _ (by first | decide | omega | assumption)] | rw [sMo _ _ (by omega)] | rw [sOo _ _ (by omega)])) (Nat.le_of_ble_eq_true rfl) ?_
  rw [sM_lost]
  refine X.aload iX2_become_53 rfl ?_
  refine X.aload iX2_become_54 rfl ?_
  refine X.getf iX2_become_55 (by first | assumption | exact sM0 _ _ _ | exact sM1 _ _ _ | exact sM2 _ _ _ | exact sO0 _ _ _ | exact sO1 _ _ _ | exact sO2 _ _ _ | exact sO3 _ _ _ | exact sO4 _ _ _ | exact sO5 _ _ _ | rfl | repeat (first | assumption | exact xup_eq _ _ _ | exact sM0 _ _ _ | exact sM1 _ _ _ | exact sM2 _ _ _ | exact sO0 _ _ _ | exact sO1 _ _ _ | exact sO2 _ _ _ | exact sO3 _ _ _ | exact sO4 _ _ _ | exact sO5 _ _ _ | rw [xup_ne _ _ (by first | decide | omega | assumption)] | rw [sMo _ _ (by omega)] | rw [sOo _ _ (by omega)])) rfl ?_
  refine X.puti iX2_become_58 (by first | assumption | exact sM0 _ _ _ | exact sM1 _ _ _ | exact sM2 _ _ _ | exact sO0 _ _ _ | exact sO1 _ _ _ | exact sO2 _ _ _ | exact sO3 _ _ _ | exact sO4 _ _ _ | exact sO5 _ _ _ | rfl | repeat (first | assumption | exact xup_eq _ _ _ | exact sM0 _ _ _ | exact sM1 _ _ _ | exact sM2 _ _ _ | exact sO0 _ _ _ | exact sO1 _ _ _ | exact sO2 _ _ _ | exact sO3 _ _ _ | exact sO4 _ _ _ | exact sO5 _ _ _ | rw [xup_ne _ _ (by first | decide | omega | assumption)] | rw [sMo _ _ (by omega)] | rw [sOo _ _ (by omega)])) (Nat.le_of_ble_eq_true rfl) ?_
  rw [sM_day]
  refine X.aload iX2_become_61 rfl ?_
  refine X.aload iX2_become_62 rfl ?_
  refine X.getf iX2_become_63 (by first | assumption | exact sM0 _ _ _ | exact sM1 _ _ _ | exact sM2 _ _ _ | exact sO0 _ _ _ | exact sO1 _ _ _ | exact sO2 _ _ _ | exact sO3 _ _ _ | exact sO4 _ _ _ | exact sO5 _ _ _ | rfl | repeat (first | assumption | exact xup_eq _ _ _ | exact sM0 _ _ _ | exact sM1 _ _ _ | exact sM2 _ _ _ | exact sO0 _ _ _ | exact sO1 _ _ _ | exact sO2 _ _ _ | exact sO3 _ _ _ | exact sO4 _ _ _ | exact sO5 _ _ _ | rw [xup_ne _ _ (by first | decide | omega | assumption)] | rw [sMo _ _ (by omega)] | rw [sOo _ _ (by omega)])) rfl ?_
  refine X.puti iX2_become_66 (by first | assumption | exact sM0 _ _ _ | exact sM1 _ _ _ | exact sM2 _ _ _ | exact sO0 _ _ _ | exact sO1 _ _ _ | exact sO2 _ _ _ | exact sO3 _ _ _ | exact sO4 _ _ _ | exact sO5 _ _ _ | rfl | repeat (first | assumption | exact xup_eq _ _ _ | exact sM0 _ _ _ | exact sM1 _ _ _ | exact sM2 _ _ _ | exact sO0 _ _ _ | exact sO1 _ _ _ | exact sO2 _ _ _ | exact sO3 _ _ _ | exact sO4 _ _ _ | exact sO5 _ _ _ | rw [xup_ne _ _ (by first | decide | omega | assumption)] | rw [sMo _ _ (by omega)] | rw [sOo _ _ (by omega)])) (Nat.le_of_ble_eq_true rfl) ?_
  rw [sM_draw]
  exact X.vret iX2_become_69 ⟨rfl, rfl⟩
def cpO (P O : Oc) : Oc := (Oc.mk P.nT P.nL O.ba O.wa (cp P.hi O.hi 6) (cp P.ri O.ri 6) (cp P.ki O.ki 4) (cp P.le O.le 4) (cp P.pr O.pr 4))
theorem c_X3_becomeTL {d o p : Nat} {h : XH} {O P : Oc} (HP : IsO h p P) (q : p + 5 < o ∨ o + 5 < p) : MetV mX3_becomeTreesAndLadders (d + 1, 0, 0) [.ref o, .ref p] (setO h o O) (setO h o (cpO P O)) := by
  obtain ⟨p0, p1, p2, p3, p4, p5⟩ := id HP
  refine MetX.of (by decide) rfl (Nat.le_of_ble_eq_true rfl) ?_
  refine X.aload iX3_becomeTreesAndLadders_0 rfl ?_
  refine X.aload iX3_becomeTreesAndLadders_1 rfl ?_
  refine X.getf iX3_becomeTreesAndLadders_2 (by first | assumption | exact sM0 _ _ _ | exact sM1 _ _ _ | exact sM2 _ _ _ | exact sO0 _ _ _ | exact sO1 _ _ _ | exact sO2 _ _ _ | exact sO3 _ _ _ | exact sO4 _ _ _ | exact sO5 _ _ _ | rfl | repeat (first | assumption | exact xup_eq _ _ _ | exact sM0 _ _ _ | exact sM1 _ _ _ | exact sM2 _ _ _ | exact sO0 _ _ _ | exact sO1 _ _ _ | exact sO2 _ _ _ | exact sO3 _ _ _ | exact sO4 _ _ _ | exact sO5 _ _ _ | rw [xup_ne _ _ (by first | decide | omega | assumption)] | rw [sMo _ _ (by omega)] | rw [sOo _ _ (by omega)])) rfl ?_
  refine X.puti iX3_becomeTreesAndLadders_5 (by first | assumption | exact sM0 _ _ _ | exact sM1 _ _ _ | exact sM2 _ _ _ | exact sO0 _ _ _ | exact sO1 _ _ _ | exact sO2 _ _ _ | exact sO3 _ _ _ | exact sO4 _ _ _ | exact sO5 _ _ _ | rfl | repeat (first | assumption | exact xup_eq _ _ _ | exact sM0 _ _ _ | exact sM1 _ _ _ | exact sM2 _ _ _ | exact sO0 _ _ _ | exact sO1 _ _ _ | exact sO2 _ _ _ | exact sO3 _ _ _ | exact sO4 _ _ _ | exact sO5 _ _ _ | rw [xup_ne _ _ (by first | decide | omega | assumption)] | rw [sMo _ _ (by omega)] | rw [sOo _ _ (by omega)])) (Nat.le_of_ble_eq_true rfl) ?_
  rw [sO_nT]
  refine X.aload iX3_becomeTreesAndLadders_8 rfl ?_
  refine X.aload iX3_becomeTreesAndLadders_9 rfl ?_
  refine X.getf iX3_becomeTreesAndLadders_10 (by first | assumption | exact sM0 _ _ _ | exact sM1 _ _ _ | exact sM2 _ _ _ | exact sO0 _ _ _ | exact sO1 _ _ _ | exact sO2 _ _ _ | exact sO3 _ _ _ | exact sO4 _ _ _ | exact sO5 _ _ _ | rfl | repeat (first | assumption | exact xup_eq _ _ _ | exact sM0 _ _ _ | exact sM1 _ _ _ | exact sM2 _ _ _ | exact sO0 _ _ _ | exact sO1 _ _ _ | exact sO2 _ _ _ | exact sO3 _ _ _ | exact sO4 _ _ _ | exact sO5 _ _ _ | rw [xup_ne _ _ (by first | decide | omega | assumption)] | rw [sMo _ _ (by omega)] | rw [sOo _ _ (by omega)])) rfl ?_
  refine X.puti iX3_becomeTreesAndLadders_13 (by first | assumption | exact sM0 _ _ _ | exact sM1 _ _ _ | exact sM2 _ _ _ | exact sO0 _ _ _ | exact sO1 _ _ _ | exact sO2 _ _ _ | exact sO3 _ _ _ | exact sO4 _ _ _ | exact sO5 _ _ _ | rfl | repeat (first | assumption | exact xup_eq _ _ _ | exact sM0 _ _ _ | exact sM1 _ _ _ | exact sM2 _ _ _ | exact sO0 _ _ _ | exact sO1 _ _ _ | exact sO2 _ _ _ | exact sO3 _ _ _ | exact sO4 _ _ _ | exact sO5 _ _ _ | rw [xup_ne _ _ (by first | decide | omega | assumption)] | rw [sMo _ _ (by omega)] | rw [sOo _ _ (by omega)])) (Nat.le_of_ble_eq_true rfl) ?_
  rw [sO_nL]
  refine X.aload iX3_becomeTreesAndLadders_16 rfl ?_
  refine X.getf iX3_becomeTreesAndLadders_17 (by first | assumption | exact sM0 _ _ _ | exact sM1 _ _ _ | exact sM2 _ _ _ | exact sO0 _ _ _ | exact sO1 _ _ _ | exact sO2 _ _ _ | exact sO3 _ _ _ | exact sO4 _ _ _ | exact sO5 _ _ _ | rfl | repeat (first | assumption | exact xup_eq _ _ _ | exact sM0 _ _ _ | exact sM1 _ _ _ | exact sM2 _ _ _ | exact sO0 _ _ _ | exact sO1 _ _ _ | exact sO2 _ _ _ | exact sO3 _ _ _ | exact sO4 _ _ _ | exact sO5 _ _ _ | rw [xup_ne _ _ (by first | decide | omega | assumption)] | rw [sMo _ _ (by omega)] | rw [sOo _ _ (by omega)])) rfl ?_
  refine X.pushi (v := nI 0) iX3_becomeTreesAndLadders_20 ?_
  refine X.aload iX3_becomeTreesAndLadders_21 rfl ?_
  refine X.getf iX3_becomeTreesAndLadders_22 (by first | assumption | exact sM0 _ _ _ | exact sM1 _ _ _ | exact sM2 _ _ _ | exact sO0 _ _ _ | exact sO1 _ _ _ | exact sO2 _ _ _ | exact sO3 _ _ _ | exact sO4 _ _ _ | exact sO5 _ _ _ | rfl | repeat (first | assumption | exact xup_eq _ _ _ | exact sM0 _ _ _ | exact sM1 _ _ _ | exact sM2 _ _ _ | exact sO0 _ _ _ | exact sO1 _ _ _ | exact sO2 _ _ _ | exact sO3 _ _ _ | exact sO4 _ _ _ | exact sO5 _ _ _ | rw [xup_ne _ _ (by first | decide | omega | assumption)] | rw [sMo _ _ (by omega)] | rw [sOo _ _ (by omega)])) rfl ?_
  refine X.pushi (v := nI 0) iX3_becomeTreesAndLadders_25 ?_
  refine X.pushi (v := nI 6) iX3_becomeTreesAndLadders_26 ?_
  refine X.copyi (f := P.hi) iX3_becomeTreesAndLadders_28 (by rw [sOo _ _ (by omega)]; exact p1) (sO1 _ _ _) (xfit0 _ _ _) (Nat.le_of_ble_eq_true rfl) (by decide) (by decide) (by decide) (by decide) (by decide) ?_
  refine X.heap (h' := setO h o (Oc.mk P.nT P.nL O.ba O.wa (cp P.hi O.hi 6) O.ri O.ki O.le O.pr)) ((congrArg (fun f => xup (setO h o (Oc.mk P.nT P.nL O.ba O.wa O.hi O.ri O.ki O.le O.pr)) (o + 1) (IA 6 f)) (va_cpy0 P.hi O.hi 6)).trans (sO_1 h o _ _)) ?_
  refine X.aload iX3_becomeTreesAndLadders_31 rfl ?_
  refine X.getf iX3_becomeTreesAndLadders_32 (by first | assumption | exact sM0 _ _ _ | exact sM1 _ _ _ | exact sM2 _ _ _ | exact sO0 _ _ _ | exact sO1 _ _ _ | exact sO2 _ _ _ | exact sO3 _ _ _ | exact sO4 _ _ _ | exact sO5 _ _ _ | rfl | repeat (first | assumption | exact xup_eq _ _ _ | exact sM0 _ _ _ | exact sM1 _ _ _ | exact sM2 _ _ _ | exact sO0 _ _ _ | exact sO1 _ _ _ | exact sO2 _ _ _ | exact sO3 _ _ _ | exact sO4 _ _ _ | exact sO5 _ _ _ | rw [xup_ne _ _ (by first | decide | omega | assumption)] | rw [sMo _ _ (by omega)] | rw [sOo _ _ (by omega)])) rfl ?_
  refine X.pushi (v := nI 0) iX3_becomeTreesAndLadders_35 ?_
  refine X.aload iX3_becomeTreesAndLadders_36 rfl ?_
  refine X.getf iX3_becomeTreesAndLadders_37 (by first | assumption | exact sM0 _ _ _ | exact sM1 _ _ _ | exact sM2 _ _ _ | exact sO0 _ _ _ | exact sO1 _ _ _ | exact sO2 _ _ _ | exact sO3 _ _ _ | exact sO4 _ _ _ | exact sO5 _ _ _ | rfl | repeat (first | assumption | exact xup_eq _ _ _ | exact sM0 _ _ _ | exact sM1 _ _ _ | exact sM2 _ _ _ | exact sO0 _ _ _ | exact sO1 _ _ _ | exact sO2 _ _ _ | exact sO3 _ _ _ | exact sO4 _ _ _ | exact sO5 _ _ _ | rw [xup_ne _ _ (by first | decide | omega | assumption)] | rw [sMo _ _ (by omega)] | rw [sOo _ _ (by omega)])) rfl ?_
  refine X.pushi (v := nI 0) iX3_becomeTreesAndLadders_40 ?_
  refine X.pushi (v := nI 6) iX3_becomeTreesAndLadders_41 ?_
  refine X.copyi (f := P.ri) iX3_becomeTreesAndLadders_43 (by rw [sOo _ _ (by omega)]; exact p2) (sO2 _ _ _) (xfit0 _ _ _) (Nat.le_of_ble_eq_true rfl) (by decide) (by decide) (by decide) (by decide) (by decide) ?_
  refine X.heap (h' := setO h o (Oc.mk P.nT P.nL O.ba O.wa (cp P.hi O.hi 6) (cp P.ri O.ri 6) O.ki O.le O.pr)) ((congrArg (fun f => xup (setO h o (Oc.mk P.nT P.nL O.ba O.wa (cp P.hi O.hi 6) O.ri O.ki O.le O.pr)) (o + 2) (IA 6 f)) (va_cpy0 P.ri O.ri 6)).trans (sO_2 h o _ _)) ?_
  refine X.aload iX3_becomeTreesAndLadders_46 rfl ?_
  refine X.getf iX3_becomeTreesAndLadders_47 (by first | assumption | exact sM0 _ _ _ | exact sM1 _ _ _ | exact sM2 _ _ _ | exact sO0 _ _ _ | exact sO1 _ _ _ | exact sO2 _ _ _ | exact sO3 _ _ _ | exact sO4 _ _ _ | exact sO5 _ _ _ | rfl | repeat (first | assumption | exact xup_eq _ _ _ | exact sM0 _ _ _ | exact sM1 _ _ _ | exact sM2 _ _ _ | exact sO0 _ _ _ | exact sO1 _ _ _ | exact sO2 _ _ _ | exact sO3 _ _ _ | exact sO4 _ _ _ | exact sO5 _ _ _ | rw [xup_ne _ _ (by first | decide | omega | assumption)] | rw [sMo _ _ (by omega)] | rw [sOo _ _ (by omega)])) rfl ?_
  refine X.pushi (v := nI 0) iX3_becomeTreesAndLadders_50 ?_
  refine X.aload iX3_becomeTreesAndLadders_51 rfl ?_
  refine X.getf iX3_becomeTreesAndLadders_52 (by first | assumption | exact sM0 _ _ _ | exact sM1 _ _ _ | exact sM2 _ _ _ | exact sO0 _ _ _ | exact sO1 _ _ _ | exact sO2 _ _ _ | exact sO3 _ _ _ | exact sO4 _ _ _ | exact sO5 _ _ _ | rfl | repeat (first | assumption | exact xup_eq _ _ _ | exact sM0 _ _ _ | exact sM1 _ _ _ | exact sM2 _ _ _ | exact sO0 _ _ _ | exact sO1 _ _ _ | exact sO2 _ _ _ | exact sO3 _ _ _ | exact sO4 _ _ _ | exact sO5 _ _ _ | rw [xup_ne _ _ (by first | decide | omega | assumption)] | rw [sMo _ _ (by omega)] | rw [sOo _ _ (by omega)])) rfl ?_
  refine X.pushi (v := nI 0) iX3_becomeTreesAndLadders_55 ?_
  refine X.pushi (v := nI 4) iX3_becomeTreesAndLadders_56 ?_
  refine X.copyi (f := P.ki) iX3_becomeTreesAndLadders_57 (by rw [sOo _ _ (by omega)]; exact p3) (sO3 _ _ _) (xfit0 _ _ _) (Nat.le_of_ble_eq_true rfl) (by decide) (by decide) (by decide) (by decide) (by decide) ?_
  refine X.heap (h' := setO h o (Oc.mk P.nT P.nL O.ba O.wa (cp P.hi O.hi 6) (cp P.ri O.ri 6) (cp P.ki O.ki 4) O.le O.pr)) ((congrArg (fun f => xup (setO h o (Oc.mk P.nT P.nL O.ba O.wa (cp P.hi O.hi 6) (cp P.ri O.ri 6) O.ki O.le O.pr)) (o + 3) (IA 4 f)) (va_cpy0 P.ki O.ki 4)).trans (sO_3 h o _ _)) ?_
  refine X.aload iX3_becomeTreesAndLadders_60 rfl ?_
  refine X.getf iX3_becomeTreesAndLadders_61 (by first | assumption | exact sM0 _ _ _ | exact sM1 _ _ _ | exact sM2 _ _ _ | exact sO0 _ _ _ | exact sO1 _ _ _ | exact sO2 _ _ _ | exact sO3 _ _ _ | exact sO4 _ _ _ | exact sO5 _ _ _ | rfl | repeat (first | assumption | exact xup_eq _ _ _ | exact sM0 _ _ _ | exact sM1 _ _ _ | exact sM2 _ _ _ | exact sO0 _ _ _ | exact sO1 _ _ _ | exact sO2 _ _ _ | exact sO3 _ _ _ | exact sO4 _ _ _ | exact sO5 _ _ _ | rw [xup_ne _ _ (by first | decide | omega | assumption)] | rw [sMo _ _ (by omega)] | rw [sOo _ _ (by omega)])) rfl ?_
  refine X.pushi (v := nI 0) iX3_becomeTreesAndLadders_64 ?_
  refine X.aload iX3_becomeTreesAndLadders_65 rfl ?_
  refine X.getf iX3_becomeTreesAndLadders_66 (by first | assumption | exact sM0 _ _ _ | exact sM1 _ _ _ | exact sM2 _ _ _ | exact sO0 _ _ _ | exact sO1 _ _ _ | exact sO2 _ _ _ | exact sO3 _ _ _ | exact sO4 _ _ _ | exact sO5 _ _ _ | rfl | repeat (first | assumption | exact xup_eq _ _ _ | exact sM0 _ _ _ | exact sM1 _ _ _ | exact sM2 _ _ _ | exact sO0 _ _ _ | exact sO1 _ _ _ | exact sO2 _ _ _ | exact sO3 _ _ _ | exact sO4 _ _ _ | exact sO5 _ _ _ | rw [xup_ne _ _ (by first | decide | omega | assumption)] | rw [sMo _ _ (by omega)] | rw [sOo _ _ (by omega)])) rfl ?_
  refine X.pushi (v := nI 0) iX3_becomeTreesAndLadders_69 ?_
  refine X.pushi (v := nI 4) iX3_becomeTreesAndLadders_70 ?_
  refine X.copyi (f := P.le) iX3_becomeTreesAndLadders_71 (by rw [sOo _ _ (by omega)]; exact p4) (sO4 _ _ _) (xfit0 _ _ _) (Nat.le_of_ble_eq_true rfl) (by decide) (by decide) (by decide) (by decide) (by decide) ?_
  refine X.heap (h' := setO h o (Oc.mk P.nT P.nL O.ba O.wa (cp P.hi O.hi 6) (cp P.ri O.ri 6) (cp P.ki O.ki 4) (cp P.le O.le 4) O.pr)) ((congrArg (fun f => xup (setO h o (Oc.mk P.nT P.nL O.ba O.wa (cp P.hi O.hi 6) (cp P.ri O.ri 6) (cp P.ki O.ki 4) O.le O.pr)) (o + 4) (IA 4 f)) (va_cpy0 P.le O.le 4)).trans (sO_4 h o _ _)) ?_
  refine X.aload iX3_becomeTreesAndLadders_74 rfl ?_
  refine X.getf iX3_becomeTreesAndLadders_75 (by first | assumption | exact sM0 _ _ _ | exact sM1 _ _ _ | exact sM2 _ _ _ | exact sO0 _ _ _ | exact sO1 _ _ _ | exact sO2 _ _ _ | exact sO3 _ _ _ | exact sO4 _ _ _ | exact sO5 _ _ _ | rfl | repeat (first | assumption | exact xup_eq _ _ _ | exact sM0 _ _ _ | exact sM1 _ _ _ | exact sM2 _ _ _ | exact sO0 _ _ _ | exact sO1 _ _ _ | exact sO2 _ _ _ | exact sO3 _ _ _ | exact sO4 _ _ _ | exact sO5 _ _ _ | rw [xup_ne _ _ (by first | decide | omega | assumption)] | rw [sMo _ _ (by omega)] | rw [sOo _ _ (by omega)])) rfl ?_
  refine X.pushi (v := nI 0) iX3_becomeTreesAndLadders_78 ?_
  refine X.aload iX3_becomeTreesAndLadders_79 rfl ?_
  refine X.getf iX3_becomeTreesAndLadders_80 (by first | assumption | exact sM0 _ _ _ | exact sM1 _ _ _ | exact sM2 _ _ _ | exact sO0 _ _ _ | exact sO1 _ _ _ | exact sO2 _ _ _ | exact sO3 _ _ _ | exact sO4 _ _ _ | exact sO5 _ _ _ | rfl | repeat (first | assumption | exact xup_eq _ _ _ | exact sM0 _ _ _ | exact sM1 _ _ _ | exact sM2 _ _ _ | exact sO0 _ _ _ | exact sO1 _ _ _ | exact sO2 _ _ _ | exact sO3 _ _ _ | exact sO4 _ _ _ | exact sO5 _ _ _ | rw [xup_ne _ _ (by first | decide | omega | assumption)] | rw [sMo _ _ (by omega)] | rw [sOo _ _ (by omega)])) rfl ?_
  refine X.pushi (v := nI 0) iX3_becomeTreesAndLadders_83 ?_
  refine X.pushi (v := nI 4) iX3_becomeTreesAndLadders_84 ?_
  refine X.copyi (f := P.pr) iX3_becomeTreesAndLadders_85 (by rw [sOo _ _ (by omega)]; exact p5) (sO5 _ _ _) (xfit0 _ _ _) (Nat.le_of_ble_eq_true rfl) (by decide) (by decide) (by decide) (by decide) (by decide) ?_
  refine X.heap (h' := setO h o (cpO P O)) ((congrArg (fun f => xup (setO h o (Oc.mk P.nT P.nL O.ba O.wa (cp P.hi O.hi 6) (cp P.ri O.ri 6) (cp P.ki O.ki 4) (cp P.le O.le 4) O.pr)) (o + 5) (IA 4 f)) (va_cpy0 P.pr O.pr 4)).trans (sO_5 h o _ _)) ?_
  exact X.vret iX3_becomeTreesAndLadders_88 ⟨rfl, rfl⟩
/-- an Orchard with its Moment -/
def setA (h : XH) (o : Nat) (O : Oc) (M : Mo) : XH := setM (setO h o O) (o + 6) M
theorem sA_alt (h : XH) (o : Nat) (O : Oc) (M : Mo) : setA h o O M = setO (setM h (o + 6) M) o O := sMO h O M (by omega)
theorem sAo (h : XH) {o i : Nat} (O : Oc) (M : Mo) (hi : i < o ∨ o + 8 < i) : setA h o O M i = h i := by rw [setA, sMo _ _ (by omega), sOo _ _ (by omega)]
theorem sA_O (h : XH) (o : Nat) (O : Oc) (M : Mo) : IsO (setA h o O M) o O := (sO_is h o O).off M (by omega)
theorem sA_M (h : XH) (o : Nat) (O : Oc) (M : Mo) : IsM (setA h o O M) (o + 6) M := sM_is _ _ _
theorem IsO.offO {h : XH} {o p : Nat} {P : Oc} (H : IsO h p P) (O : Oc) (q : p + 5 < o ∨ o + 5 < p) : IsO (setO h o O) p P := by
  obtain ⟨h0, h1, h2, h3, h4, h5⟩ := H
  exact ⟨by rw [sOo _ _ (by omega)]; exact h0, by rw [sOo _ _ (by omega)]; exact h1, by rw [sOo _ _ (by omega)]; exact h2, by rw [sOo _ _ (by omega)]; exact h3, by rw [sOo _ _ (by omega)]; exact h4, by rw [sOo _ _ (by omega)]; exact h5⟩
theorem IsM.offO {h : XH} {o p : Nat} {P : Mo} (H : IsM h p P) (O : Oc) (q : p + 2 < o ∨ o + 5 < p) : IsM (setO h o O) p P := by
  obtain ⟨h0, h1, h2⟩ := H
  exact ⟨by rw [sOo _ _ (by omega)]; exact h0, by rw [sOo _ _ (by omega)]; exact h1, by rw [sOo _ _ (by omega)]; exact h2⟩
theorem IsM.off {h : XH} {o p : Nat} {P : Mo} (H : IsM h p P) (O : Mo) (q : p + 2 < o ∨ o + 2 < p) : IsM (setM h o O) p P := by
  obtain ⟨h0, h1, h2⟩ := H
  exact ⟨by rw [sMo _ _ (by omega)]; exact h0, by rw [sMo _ _ (by omega)]; exact h1, by rw [sMo _ _ (by omega)]; exact h2⟩
theorem c_X3_becomeTLA {d o p : Nat} {h : XH} {O P : Oc} {M : Mo} (HP : IsO h p P) (q : p + 8 < o ∨ o + 8 < p) : MetV mX3_becomeTreesAndLadders (d + 1, 0, 0) [.ref o, .ref p] (setA h o O M) (setA h o (cpO P O) M) := by
  rw [sA_alt, sA_alt]
  exact c_X3_becomeTL (HP.off M (by omega)) (by omega)
theorem sA_set {h : XH} {o : Nat} {O : Oc} {M : Mo} : setM (setO h o O) (o + 6) M = setA h o O M := rfl
theorem c_X3_become {d o p : Nat} {h : XH} {O P : Oc} {M N : Mo} (HP : IsO h p P) (HN : IsM h (p + 6) N) (q : p + 8 < o ∨ o + 8 < p) : MetV mX3_become (d + 2, 0, 0) [.ref o, .ref p] (setA h o O M) (setA h o (Oc.mk (cpO P O).nT (cpO P O).nL P.ba P.wa (cpO P O).hi (cpO P O).ri (cpO P O).ki (cpO P O).le (cpO P O).pr) (cpM N M)) := by
  obtain ⟨p0, p1, p2, p3, p4, p5⟩ := id HP
  have zp : ∀ O M, setA h o O M p = some (.inr (3, ocS p P)) := fun O M => by rw [sAo _ _ _ (by omega)]; exact p0
  have zo : ∀ O M, setA h o O M o = some (.inr (3, ocS o O)) := fun O M => (sA_O h o O M).1
  have e1 : ∀ (x : Int32) (O : Oc) (M : Mo), xup (setA h o O M) o (.inr (3, (ocS o O).set 2 (.int x))) = setA h o (Oc.mk O.nT O.nL x O.wa O.hi O.ri O.ki O.le O.pr) M := fun x O M => by rw [sA_alt, sO_ba, sA_alt]
  have e2 : ∀ (x : Int32) (O : Oc) (M : Mo), xup (setA h o O M) o (.inr (3, (ocS o O).set 3 (.int x))) = setA h o (Oc.mk O.nT O.nL O.ba x O.hi O.ri O.ki O.le O.pr) M := fun x O M => by rw [sA_alt, sO_wa, sA_alt]
  refine MetX.of (by decide) rfl (Nat.le_of_ble_eq_true rfl) ?_
  refine X.aload iX3_become_0 rfl ?_
  refine X.aload iX3_become_1 rfl ?_
  refine X.getf iX3_become_2 (zp _ _) rfl ?_
  refine X.puti iX3_become_5 (zo _ _) (Nat.le_of_ble_eq_true rfl) ?_
  rw [e1]
  refine X.aload iX3_become_8 rfl ?_
  refine X.aload iX3_become_9 rfl ?_
  refine X.getf iX3_become_10 (zp _ _) rfl ?_
  refine X.puti iX3_become_13 (zo _ _) (Nat.le_of_ble_eq_true rfl) ?_
  rw [e2]
  refine X.aload iX3_become_16 rfl ?_
  refine X.aload iX3_become_17 rfl ?_
  refine X.callVv iX3_become_18 (c_X3_becomeTLA (d := d) HP q) (zo _ _) rfl rfl (xfit _ _ _) (Nat.le_of_ble_eq_true rfl) ?_
  refine X.aload iX3_become_21 rfl ?_
  refine X.getf iX3_become_22 (zo _ _) rfl ?_
  refine X.aload iX3_become_25 rfl ?_
  refine X.getf iX3_become_26 (zp _ _) rfl ?_
  refine X.callVv iX3_become_29 (c_X2_become (d := d) (HN.offO _ (by omega)) (by omega)) (sM0 _ _ _) rfl rfl (xfit _ _ _) (Nat.le_of_ble_eq_true rfl) ?_
  exact X.vret iX3_become_32 ⟨rfl, rfl⟩
theorem c_X3_takeOver {d o p : Nat} {h : XH} {O P : Oc} {M N : Mo} (HP : IsO h p P) (HN : IsM h (p + 6) N) (q : p + 8 < o ∨ o + 8 < p) : MetV mX3_takeOver (d + 2, 0, 0) [.ref o, .ref p] (setA h o O M) (setA h o (cpO P O) (Mo.mk (cpM N M).fr (cpM N M).ln (cpM N M).got (cpM N M).paid (cpM N M).lost (cpM N M).day M.draw)) := by
  obtain ⟨p0, p1, p2, p3, p4, p5⟩ := id HP
  have zp : ∀ O M, setA h o O M p = some (.inr (3, ocS p P)) := fun O M => by rw [sAo _ _ _ (by omega)]; exact p0
  have zo : ∀ O M, setA h o O M o = some (.inr (3, ocS o O)) := fun O M => (sA_O h o O M).1
  have zm : ∀ O M, setA h o O M (o + 6) = some (.inr (2, moS (o + 6) M)) := fun O M => (sA_M h o O M).1
  refine MetX.of (by decide) rfl (Nat.le_of_ble_eq_true rfl) ?_
  refine X.aload iX3_takeOver_0 rfl ?_
  refine X.getf iX3_takeOver_1 (zo _ _) rfl ?_
  refine X.getf iX3_takeOver_4 (zm _ _) rfl ?_
  refine X.istore iX3_takeOver_7 rfl rfl ?_
  refine X.aload iX3_takeOver_8 rfl ?_
  refine X.aload iX3_takeOver_9 rfl ?_
  refine X.callVv iX3_takeOver_10 (c_X3_becomeTLA (d := d) HP q) (zo _ _) rfl rfl (xfit _ _ _) (Nat.le_of_ble_eq_true rfl) ?_
  refine X.aload iX3_takeOver_13 rfl ?_
  refine X.getf iX3_takeOver_14 (zo _ _) rfl ?_
  refine X.aload iX3_takeOver_17 rfl ?_
  refine X.getf iX3_takeOver_18 (zp _ _) rfl ?_
  refine X.callVv iX3_takeOver_21 (c_X2_become (d := d) (HN.offO _ (by omega)) (by omega)) (sM0 _ _ _) rfl rfl (xfit _ _ _) (Nat.le_of_ble_eq_true rfl) ?_
  refine X.aload iX3_takeOver_24 rfl ?_
  refine X.getf iX3_takeOver_25 (zo _ _) rfl ?_
  refine X.iload iX3_takeOver_28 rfl ?_
  refine X.puti iX3_takeOver_29 (sM0 _ _ _) (Nat.le_of_ble_eq_true rfl) ?_
  rw [sM_draw]
  exact X.vret iX3_takeOver_32 ⟨rfl, rfl⟩
theorem c_X2_leanNowhere {d m : Nat} {h : XH} {M : Mo} : MetV mX2_leanNowhere (d, 0, 0) [.ref m] (setM h m M) (setM h m (Mo.mk M.fr (cp (fun _ => -4) M.ln 4) M.got M.paid M.lost M.day M.draw)) := by
  have P : ∀ k, k ≤ 4 → X xT mX2_leanNowhere (xR (d, 0, 0)) (0, 0) 2 [some (.ref m), some (.int (nI k))] [] (setM h m (Mo.mk M.fr (cp (fun _ => -4) M.ln k) M.got M.paid M.lost M.day M.draw)) (fun v h' => v = none ∧ h' = setM h m (Mo.mk M.fr (cp (fun _ => -4) M.ln 4) M.got M.paid M.lost M.day M.draw)) := by
    refine xloop 4 ?_ ?_
    · refine X.iload iX2_leanNowhere_2 rfl ?_
      refine X.pushi (v := nI 4) iX2_leanNowhere_3 ?_
      refine X.cmge iX2_leanNowhere_4 (fun c4 => ?_) (fun c4 => ?_)
      · exact X.vret iX2_leanNowhere_21 ⟨rfl, rfl⟩
      · exact absurd (Int32.le_refl _) c4
    · intro k hk ih
      refine X.iload iX2_leanNowhere_2 rfl ?_
      refine X.pushi (v := nI 4) iX2_leanNowhere_3 ?_
      refine X.cmge iX2_leanNowhere_4 (fun c4 => ?_) (fun c4 => ?_)
      · exact absurd c4 (nI_ge hk (by omega))
      · refine X.aload iX2_leanNowhere_7 rfl ?_
        refine X.getf iX2_leanNowhere_8 (by first | assumption | exact sM0 _ _ _ | exact sM1 _ _ _ | exact sM2 _ _ _ | exact sO0 _ _ _ | exact sO1 _ _ _ | exact sO2 _ _ _ | exact sO3 _ _ _ | exact sO4 _ _ _ | exact sO5 _ _ _ | rfl | repeat (first | assumption | exact xup_eq _ _ _ | exact sM0 _ _ _ | exact sM1 _ _ _ | exact sM2 _ _ _ | exact sO0 _ _ _ | exact sO1 _ _ _ | exact sO2 _ _ _ | exact sO3 _ _ _ | exact sO4 _ _ _ | exact sO5 _ _ _ | rw [xup_ne _ _ (by first | decide | omega | assumption)] | rw [sMo _ _ (by omega)] | rw [sOo _ _ (by omega)])) rfl ?_
        refine X.iload iX2_leanNowhere_11 rfl ?_
        refine X.pushi iX2_leanNowhere_12 ?_
        refine X.iastE iX2_leanNowhere_14 (by first | assumption | exact sM0 _ _ _ | exact sM1 _ _ _ | exact sM2 _ _ _ | exact sO0 _ _ _ | exact sO1 _ _ _ | exact sO2 _ _ _ | exact sO3 _ _ _ | exact sO4 _ _ _ | exact sO5 _ _ _ | rfl | repeat (first | assumption | exact xup_eq _ _ _ | exact sM0 _ _ _ | exact sM1 _ _ _ | exact sM2 _ _ _ | exact sO0 _ _ _ | exact sO1 _ _ _ | exact sO2 _ _ _ | exact sO3 _ _ _ | exact sO4 _ _ _ | exact sO5 _ _ _ | rw [xup_ne _ _ (by first | decide | omega | assumption)] | rw [sMo _ _ (by omega)] | rw [sOo _ _ (by omega)])) rfl hk (by decide) ?_
        rw [sM_ln]
        refine X.iinc iX2_leanNowhere_15 rfl rfl rfl ?_
        refine X.goto iX2_leanNowhere_18 ?_
        rw [nI_1]
        rw [← cp_s] at ih
        exact ih
  refine MetX.of (by decide) rfl (Nat.le_of_ble_eq_true rfl) ?_
  refine X.pushi (v := nI 0) iX2_leanNowhere_0 ?_
  refine X.istore iX2_leanNowhere_1 rfl rfl ?_
  have p0 := P 0 (Nat.zero_le _)
  rw [cp_0] at p0
  exact p0
theorem zAo {h : XH} {o : Nat} (O : Oc) (M : Mo) : setA h o O M o = some (.inr (3, ocS o O)) := (sA_O h o O M).1
theorem zA1 {h : XH} {o : Nat} (O : Oc) (M : Mo) : setA h o O M (o + 1) = some (IA 6 O.hi) := (sA_O h o O M).2.1
theorem zA2 {h : XH} {o : Nat} (O : Oc) (M : Mo) : setA h o O M (o + 2) = some (IA 6 O.ri) := (sA_O h o O M).2.2.1
theorem zA3 {h : XH} {o : Nat} (O : Oc) (M : Mo) : setA h o O M (o + 3) = some (IA 4 O.ki) := (sA_O h o O M).2.2.2.1
theorem zA4 {h : XH} {o : Nat} (O : Oc) (M : Mo) : setA h o O M (o + 4) = some (IA 4 O.le) := (sA_O h o O M).2.2.2.2.1
theorem zA5 {h : XH} {o : Nat} (O : Oc) (M : Mo) : setA h o O M (o + 5) = some (IA 4 O.pr) := (sA_O h o O M).2.2.2.2.2
theorem zA6 {h : XH} {o : Nat} (O : Oc) (M : Mo) : setA h o O M (o + 6) = some (.inr (2, moS (o + 6) M)) := (sA_M h o O M).1
theorem zA7 {h : XH} {o : Nat} (O : Oc) (M : Mo) : setA h o O M (o + 6 + 1) = some (IA 6 M.fr) := (sA_M h o O M).2.1
theorem zA8 {h : XH} {o : Nat} (O : Oc) (M : Mo) : setA h o O M (o + 6 + 2) = some (IA 4 M.ln) := (sA_M h o O M).2.2
theorem eA_nT {h : XH} {o : Nat} (O : Oc) (M : Mo) (x : Nat) : xup (setA h o O M) o (.inr (3, (ocS o O).set 0 (.int (nI x)))) = setA h o (Oc.mk x O.nL O.ba O.wa O.hi O.ri O.ki O.le O.pr) M := by rw [sA_alt, sO_nT, sA_alt]
theorem eA_nL {h : XH} {o : Nat} (O : Oc) (M : Mo) (x : Nat) : xup (setA h o O M) o (.inr (3, (ocS o O).set 1 (.int (nI x)))) = setA h o (Oc.mk O.nT x O.ba O.wa O.hi O.ri O.ki O.le O.pr) M := by rw [sA_alt, sO_nL, sA_alt]
theorem eA_ba {h : XH} {o : Nat} (O : Oc) (M : Mo) (x : Int32) : xup (setA h o O M) o (.inr (3, (ocS o O).set 2 (.int x))) = setA h o (Oc.mk O.nT O.nL x O.wa O.hi O.ri O.ki O.le O.pr) M := by rw [sA_alt, sO_ba, sA_alt]
theorem eA_wa {h : XH} {o : Nat} (O : Oc) (M : Mo) (x : Int32) : xup (setA h o O M) o (.inr (3, (ocS o O).set 3 (.int x))) = setA h o (Oc.mk O.nT O.nL O.ba x O.hi O.ri O.ki O.le O.pr) M := by rw [sA_alt, sO_wa, sA_alt]
theorem eA_hi {h : XH} {o : Nat} (O : Oc) (M : Mo) (f : Nat → Int32) : xup (setA h o O M) (o + 1) (IA 6 f) = setA h o (Oc.mk O.nT O.nL O.ba O.wa f O.ri O.ki O.le O.pr) M := by rw [sA_alt, sO_1, sA_alt]
theorem eA_ri {h : XH} {o : Nat} (O : Oc) (M : Mo) (f : Nat → Int32) : xup (setA h o O M) (o + 2) (IA 6 f) = setA h o (Oc.mk O.nT O.nL O.ba O.wa O.hi f O.ki O.le O.pr) M := by rw [sA_alt, sO_2, sA_alt]
theorem eA_ki {h : XH} {o : Nat} (O : Oc) (M : Mo) (f : Nat → Int32) : xup (setA h o O M) (o + 3) (IA 4 f) = setA h o (Oc.mk O.nT O.nL O.ba O.wa O.hi O.ri f O.le O.pr) M := by rw [sA_alt, sO_3, sA_alt]
theorem eA_le {h : XH} {o : Nat} (O : Oc) (M : Mo) (f : Nat → Int32) : xup (setA h o O M) (o + 4) (IA 4 f) = setA h o (Oc.mk O.nT O.nL O.ba O.wa O.hi O.ri O.ki f O.pr) M := by rw [sA_alt, sO_4, sA_alt]
theorem eA_pr {h : XH} {o : Nat} (O : Oc) (M : Mo) (f : Nat → Int32) : xup (setA h o O M) (o + 5) (IA 4 f) = setA h o (Oc.mk O.nT O.nL O.ba O.wa O.hi O.ri O.ki O.le f) M := by rw [sA_alt, sO_5, sA_alt]
theorem eA_fr {h : XH} {o : Nat} (O : Oc) (M : Mo) (f : Nat → Int32) : xup (setA h o O M) (o + 6 + 1) (IA 6 f) = setA h o O (Mo.mk f M.ln M.got M.paid M.lost M.day M.draw) := by rw [setA, sM_fr]; rfl
theorem eA_ln {h : XH} {o : Nat} (O : Oc) (M : Mo) (f : Nat → Int32) : xup (setA h o O M) (o + 6 + 2) (IA 4 f) = setA h o O (Mo.mk M.fr f M.got M.paid M.lost M.day M.draw) := by rw [setA, sM_ln]; rfl
theorem c_X3_clear {d o : Nat} {h : XH} {O : Oc} {M : Mo} : MetV mX3_clear (d + 1, 0, 0) [.ref o] (setA h o O M) (setA h o (Oc.mk 0 0 O.ba O.wa O.hi O.ri O.ki O.le O.pr) (Mo.mk M.fr (cp (fun _ => -4) M.ln 4) M.got M.paid M.lost M.day M.draw)) := by
  refine MetX.of (by decide) rfl (Nat.le_of_ble_eq_true rfl) ?_
  refine X.aload iX3_clear_0 rfl ?_
  refine X.pushi (v := nI 0) iX3_clear_1 ?_
  refine X.puti iX3_clear_2 (by first | assumption | exact zAo _ _ | exact zA1 _ _ | exact zA2 _ _ | exact zA3 _ _ | exact zA4 _ _ | exact zA5 _ _ | exact zA6 _ _ | exact zA7 _ _ | exact zA8 _ _ | rfl) (Nat.le_of_ble_eq_true rfl) ?_
  rw [eA_nT]
  refine X.aload iX3_clear_5 rfl ?_
  refine X.pushi (v := nI 0) iX3_clear_6 ?_
  refine X.puti iX3_clear_7 (by first | assumption | exact zAo _ _ | exact zA1 _ _ | exact zA2 _ _ | exact zA3 _ _ | exact zA4 _ _ | exact zA5 _ _ | exact zA6 _ _ | exact zA7 _ _ | exact zA8 _ _ | rfl) (Nat.le_of_ble_eq_true rfl) ?_
  rw [eA_nL]
  refine X.aload iX3_clear_10 rfl ?_
  refine X.getf iX3_clear_11 (by first | assumption | exact zAo _ _ | exact zA1 _ _ | exact zA2 _ _ | exact zA3 _ _ | exact zA4 _ _ | exact zA5 _ _ | exact zA6 _ _ | exact zA7 _ _ | exact zA8 _ _ | rfl) rfl ?_
  refine X.callVv iX3_clear_14 (c_X2_leanNowhere (d := d)) (by first | assumption | exact zAo _ _ | exact zA1 _ _ | exact zA2 _ _ | exact zA3 _ _ | exact zA4 _ _ | exact zA5 _ _ | exact zA6 _ _ | exact zA7 _ _ | exact zA8 _ _ | rfl) rfl rfl (xfit _ _ _) (Nat.le_of_ble_eq_true rfl) ?_
  exact X.vret iX3_clear_17 ⟨rfl, rfl⟩
theorem nI_lt' {a b : Nat} (h : a < b) (hb : b < 2 ^ 31) : nI a < nI b := by
  rw [Int32.lt_iff_toInt_lt, nI_toInt (by omega), nI_toInt hb]
  omega
def plO (O : Oc) (hi ri : Int32) : Oc := (Oc.mk (O.nT + 1) O.nL O.ba O.wa (upd O.hi O.nT hi) (upd O.ri O.nT ri) O.ki O.le O.pr)
def plM (O : Oc) (M : Mo) (fr : Int32) : Mo := (Mo.mk (upd M.fr O.nT fr) M.ln M.got M.paid M.lost M.day M.draw)
theorem c_X3_plant {d o : Nat} {h : XH} {O : Oc} {M : Mo} {hi fr ri : Int32} (hT : O.nT ≤ 6) : MetH mX3_plant (d, 0, 0) [.ref o, .int hi, .int fr, .int ri] (setA h o O M) (if O.nT = 6 then -3 else nI O.nT) (if O.nT = 6 then setA h o O M else setA h o (plO O hi ri) (plM O M fr)) := by
  refine MetX.of (by decide) rfl (Nat.le_of_ble_eq_true rfl) ?_
  by_cases q : O.nT = 6
  · rw [if_pos q, if_pos q]
    refine X.aload iX3_plant_0 rfl ?_
    refine X.getf iX3_plant_1 (by first | assumption | exact zAo _ _ | exact zA1 _ _ | exact zA2 _ _ | exact zA3 _ _ | exact zA4 _ _ | exact zA5 _ _ | exact zA6 _ _ | exact zA7 _ _ | exact zA8 _ _ | rfl) rfl ?_
    refine X.pushi (v := nI 6) iX3_plant_4 ?_
    refine X.cmlt iX3_plant_6 (fun c6 => ?_) (fun c6 => ?_)
    · exact absurd c6 (by rw [q]; decide)
    · refine X.pushi iX3_plant_9 ?_
      exact X.iret iX3_plant_11 ⟨rfl, rfl⟩
  · rw [if_neg q, if_neg q]
    refine X.aload iX3_plant_0 rfl ?_
    refine X.getf iX3_plant_1 (by first | assumption | exact zAo _ _ | exact zA1 _ _ | exact zA2 _ _ | exact zA3 _ _ | exact zA4 _ _ | exact zA5 _ _ | exact zA6 _ _ | exact zA7 _ _ | exact zA8 _ _ | rfl) rfl ?_
    refine X.pushi (v := nI 6) iX3_plant_4 ?_
    refine X.cmlt iX3_plant_6 (fun c6 => ?_) (fun c6 => ?_)
    · refine X.aload iX3_plant_12 rfl ?_
      refine X.getf iX3_plant_13 (by first | assumption | exact zAo _ _ | exact zA1 _ _ | exact zA2 _ _ | exact zA3 _ _ | exact zA4 _ _ | exact zA5 _ _ | exact zA6 _ _ | exact zA7 _ _ | exact zA8 _ _ | rfl) rfl ?_
      refine X.aload iX3_plant_16 rfl ?_
      refine X.getf iX3_plant_17 (by first | assumption | exact zAo _ _ | exact zA1 _ _ | exact zA2 _ _ | exact zA3 _ _ | exact zA4 _ _ | exact zA5 _ _ | exact zA6 _ _ | exact zA7 _ _ | exact zA8 _ _ | rfl) rfl ?_
      refine X.iload iX3_plant_20 rfl ?_
      refine X.iastE iX3_plant_21 (by first | assumption | exact zAo _ _ | exact zA1 _ _ | exact zA2 _ _ | exact zA3 _ _ | exact zA4 _ _ | exact zA5 _ _ | exact zA6 _ _ | exact zA7 _ _ | exact zA8 _ _ | rfl) rfl (Nat.lt_of_le_of_ne hT q) (by decide) ?_
      rw [eA_hi]
      try dsimp only
      refine X.aload iX3_plant_22 rfl ?_
      refine X.getf iX3_plant_23 (by first | assumption | exact zAo _ _ | exact zA1 _ _ | exact zA2 _ _ | exact zA3 _ _ | exact zA4 _ _ | exact zA5 _ _ | exact zA6 _ _ | exact zA7 _ _ | exact zA8 _ _ | rfl) rfl ?_
      refine X.aload iX3_plant_26 rfl ?_
      refine X.getf iX3_plant_27 (by first | assumption | exact zAo _ _ | exact zA1 _ _ | exact zA2 _ _ | exact zA3 _ _ | exact zA4 _ _ | exact zA5 _ _ | exact zA6 _ _ | exact zA7 _ _ | exact zA8 _ _ | rfl) rfl ?_
      refine X.iload iX3_plant_30 rfl ?_
      refine X.iastE iX3_plant_31 (by first | assumption | exact zAo _ _ | exact zA1 _ _ | exact zA2 _ _ | exact zA3 _ _ | exact zA4 _ _ | exact zA5 _ _ | exact zA6 _ _ | exact zA7 _ _ | exact zA8 _ _ | rfl) rfl (Nat.lt_of_le_of_ne hT q) (by decide) ?_
      rw [eA_ri]
      try dsimp only
      refine X.aload iX3_plant_32 rfl ?_
      refine X.getf iX3_plant_33 (by first | assumption | exact zAo _ _ | exact zA1 _ _ | exact zA2 _ _ | exact zA3 _ _ | exact zA4 _ _ | exact zA5 _ _ | exact zA6 _ _ | exact zA7 _ _ | exact zA8 _ _ | rfl) rfl ?_
      refine X.getf iX3_plant_36 (by first | assumption | exact zAo _ _ | exact zA1 _ _ | exact zA2 _ _ | exact zA3 _ _ | exact zA4 _ _ | exact zA5 _ _ | exact zA6 _ _ | exact zA7 _ _ | exact zA8 _ _ | rfl) rfl ?_
      refine X.aload iX3_plant_39 rfl ?_
      refine X.getf iX3_plant_40 (by first | assumption | exact zAo _ _ | exact zA1 _ _ | exact zA2 _ _ | exact zA3 _ _ | exact zA4 _ _ | exact zA5 _ _ | exact zA6 _ _ | exact zA7 _ _ | exact zA8 _ _ | rfl) rfl ?_
      refine X.iload iX3_plant_43 rfl ?_
      refine X.iastE iX3_plant_44 (by first | assumption | exact zAo _ _ | exact zA1 _ _ | exact zA2 _ _ | exact zA3 _ _ | exact zA4 _ _ | exact zA5 _ _ | exact zA6 _ _ | exact zA7 _ _ | exact zA8 _ _ | rfl) rfl (Nat.lt_of_le_of_ne hT q) (by decide) ?_
      rw [eA_fr]
      try dsimp only
      refine X.aload iX3_plant_45 rfl ?_
      refine X.dupa iX3_plant_46 ?_
      refine X.getf iX3_plant_47 (by first | assumption | exact zAo _ _ | exact zA1 _ _ | exact zA2 _ _ | exact zA3 _ _ | exact zA4 _ _ | exact zA5 _ _ | exact zA6 _ _ | exact zA7 _ _ | exact zA8 _ _ | rfl) rfl ?_
      refine X.pushi (v := nI 1) iX3_plant_50 ?_
      refine X.iadd iX3_plant_51 ?_
      refine X.puti iX3_plant_52 (by first | assumption | exact zAo _ _ | exact zA1 _ _ | exact zA2 _ _ | exact zA3 _ _ | exact zA4 _ _ | exact zA5 _ _ | exact zA6 _ _ | exact zA7 _ _ | exact zA8 _ _ | rfl) (Nat.le_of_ble_eq_true rfl) ?_
      rw [nI_add, eA_nT]
      refine X.aload iX3_plant_55 rfl ?_
      refine X.getf iX3_plant_56 (by first | assumption | exact zAo _ _ | exact zA1 _ _ | exact zA2 _ _ | exact zA3 _ _ | exact zA4 _ _ | exact zA5 _ _ | exact zA6 _ _ | exact zA7 _ _ | exact zA8 _ _ | rfl) rfl ?_
      refine X.pushi (v := nI 1) iX3_plant_59 ?_
      refine X.isub iX3_plant_60 ?_
      exact X.iret iX3_plant_61 ⟨congrArg (fun x => some (Value.int x)) (nI_pred O.nT), rfl⟩
    · exact absurd (nI_lt' (show O.nT < 6 by omega) (by decide)) c6
def brO (O : Oc) (ki le pr : Int32) : Oc := (Oc.mk O.nT (O.nL + 1) O.ba O.wa O.hi O.ri (upd O.ki O.nL ki) (upd O.le O.nL le) (upd O.pr O.nL pr))
def brM (O : Oc) (M : Mo) : Mo := (Mo.mk M.fr (upd M.ln O.nL (-4)) M.got M.paid M.lost M.day M.draw)
theorem c_X3_bring {d o : Nat} {h : XH} {O : Oc} {M : Mo} {ki le pr : Int32} (hL : O.nL ≤ 4) : MetH mX3_bring (d, 0, 0) [.ref o, .int ki, .int le, .int pr] (setA h o O M) (if O.nL = 4 then -3 else nI O.nL) (if O.nL = 4 then setA h o O M else setA h o (brO O ki le pr) (brM O M)) := by
  refine MetX.of (by decide) rfl (Nat.le_of_ble_eq_true rfl) ?_
  by_cases q : O.nL = 4
  · rw [if_pos q, if_pos q]
    refine X.aload iX3_bring_0 rfl ?_
    refine X.getf iX3_bring_1 (by first | assumption | exact zAo _ _ | exact zA1 _ _ | exact zA2 _ _ | exact zA3 _ _ | exact zA4 _ _ | exact zA5 _ _ | exact zA6 _ _ | exact zA7 _ _ | exact zA8 _ _ | rfl) rfl ?_
    refine X.pushi (v := nI 4) iX3_bring_4 ?_
    refine X.cmlt iX3_bring_5 (fun c5 => ?_) (fun c5 => ?_)
    · exact absurd c5 (by rw [q]; decide)
    · refine X.pushi iX3_bring_8 ?_
      exact X.iret iX3_bring_10 ⟨rfl, rfl⟩
  · rw [if_neg q, if_neg q]
    refine X.aload iX3_bring_0 rfl ?_
    refine X.getf iX3_bring_1 (by first | assumption | exact zAo _ _ | exact zA1 _ _ | exact zA2 _ _ | exact zA3 _ _ | exact zA4 _ _ | exact zA5 _ _ | exact zA6 _ _ | exact zA7 _ _ | exact zA8 _ _ | rfl) rfl ?_
    refine X.pushi (v := nI 4) iX3_bring_4 ?_
    refine X.cmlt iX3_bring_5 (fun c5 => ?_) (fun c5 => ?_)
    · refine X.aload iX3_bring_11 rfl ?_
      refine X.getf iX3_bring_12 (by first | assumption | exact zAo _ _ | exact zA1 _ _ | exact zA2 _ _ | exact zA3 _ _ | exact zA4 _ _ | exact zA5 _ _ | exact zA6 _ _ | exact zA7 _ _ | exact zA8 _ _ | rfl) rfl ?_
      refine X.aload iX3_bring_15 rfl ?_
      refine X.getf iX3_bring_16 (by first | assumption | exact zAo _ _ | exact zA1 _ _ | exact zA2 _ _ | exact zA3 _ _ | exact zA4 _ _ | exact zA5 _ _ | exact zA6 _ _ | exact zA7 _ _ | exact zA8 _ _ | rfl) rfl ?_
      refine X.iload iX3_bring_19 rfl ?_
      refine X.iastE iX3_bring_20 (by first | assumption | exact zAo _ _ | exact zA1 _ _ | exact zA2 _ _ | exact zA3 _ _ | exact zA4 _ _ | exact zA5 _ _ | exact zA6 _ _ | exact zA7 _ _ | exact zA8 _ _ | rfl) rfl (Nat.lt_of_le_of_ne hL q) (by decide) ?_
      rw [eA_ki]
      try dsimp only
      refine X.aload iX3_bring_21 rfl ?_
      refine X.getf iX3_bring_22 (by first | assumption | exact zAo _ _ | exact zA1 _ _ | exact zA2 _ _ | exact zA3 _ _ | exact zA4 _ _ | exact zA5 _ _ | exact zA6 _ _ | exact zA7 _ _ | exact zA8 _ _ | rfl) rfl ?_
      refine X.aload iX3_bring_25 rfl ?_
      refine X.getf iX3_bring_26 (by first | assumption | exact zAo _ _ | exact zA1 _ _ | exact zA2 _ _ | exact zA3 _ _ | exact zA4 _ _ | exact zA5 _ _ | exact zA6 _ _ | exact zA7 _ _ | exact zA8 _ _ | rfl) rfl ?_
      refine X.iload iX3_bring_29 rfl ?_
      refine X.iastE iX3_bring_30 (by first | assumption | exact zAo _ _ | exact zA1 _ _ | exact zA2 _ _ | exact zA3 _ _ | exact zA4 _ _ | exact zA5 _ _ | exact zA6 _ _ | exact zA7 _ _ | exact zA8 _ _ | rfl) rfl (Nat.lt_of_le_of_ne hL q) (by decide) ?_
      rw [eA_le]
      try dsimp only
      refine X.aload iX3_bring_31 rfl ?_
      refine X.getf iX3_bring_32 (by first | assumption | exact zAo _ _ | exact zA1 _ _ | exact zA2 _ _ | exact zA3 _ _ | exact zA4 _ _ | exact zA5 _ _ | exact zA6 _ _ | exact zA7 _ _ | exact zA8 _ _ | rfl) rfl ?_
      refine X.aload iX3_bring_35 rfl ?_
      refine X.getf iX3_bring_36 (by first | assumption | exact zAo _ _ | exact zA1 _ _ | exact zA2 _ _ | exact zA3 _ _ | exact zA4 _ _ | exact zA5 _ _ | exact zA6 _ _ | exact zA7 _ _ | exact zA8 _ _ | rfl) rfl ?_
      refine X.iload iX3_bring_39 rfl ?_
      refine X.iastE iX3_bring_40 (by first | assumption | exact zAo _ _ | exact zA1 _ _ | exact zA2 _ _ | exact zA3 _ _ | exact zA4 _ _ | exact zA5 _ _ | exact zA6 _ _ | exact zA7 _ _ | exact zA8 _ _ | rfl) rfl (Nat.lt_of_le_of_ne hL q) (by decide) ?_
      rw [eA_pr]
      try dsimp only
      refine X.aload iX3_bring_41 rfl ?_
      refine X.getf iX3_bring_42 (by first | assumption | exact zAo _ _ | exact zA1 _ _ | exact zA2 _ _ | exact zA3 _ _ | exact zA4 _ _ | exact zA5 _ _ | exact zA6 _ _ | exact zA7 _ _ | exact zA8 _ _ | rfl) rfl ?_
      refine X.getf iX3_bring_45 (by first | assumption | exact zAo _ _ | exact zA1 _ _ | exact zA2 _ _ | exact zA3 _ _ | exact zA4 _ _ | exact zA5 _ _ | exact zA6 _ _ | exact zA7 _ _ | exact zA8 _ _ | rfl) rfl ?_
      refine X.aload iX3_bring_48 rfl ?_
      refine X.getf iX3_bring_49 (by first | assumption | exact zAo _ _ | exact zA1 _ _ | exact zA2 _ _ | exact zA3 _ _ | exact zA4 _ _ | exact zA5 _ _ | exact zA6 _ _ | exact zA7 _ _ | exact zA8 _ _ | rfl) rfl ?_
      refine X.pushi iX3_bring_52 ?_
      refine X.iastE iX3_bring_54 (by first | assumption | exact zAo _ _ | exact zA1 _ _ | exact zA2 _ _ | exact zA3 _ _ | exact zA4 _ _ | exact zA5 _ _ | exact zA6 _ _ | exact zA7 _ _ | exact zA8 _ _ | rfl) rfl (Nat.lt_of_le_of_ne hL q) (by decide) ?_
      rw [eA_ln]
      try dsimp only
      refine X.aload iX3_bring_55 rfl ?_
      refine X.dupa iX3_bring_56 ?_
      refine X.getf iX3_bring_57 (by first | assumption | exact zAo _ _ | exact zA1 _ _ | exact zA2 _ _ | exact zA3 _ _ | exact zA4 _ _ | exact zA5 _ _ | exact zA6 _ _ | exact zA7 _ _ | exact zA8 _ _ | rfl) rfl ?_
      refine X.pushi (v := nI 1) iX3_bring_60 ?_
      refine X.iadd iX3_bring_61 ?_
      refine X.puti iX3_bring_62 (by first | assumption | exact zAo _ _ | exact zA1 _ _ | exact zA2 _ _ | exact zA3 _ _ | exact zA4 _ _ | exact zA5 _ _ | exact zA6 _ _ | exact zA7 _ _ | exact zA8 _ _ | rfl) (Nat.le_of_ble_eq_true rfl) ?_
      rw [nI_add, eA_nL]
      refine X.aload iX3_bring_65 rfl ?_
      refine X.getf iX3_bring_66 (by first | assumption | exact zAo _ _ | exact zA1 _ _ | exact zA2 _ _ | exact zA3 _ _ | exact zA4 _ _ | exact zA5 _ _ | exact zA6 _ _ | exact zA7 _ _ | exact zA8 _ _ | rfl) rfl ?_
      refine X.pushi (v := nI 1) iX3_bring_69 ?_
      refine X.isub iX3_bring_70 ?_
      exact X.iret iX3_bring_71 ⟨congrArg (fun x => some (Value.int x)) (nI_pred O.nL), rfl⟩
    · exact absurd (nI_lt' (show O.nL < 4 by omega) (by decide)) c5
