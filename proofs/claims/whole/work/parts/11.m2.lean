/-! the reference: a day -/
theorem X.weak {Γ : State → Nat → Nat → Prop} {μ : MI} {R : Room} {κ : Nat × Nat} {pc : Nat} {L L' : List (Option Value)} {S : List Value} {h : XH} {Q : Option Value → XH → Prop} (hL : ∀ (i : Nat) (v : Value), L'[i]? = some (some v) → L[i]? = some (some v)) (k : X Γ μ R κ pc L' S h Q) : X Γ μ R κ pc L S h Q := by
  intro p l e s m args below meth c B b D dA C Z E hκ H locs ls hR hS hl
  exact k p l e s m args below meth c B b D dA C Z E hκ H locs ls hR hS ⟨hl.1, hl.2.1, fun i v hv => hl.2.2 i v (hL i v hv)⟩
/-- a local is forgotten -/
theorem X.unset {Γ : State → Nat → Nat → Prop} {μ : MI} {R : Room} {κ : Nat × Nat} {pc : Nat} {L L' : List (Option Value)} {S : List Value} {h : XH} {Q : Option Value → XH → Prop} (i : Nat) (hL : L.set i none = L') (k : X Γ μ R κ pc L' S h Q) : X Γ μ R κ pc L S h Q := by
  subst hL
  refine X.weak (fun j v hv => ?_) k
  by_cases hj : i = j
  · subst hj
    have hlt : i < (L.set i none).length := (List.getElem?_eq_some_iff.mp hv).1
    rw [List.length_set] at hlt
    rw [List.getElem?_set_self hlt] at hv
    cases hv
  · rwa [List.getElem?_set_ne hj] at hv
theorem X.heap {Γ : State → Nat → Nat → Prop} {μ : MI} {R : Room} {κ : Nat × Nat} {pc : Nat} {L : List (Option Value)} {S : List Value} {h h' : XH} {Q : Option Value → XH → Prop} (e : h = h') (k : X Γ μ R κ pc L S h' Q) : X Γ μ R κ pc L S h Q := e ▸ k
/-- the numbers of trees and of ladders, and where these lean -/
def WF (nw : Nat → Int32) (nT nL : Nat) : Prop := nw 0 = nI nT ∧ nw 1 = nI nL ∧ nT ≤ 6 ∧ nL ≤ 4 ∧ ∀ l, l < nL → nw (30 + 4 * l) = -4 ∨ ∃ t, t < nT ∧ nw (30 + 4 * l) = nI t
theorem upd_ne (f : Nat → Int32) {k j : Nat} (x : Int32) (hj : j ≠ k) : upd f k x j = f j := if_neg hj
theorem upd_eq (f : Nat → Int32) (k : Nat) (x : Int32) : upd f k x k = x := if_pos rfl
theorem WF.upd {nw : Nat → Int32} {nT nL : Nat} (h : WF nw nT nL) (k : Nat) (x : Int32) (hk : 2 ≤ k ∧ k < 30) : WF (upd nw k x) nT nL := by
  obtain ⟨h1, h2, h3, h4, h5⟩ := h
  exact ⟨by rw [upd_ne _ _ (by omega)]; exact h1, by rw [upd_ne _ _ (by omega)]; exact h2, h3, h4, fun l hl => by rw [upd_ne _ _ (by omega)]; exact h5 l hl⟩
def gbTake (nw : Nat → Int32) (t : Nat) : Nat → Int32 :=
  upd (upd nw (9 + 3 * t + 1) (nw (9 + 3 * t + 1) - minI (nw 6) (nw (9 + 3 * t + 1)))) 3 (upd nw (9 + 3 * t + 1) (nw (9 + 3 * t + 1) - minI (nw 6) (nw (9 + 3 * t + 1))) 3 + minI (nw 6) (nw (9 + 3 * t + 1)))
def gbPay (nw : Nat → Int32) (l : Nat) : Nat → Int32 := upd nw 4 (nw 4 + nw (27 + 4 * l + 2))
abbrev awayB (away : Int32) (l : Nat) : Prop := away >>> (nI l &&& 31) &&& nI 1 = 0
def gbL (nw : Nat → Int32) (away : Int32) (l : Nat) : Nat → Int32 :=
  if nw (30 + 4 * l) = -4 then nw else
  if awayB away l ∧ ripI (gbPay nw l) (nw (30 + 4 * l)).toNatClampNeg = true ∧ rcI (gbPay nw l) l (nw (30 + 4 * l)).toNatClampNeg (gbPay nw l 2) = true then gbTake (gbPay nw l) (nw (30 + 4 * l)).toNatClampNeg else gbPay nw l
theorem gbL_wf {nw : Nat → Int32} {nT nL : Nat} (h : WF nw nT nL) (away : Int32) {l : Nat} (hl : l < nL) : WF (gbL nw away l) nT nL := by
  unfold gbL
  split
  · exact h
  · have hp := h.upd 4 (nw 4 + nw (27 + 4 * l + 2)) (by omega)
    rename_i c
    obtain ⟨t, ht, et⟩ := (h.2.2.2.2 l hl).resolve_left c
    have := h.2.2.1
    split
    · rw [et, nI_clamp (by omega)]
      exact ((hp.upd _ _ (by omega)).upd _ _ (by omega))
    · exact hp
def gb1 (nw : Nat → Int32) (away : Int32) : Nat → (Nat → Int32)
  | 0 => nw
  | k + 1 => gbL (gb1 nw away k) away k
theorem gb1_wf {nw : Nat → Int32} {nT nL : Nat} (h : WF nw nT nL) (away : Int32) : ∀ k, k ≤ nL → WF (gb1 nw away k) nT nL
  | 0, _ => h
  | k + 1, hk => gbL_wf (gb1_wf h away k (by omega)) away (by omega)
def gbLose (nw : Nat → Int32) (t : Nat) (n : Int32) : Nat → Int32 := upd (upd nw (9 + 3 * t + 1) (nw (9 + 3 * t + 1) - n)) 5 (upd nw (9 + 3 * t + 1) (nw (9 + 3 * t + 1) - n) 5 + n)
def gbT (nw : Nat → Int32) (t : Nat) : Nat → Int32 := gbLose nw t (if ripI nw t = true then minI (nw 7) (nw (9 + 3 * t + 1)) else nI 0)
def gb2 (nw : Nat → Int32) : Nat → (Nat → Int32)
  | 0 => nw
  | k + 1 => gbT (gb2 nw k) k
theorem gb2_wf {nw : Nat → Int32} {nT nL : Nat} (h : WF nw nT nL) : ∀ k, k ≤ nT → WF (gb2 nw k) nT nL
  | 0, _ => h
  | k + 1, hk => by
    have := h.2.2.1
    exact ((gb2_wf h k (by omega)).upd _ _ (by omega)).upd _ _ (by omega)
def gbDay (nw : Nat → Int32) : Nat → Int32 := upd nw 2 (nw 2 + nI 1)
/-- a day goes by -/
def gb (nw : Nat → Int32) (nT nL : Nat) (away : Int32) : Nat → Int32 := gbDay (gb2 (gb1 nw away nL) nT)
theorem gb_wf {nw : Nat → Int32} {nT nL : Nat} (h : WF nw nT nL) (away : Int32) : WF (gb nw nT nL away) nT nL := (gb2_wf (gb1_wf h away nL (Nat.le_refl _)) nT (Nat.le_refl _)).upd 2 _ (by omega)
set_option maxHeartbeats 1000000 in
theorem gb_ladder {d : Nat} {h : XH} {nw : Nat → Int32} {nT nL l : Nat} {away : Int32} {Q : Option Value → XH → Prop} (H : MO h nw) (wf : WF nw nT nL) (hl : l < nL) (K : X xT mX7_goesBy (xR (d + 2, 0, 0)) (0, 0) 106 [some (.ref 98), some (.int away), some (.int (nI l)), none, none] [] (xup h 99 (IA 43 (gbL nw away l))) Q) : X xT mX7_goesBy (xR (d + 2, 0, 0)) (0, 0) 12 [some (.ref 98), some (.int away), some (.int (nI l)), none, none] [] h Q := by
  obtain ⟨⟨ty, pl, fa, un, ku, ik, h98⟩, h99⟩ := id H
  have hT := wf.2.2.1
  have hL := wf.2.2.2.1
  have hw := wf.2.2.2.2 l hl
  have Hp : MO (xup h 99 (IA 43 (gbPay nw l))) (gbPay nw l) := H.up _
  unfold gbL at K
  refine X.aload iX7_goesBy_12 rfl ?_
  refine X.iload iX7_goesBy_13 rfl ?_
  refine X.callVi iX7_goesBy_14 (c_X7_leansAt (d := d) H (by omega)) (by repeat (first | assumption | exact xup_eq _ _ _ | rw [xup_ne _ _ (by first | decide | omega | assumption)])) rfl rfl (xfit _ _ _) (Nat.le_of_ble_eq_true rfl) ?_
  refine X.istore iX7_goesBy_17 rfl rfl ?_
  refine X.iload iX7_goesBy_18 rfl ?_
  refine X.pushi iX7_goesBy_19 ?_
  refine X.cmeq iX7_goesBy_21 (fun c21 => ?_) (fun c21 => ?_)
  · first
    | (rw [if_pos c21, xup_self _ h99] at K; exact X.unset 3 rfl K)
    | (rw [if_neg (fun q => c44 q.1)] at K; exact X.unset 3 rfl K)
    | (rw [if_neg (fun q => Bool.noConfusion (c52.symm.trans q.2.1))] at K; exact X.unset 3 rfl K)
    | (rw [if_neg (fun q => Bool.noConfusion (c67.symm.trans q.2.2))] at K; exact X.unset 3 rfl K)
    | (rw [if_pos (And.intro c44 (And.intro c52 c67))] at K; exact X.unset 3 rfl (X.unset 4 rfl (X.heap (by rw [xup_xup, xup_xup]; rfl) K)))
  · obtain ⟨t, ht, et⟩ := hw.resolve_left c21
    rw [if_neg c21] at K
    rw [et] at K ⊢
    rw [nI_clamp (by omega)] at K
    refine X.aload iX7_goesBy_24 rfl ?_
    refine X.getf iX7_goesBy_25 (by repeat (first | assumption | exact xup_eq _ _ _ | rw [xup_ne _ _ (by first | decide | omega | assumption)])) rfl ?_
    refine X.pushi (v := nI 4) iX7_goesBy_28 ?_
    refine X.dup2 iX7_goesBy_29 ?_
    refine X.ialdN iX7_goesBy_30 (by repeat (first | assumption | exact xup_eq _ _ _ | rw [xup_ne _ _ (by first | decide | omega | assumption)])) (by omega) (by decide) ?_
    refine X.aload iX7_goesBy_31 rfl ?_
    refine X.iload iX7_goesBy_32 rfl ?_
    refine X.pushi (v := nI 2) iX7_goesBy_33 ?_
    refine X.callVi iX7_goesBy_34 (c_X7_ofLadder (d := d + 1) (w := 2) H (by omega)) (by repeat (first | assumption | exact xup_eq _ _ _ | rw [xup_ne _ _ (by first | decide | omega | assumption)])) rfl rfl (xfit _ _ _) (Nat.le_of_ble_eq_true rfl) ?_
    refine X.iadd iX7_goesBy_37 ?_
    refine X.iastN iX7_goesBy_38 (by repeat (first | assumption | exact xup_eq _ _ _ | rw [xup_ne _ _ (by first | decide | omega | assumption)])) (by omega) (by decide) ?_
    refine X.heap (h' := xup h 99 (IA 43 (gbPay nw l))) rfl ?_
    refine X.iload iX7_goesBy_39 rfl ?_
    refine X.iload iX7_goesBy_40 rfl ?_
    refine X.ishr iX7_goesBy_41 ?_
    refine X.pushi (v := nI 1) iX7_goesBy_42 ?_
    refine X.iand iX7_goesBy_43 ?_
    refine X.ifne iX7_goesBy_44 (fun c44 => ?_) (fun c44 => ?_)
    · first
      | (rw [if_pos c21, xup_self _ h99] at K; exact X.unset 3 rfl K)
      | (rw [if_neg (fun q => c44 q.1)] at K; exact X.unset 3 rfl K)
      | (rw [if_neg (fun q => Bool.noConfusion (c52.symm.trans q.2.1))] at K; exact X.unset 3 rfl K)
      | (rw [if_neg (fun q => Bool.noConfusion (c67.symm.trans q.2.2))] at K; exact X.unset 3 rfl K)
      | (rw [if_pos (And.intro c44 (And.intro c52 c67))] at K; exact X.unset 3 rfl (X.unset 4 rfl (X.heap (by rw [xup_xup, xup_xup]; rfl) K)))
    · refine X.aload iX7_goesBy_47 rfl ?_
      refine X.iload iX7_goesBy_48 rfl ?_
      refine X.callVi iX7_goesBy_49 (c_X7_isRipe (d := d) Hp (by omega)) (by repeat (first | assumption | exact xup_eq _ _ _ | rw [xup_ne _ _ (by first | decide | omega | assumption)])) rfl rfl (xfit _ _ _) (Nat.le_of_ble_eq_true rfl) ?_
      refine X.ifeqB iX7_goesBy_52 (fun c52 => ?_) (fun c52 => ?_)
      · first
        | (rw [if_pos c21, xup_self _ h99] at K; exact X.unset 3 rfl K)
        | (rw [if_neg (fun q => c44 q.1)] at K; exact X.unset 3 rfl K)
        | (rw [if_neg (fun q => Bool.noConfusion (c52.symm.trans q.2.1))] at K; exact X.unset 3 rfl K)
        | (rw [if_neg (fun q => Bool.noConfusion (c67.symm.trans q.2.2))] at K; exact X.unset 3 rfl K)
        | (rw [if_pos (And.intro c44 (And.intro c52 c67))] at K; exact X.unset 3 rfl (X.unset 4 rfl (X.heap (by rw [xup_xup, xup_xup]; rfl) K)))
      · refine X.aload iX7_goesBy_55 rfl ?_
        refine X.iload iX7_goesBy_56 rfl ?_
        refine X.iload iX7_goesBy_57 rfl ?_
        refine X.aload iX7_goesBy_58 rfl ?_
        refine X.getf iX7_goesBy_59 (by repeat (first | assumption | exact xup_eq _ _ _ | rw [xup_ne _ _ (by first | decide | omega | assumption)])) rfl ?_
        refine X.pushi (v := nI 2) iX7_goesBy_62 ?_
        refine X.ialdN iX7_goesBy_63 (by repeat (first | assumption | exact xup_eq _ _ _ | rw [xup_ne _ _ (by first | decide | omega | assumption)])) (by omega) (by decide) ?_
        refine X.callVi iX7_goesBy_64 (c_X7_isReached (d := d) Hp (by omega) (by omega)) (by repeat (first | assumption | exact xup_eq _ _ _ | rw [xup_ne _ _ (by first | decide | omega | assumption)])) rfl rfl (xfit _ _ _) (Nat.le_of_ble_eq_true rfl) ?_
        refine X.ifeqB iX7_goesBy_67 (fun c67 => ?_) (fun c67 => ?_)
        · first
          | (rw [if_pos c21, xup_self _ h99] at K; exact X.unset 3 rfl K)
          | (rw [if_neg (fun q => c44 q.1)] at K; exact X.unset 3 rfl K)
          | (rw [if_neg (fun q => Bool.noConfusion (c52.symm.trans q.2.1))] at K; exact X.unset 3 rfl K)
          | (rw [if_neg (fun q => Bool.noConfusion (c67.symm.trans q.2.2))] at K; exact X.unset 3 rfl K)
          | (rw [if_pos (And.intro c44 (And.intro c52 c67))] at K; exact X.unset 3 rfl (X.unset 4 rfl (X.heap (by rw [xup_xup, xup_xup]; rfl) K)))
        · refine X.aload iX7_goesBy_70 rfl ?_
          refine X.getf iX7_goesBy_71 (by repeat (first | assumption | exact xup_eq _ _ _ | rw [xup_ne _ _ (by first | decide | omega | assumption)])) rfl ?_
          refine X.pushi (v := nI 6) iX7_goesBy_74 ?_
          refine X.ialdN iX7_goesBy_76 (by repeat (first | assumption | exact xup_eq _ _ _ | rw [xup_ne _ _ (by first | decide | omega | assumption)])) (by omega) (by decide) ?_
          refine X.aload iX7_goesBy_77 rfl ?_
          refine X.iload iX7_goesBy_78 rfl ?_
          refine X.pushi (v := nI 1) iX7_goesBy_79 ?_
          refine X.callVi iX7_goesBy_80 (c_X7_ofTree (d := d + 1) (w := 1) Hp (by omega)) (by repeat (first | assumption | exact xup_eq _ _ _ | rw [xup_ne _ _ (by first | decide | omega | assumption)])) rfl rfl (xfit _ _ _) (Nat.le_of_ble_eq_true rfl) ?_
          refine X.callSi iX7_goesBy_83 (c_X7_less (d + 1) _ _ _) rfl rfl (xfit _ _ _) (Nat.le_of_ble_eq_true rfl) ?_
          refine X.istore iX7_goesBy_86 rfl rfl ?_
          refine X.aload iX7_goesBy_88 rfl ?_
          refine X.iload iX7_goesBy_89 rfl ?_
          refine X.iload iX7_goesBy_90 rfl ?_
          refine X.callVv iX7_goesBy_92 (c_X7_takes (d := d + 1) Hp (by omega)) (by repeat (first | assumption | exact xup_eq _ _ _ | rw [xup_ne _ _ (by first | decide | omega | assumption)])) rfl rfl (xfit _ _ _) (Nat.le_of_ble_eq_true rfl) ?_
          refine X.aload iX7_goesBy_95 rfl ?_
          refine X.getf iX7_goesBy_96 (by repeat (first | assumption | exact xup_eq _ _ _ | rw [xup_ne _ _ (by first | decide | omega | assumption)])) rfl ?_
          refine X.pushi (v := nI 3) iX7_goesBy_99 ?_
          refine X.dup2 iX7_goesBy_100 ?_
          refine X.ialdN iX7_goesBy_101 (by repeat (first | assumption | exact xup_eq _ _ _ | rw [xup_ne _ _ (by first | decide | omega | assumption)])) (by omega) (by decide) ?_
          refine X.iload iX7_goesBy_102 rfl ?_
          refine X.iadd iX7_goesBy_104 ?_
          refine X.iastN iX7_goesBy_105 (by repeat (first | assumption | exact xup_eq _ _ _ | rw [xup_ne _ _ (by first | decide | omega | assumption)])) (by omega) (by decide) ?_
          first
          | (rw [if_pos c21, xup_self _ h99] at K; exact X.unset 3 rfl K)
          | (rw [if_neg (fun q => c44 q.1)] at K; exact X.unset 3 rfl K)
          | (rw [if_neg (fun q => Bool.noConfusion (c52.symm.trans q.2.1))] at K; exact X.unset 3 rfl K)
          | (rw [if_neg (fun q => Bool.noConfusion (c67.symm.trans q.2.2))] at K; exact X.unset 3 rfl K)
          | (rw [if_pos (And.intro c44 (And.intro c52 c67))] at K; exact X.unset 3 rfl (X.unset 4 rfl (X.heap (by rw [xup_xup, xup_xup]; rfl) K)))
set_option maxHeartbeats 1000000 in
theorem gb_tree {d : Nat} {h : XH} {nw : Nat → Int32} {nT nL t : Nat} {away : Int32} {Q : Option Value → XH → Prop} (H : MO h nw) (wf : WF nw nT nL) (ht : t < nT) (K : X xT mX7_goesBy (xR (d + 2, 0, 0)) (0, 0) 169 [some (.ref 98), some (.int away), some (.int (nI t)), none, none] [] (xup h 99 (IA 43 (gbT nw t))) Q) : X xT mX7_goesBy (xR (d + 2, 0, 0)) (0, 0) 124 [some (.ref 98), some (.int away), some (.int (nI t)), none, none] [] h Q := by
  obtain ⟨⟨ty, pl, fa, un, ku, ik, h98⟩, h99⟩ := id H
  have hT := wf.2.2.1
  have hj : ∀ n : Int32, n = (if ripI nw t = true then minI (nw 7) (nw (9 + 3 * t + 1)) else nI 0) → X xT mX7_goesBy (xR (d + 2, 0, 0)) (0, 0) 152 [some (.ref 98), some (.int away), some (.int (nI t)), none, none] [.int n] h Q := by
    intro n hn
    unfold gbT at K
    rw [← hn] at K
    refine X.istore iX7_goesBy_152 rfl rfl ?_
    refine X.aload iX7_goesBy_153 rfl ?_
    refine X.iload iX7_goesBy_154 rfl ?_
    refine X.iload iX7_goesBy_155 rfl ?_
    refine X.callVv iX7_goesBy_156 (c_X7_takes (d := d + 1) H (by omega)) (by repeat (first | assumption | exact xup_eq _ _ _ | rw [xup_ne _ _ (by first | decide | omega | assumption)])) rfl rfl (xfit _ _ _) (Nat.le_of_ble_eq_true rfl) ?_
    refine X.aload iX7_goesBy_159 rfl ?_
    refine X.getf iX7_goesBy_160 (by repeat (first | assumption | exact xup_eq _ _ _ | rw [xup_ne _ _ (by first | decide | omega | assumption)])) rfl ?_
    refine X.pushi (v := nI 5) iX7_goesBy_163 ?_
    refine X.dup2 iX7_goesBy_164 ?_
    refine X.ialdN iX7_goesBy_165 (by repeat (first | assumption | exact xup_eq _ _ _ | rw [xup_ne _ _ (by first | decide | omega | assumption)])) (by omega) (by decide) ?_
    refine X.iload iX7_goesBy_166 rfl ?_
    refine X.iadd iX7_goesBy_167 ?_
    refine X.iastN iX7_goesBy_168 (by repeat (first | assumption | exact xup_eq _ _ _ | rw [xup_ne _ _ (by first | decide | omega | assumption)])) (by omega) (by decide) ?_
    exact X.unset 3 rfl (X.heap (by rw [xup_xup]; rfl) K)
  refine X.aload iX7_goesBy_124 rfl ?_
  refine X.iload iX7_goesBy_125 rfl ?_
  refine X.callVi iX7_goesBy_126 (c_X7_isRipe (d := d) H (by omega)) (by repeat (first | assumption | exact xup_eq _ _ _ | rw [xup_ne _ _ (by first | decide | omega | assumption)])) rfl rfl (xfit _ _ _) (Nat.le_of_ble_eq_true rfl) ?_
  refine X.ifeqB iX7_goesBy_129 (fun c129 => ?_) (fun c129 => ?_)
  · refine X.pushi (v := nI 0) iX7_goesBy_151 ?_
    first
    | (exact hj _ (by rw [if_pos c129]))
    | (exact hj _ (by rw [c129]; rfl))
  · refine X.aload iX7_goesBy_132 rfl ?_
    refine X.getf iX7_goesBy_133 (by repeat (first | assumption | exact xup_eq _ _ _ | rw [xup_ne _ _ (by first | decide | omega | assumption)])) rfl ?_
    refine X.pushi (v := nI 7) iX7_goesBy_136 ?_
    refine X.ialdN iX7_goesBy_138 (by repeat (first | assumption | exact xup_eq _ _ _ | rw [xup_ne _ _ (by first | decide | omega | assumption)])) (by omega) (by decide) ?_
    refine X.aload iX7_goesBy_139 rfl ?_
    refine X.iload iX7_goesBy_140 rfl ?_
    refine X.pushi (v := nI 1) iX7_goesBy_141 ?_
    refine X.callVi iX7_goesBy_142 (c_X7_ofTree (d := d + 1) (w := 1) H (by omega)) (by repeat (first | assumption | exact xup_eq _ _ _ | rw [xup_ne _ _ (by first | decide | omega | assumption)])) rfl rfl (xfit _ _ _) (Nat.le_of_ble_eq_true rfl) ?_
    refine X.callSi iX7_goesBy_145 (c_X7_less (d + 1) _ _ _) rfl rfl (xfit _ _ _) (Nat.le_of_ble_eq_true rfl) ?_
    refine X.goto iX7_goesBy_148 ?_
    first
    | (exact hj _ (by rw [if_pos c129]))
    | (exact hj _ (by rw [c129]; rfl))
set_option maxHeartbeats 1000000 in
theorem c_X7_goesBy {d : Nat} {h : XH} {nw : Nat → Int32} {nT nL : Nat} {away : Int32} (H : MO h nw) (wf : WF nw nT nL) : MetV mX7_goesBy (d + 2, 0, 0) [.ref 98, .int away] h (xup h 99 (IA 43 (gb nw nT nL away))) := by
  have hT := wf.2.2.1
  have hL := wf.2.2.2.1
  have P2 : ∀ k, k ≤ nT → X xT mX7_goesBy (xR (d + 2, 0, 0)) (0, 0) 114 [some (.ref 98), some (.int away), some (.int (nI k)), none, none] [] (xup h 99 (IA 43 (gb2 (gb1 nw away nL) k))) (fun v h' => v = none ∧ h' = xup h 99 (IA 43 (gb nw nT nL away))) := by
    refine xloop nT ?_ ?_
    · have wk := gb2_wf (gb1_wf wf away nL (Nat.le_refl _)) nT (Nat.le_refl _)
      obtain ⟨⟨ty, pl, fa, un, ku, ik, h98⟩, h99⟩ := H.up (gb2 (gb1 nw away nL) nT)
      refine X.iload iX7_goesBy_114 rfl ?_
      refine X.aload iX7_goesBy_115 rfl ?_
      refine X.getf iX7_goesBy_116 (by repeat (first | assumption | exact xup_eq _ _ _ | rw [xup_ne _ _ (by first | decide | omega | assumption)])) rfl ?_
      refine X.pushi (v := nI 0) iX7_goesBy_119 ?_
      refine X.ialdN iX7_goesBy_120 (by repeat (first | assumption | exact xup_eq _ _ _ | rw [xup_ne _ _ (by first | decide | omega | assumption)])) (by omega) (by decide) ?_
      refine X.cmge iX7_goesBy_121 (fun c121 => ?_) (fun c121 => ?_)
      · refine X.aload iX7_goesBy_175 rfl ?_
        refine X.getf iX7_goesBy_176 (by repeat (first | assumption | exact xup_eq _ _ _ | rw [xup_ne _ _ (by first | decide | omega | assumption)])) rfl ?_
        refine X.pushi (v := nI 2) iX7_goesBy_179 ?_
        refine X.dup2 iX7_goesBy_180 ?_
        refine X.ialdN iX7_goesBy_181 (by repeat (first | assumption | exact xup_eq _ _ _ | rw [xup_ne _ _ (by first | decide | omega | assumption)])) (by omega) (by decide) ?_
        refine X.pushi (v := nI 1) iX7_goesBy_182 ?_
        refine X.iadd iX7_goesBy_183 ?_
        refine X.iastN iX7_goesBy_184 (by repeat (first | assumption | exact xup_eq _ _ _ | rw [xup_ne _ _ (by first | decide | omega | assumption)])) (by omega) (by decide) ?_
        exact X.vret iX7_goesBy_185 ⟨rfl, (by rw [xup_xup]; rfl)⟩
      · exact absurd (by rw [wk.1]; exact nI_le (Nat.le_refl _) (by omega)) c121
    · intro k hk ih
      have wk := gb2_wf (gb1_wf wf away nL (Nat.le_refl _)) k (by omega)
      have Hk := H.up (gb2 (gb1 nw away nL) k)
      obtain ⟨⟨ty, pl, fa, un, ku, ik, h98⟩, h99⟩ := id Hk
      refine X.iload iX7_goesBy_114 rfl ?_
      refine X.aload iX7_goesBy_115 rfl ?_
      refine X.getf iX7_goesBy_116 (by repeat (first | assumption | exact xup_eq _ _ _ | rw [xup_ne _ _ (by first | decide | omega | assumption)])) rfl ?_
      refine X.pushi (v := nI 0) iX7_goesBy_119 ?_
      refine X.ialdN iX7_goesBy_120 (by repeat (first | assumption | exact xup_eq _ _ _ | rw [xup_ne _ _ (by first | decide | omega | assumption)])) (by omega) (by decide) ?_
      refine X.cmge iX7_goesBy_121 (fun c121 => ?_) (fun c121 => ?_)
      · exact absurd (by rw [← wk.1]; exact c121) (nI_ge hk (by omega))
      · refine gb_tree Hk wk hk ?_
        rw [xup_xup]
        refine X.iinc iX7_goesBy_169 rfl rfl rfl ?_
        refine X.goto iX7_goesBy_172 ?_
        rw [nI_1]
        exact ih
  have P1 : ∀ k, k ≤ nL → X xT mX7_goesBy (xR (d + 2, 0, 0)) (0, 0) 2 [some (.ref 98), some (.int away), some (.int (nI k)), none, none] [] (xup h 99 (IA 43 (gb1 nw away k))) (fun v h' => v = none ∧ h' = xup h 99 (IA 43 (gb nw nT nL away))) := by
    refine xloop nL ?_ ?_
    · have wk := gb1_wf wf away nL (Nat.le_refl _)
      obtain ⟨⟨ty, pl, fa, un, ku, ik, h98⟩, h99⟩ := H.up (gb1 nw away nL)
      refine X.iload iX7_goesBy_2 rfl ?_
      refine X.aload iX7_goesBy_3 rfl ?_
      refine X.getf iX7_goesBy_4 (by repeat (first | assumption | exact xup_eq _ _ _ | rw [xup_ne _ _ (by first | decide | omega | assumption)])) rfl ?_
      refine X.pushi (v := nI 1) iX7_goesBy_7 ?_
      refine X.ialdN iX7_goesBy_8 (by repeat (first | assumption | exact xup_eq _ _ _ | rw [xup_ne _ _ (by first | decide | omega | assumption)])) (by omega) (by decide) ?_
      refine X.cmge iX7_goesBy_9 (fun c9 => ?_) (fun c9 => ?_)
      · refine X.pushi (v := nI 0) iX7_goesBy_112 ?_
        refine X.istore iX7_goesBy_113 rfl rfl ?_
        exact P2 0 (Nat.zero_le _)
      · exact absurd (by rw [wk.2.1]; exact nI_le (Nat.le_refl _) (by omega)) c9
    · intro k hk ih
      have wk := gb1_wf wf away k (by omega)
      have Hk := H.up (gb1 nw away k)
      obtain ⟨⟨ty, pl, fa, un, ku, ik, h98⟩, h99⟩ := id Hk
      refine X.iload iX7_goesBy_2 rfl ?_
      refine X.aload iX7_goesBy_3 rfl ?_
      refine X.getf iX7_goesBy_4 (by repeat (first | assumption | exact xup_eq _ _ _ | rw [xup_ne _ _ (by first | decide | omega | assumption)])) rfl ?_
      refine X.pushi (v := nI 1) iX7_goesBy_7 ?_
      refine X.ialdN iX7_goesBy_8 (by repeat (first | assumption | exact xup_eq _ _ _ | rw [xup_ne _ _ (by first | decide | omega | assumption)])) (by omega) (by decide) ?_
      refine X.cmge iX7_goesBy_9 (fun c9 => ?_) (fun c9 => ?_)
      · exact absurd (by rw [← wk.2.1]; exact c9) (nI_ge hk (by omega))
      · refine gb_ladder Hk wk hk ?_
        rw [xup_xup]
        refine X.iinc iX7_goesBy_106 rfl rfl rfl ?_
        refine X.goto iX7_goesBy_109 ?_
        rw [nI_1]
        exact ih
  have p0 := P1 0 (Nat.zero_le _)
  rw [show gb1 nw away 0 = nw from rfl, xup_self _ H.2] at p0
  refine MetX.of (by decide) rfl (Nat.le_of_ble_eq_true rfl) ?_
  refine X.pushi (v := nI 0) iX7_goesBy_0 ?_
  refine X.istore iX7_goesBy_1 rfl rfl ?_
  exact p0
/-- n days -/
def gbN (nw : Nat → Int32) (nT nL : Nat) : Nat → (Nat → Int32)
  | 0 => nw
  | k + 1 => gb (gbN nw nT nL k) nT nL (nI 0)
theorem gbN_wf {nw : Nat → Int32} {nT nL : Nat} (h : WF nw nT nL) : ∀ k, WF (gbN nw nT nL k) nT nL
  | 0 => h
  | k + 1 => gb_wf (gbN_wf h k) _
theorem c_X7_goesOn {d : Nat} {h : XH} {nw : Nat → Int32} {nT nL n : Nat} (H : MO h nw) (wf : WF nw nT nL) (hn : n < 2 ^ 31) : MetV mX7_goesOn (d + 3, 0, 0) [.ref 98, .int (nI n)] h (xup h 99 (IA 43 (gbN nw nT nL n))) := by
  have P : ∀ k, k ≤ n → X xT mX7_goesOn (xR (d + 3, 0, 0)) (0, 0) 2 [some (.ref 98), some (.int (nI n)), some (.int (nI k))] [] (xup h 99 (IA 43 (gbN nw nT nL k))) (fun v h' => v = none ∧ h' = xup h 99 (IA 43 (gbN nw nT nL n))) := by
    refine xloop n ?_ ?_
    · refine X.iload iX7_goesOn_2 rfl ?_
      refine X.iload iX7_goesOn_3 rfl ?_
      refine X.cmge iX7_goesOn_4 (fun c4 => ?_) (fun c4 => ?_)
      · exact X.vret iX7_goesOn_18 ⟨rfl, rfl⟩
      · exact absurd (nI_le (Nat.le_refl _) hn) c4
    · intro k hk ih
      have Hk := H.up (gbN nw nT nL k)
      obtain ⟨ty, pl, fa, un, ku, ik, h98⟩ := Hk.1
      refine X.iload iX7_goesOn_2 rfl ?_
      refine X.iload iX7_goesOn_3 rfl ?_
      refine X.cmge iX7_goesOn_4 (fun c4 => ?_) (fun c4 => ?_)
      · exact absurd c4 (nI_ge hk hn)
      · refine X.aload iX7_goesOn_7 rfl ?_
        refine X.pushi (v := nI 0) iX7_goesOn_8 ?_
        refine X.callVv iX7_goesOn_9 (c_X7_goesBy (d := d) Hk (gbN_wf wf k)) (by repeat (first | assumption | exact xup_eq _ _ _ | rw [xup_ne _ _ (by first | decide | omega | assumption)])) rfl rfl (xfit _ _ _) (Nat.le_of_ble_eq_true rfl) ?_
        rw [xup_xup]
        refine X.iinc iX7_goesOn_12 rfl rfl rfl ?_
        refine X.goto iX7_goesOn_15 ?_
        rw [nI_1]
        exact ih
  have p0 := P 0 (Nat.zero_le _)
  rw [show gbN nw nT nL 0 = nw from rfl, xup_self _ H.2] at p0
  refine MetX.of (by decide) rfl (Nat.le_of_ble_eq_true rfl) ?_
  refine X.pushi (v := nI 0) iX7_goesOn_0 ?_
  refine X.istore iX7_goesOn_1 rfl rfl ?_
  exact p0
def sumF (nw : Nat → Int32) : Nat → Int32
  | 0 => nI 0
  | k + 1 => sumF nw k + nw (9 + 3 * k + 1)
theorem c_X7_allFruit {d : Nat} {h : XH} {nw : Nat → Int32} {nT : Nat} (H : MO h nw) (h0 : nw 0 = nI nT) (hT : nT ≤ 6) : MetI mX7_allFruit (d + 1, 0, 0) [.ref 98] h (sumF nw nT) := by
  obtain ⟨⟨ty, pl, fa, un, ku, ik, h98⟩, h99⟩ := id H
  have P : ∀ k, k ≤ nT → X xT mX7_allFruit (xR (d + 1, 0, 0)) (0, 0) 4 [some (.ref 98), some (.int (sumF nw k)), some (.int (nI k))] [] h (fun v h' => v = some (.int (sumF nw nT)) ∧ h' = h) := by
    refine xloop nT ?_ ?_
    · refine X.iload iX7_allFruit_4 rfl ?_
      refine X.aload iX7_allFruit_5 rfl ?_
      refine X.getf iX7_allFruit_6 (by repeat (first | assumption | exact xup_eq _ _ _ | rw [xup_ne _ _ (by first | decide | omega | assumption)])) rfl ?_
      refine X.pushi (v := nI 0) iX7_allFruit_9 ?_
      refine X.ialdN iX7_allFruit_10 (by repeat (first | assumption | exact xup_eq _ _ _ | rw [xup_ne _ _ (by first | decide | omega | assumption)])) (by omega) (by decide) ?_
      refine X.cmge iX7_allFruit_11 (fun c11 => ?_) (fun c11 => ?_)
      · refine X.iload iX7_allFruit_29 rfl ?_
        exact X.iret iX7_allFruit_30 ⟨rfl, rfl⟩
      · exact absurd (by rw [h0]; exact nI_le (Nat.le_refl _) (by omega)) c11
    · intro k hk ih
      refine X.iload iX7_allFruit_4 rfl ?_
      refine X.aload iX7_allFruit_5 rfl ?_
      refine X.getf iX7_allFruit_6 (by repeat (first | assumption | exact xup_eq _ _ _ | rw [xup_ne _ _ (by first | decide | omega | assumption)])) rfl ?_
      refine X.pushi (v := nI 0) iX7_allFruit_9 ?_
      refine X.ialdN iX7_allFruit_10 (by repeat (first | assumption | exact xup_eq _ _ _ | rw [xup_ne _ _ (by first | decide | omega | assumption)])) (by omega) (by decide) ?_
      refine X.cmge iX7_allFruit_11 (fun c11 => ?_) (fun c11 => ?_)
      · exact absurd (by rw [← h0]; exact c11) (nI_ge hk (by omega))
      · refine X.iload iX7_allFruit_14 rfl ?_
        refine X.aload iX7_allFruit_15 rfl ?_
        refine X.iload iX7_allFruit_16 rfl ?_
        refine X.pushi (v := nI 1) iX7_allFruit_17 ?_
        refine X.callVi iX7_allFruit_18 (c_X7_ofTree (d := d) (w := 1) H (by omega)) (by repeat (first | assumption | exact xup_eq _ _ _ | rw [xup_ne _ _ (by first | decide | omega | assumption)])) rfl rfl (xfit _ _ _) (Nat.le_of_ble_eq_true rfl) ?_
        refine X.iadd iX7_allFruit_21 ?_
        refine X.istore iX7_allFruit_22 rfl rfl ?_
        refine X.iinc iX7_allFruit_23 rfl rfl rfl ?_
        refine X.goto iX7_allFruit_26 ?_
        rw [nI_1]
        exact ih
  refine MetX.of (by decide) rfl (Nat.le_of_ble_eq_true rfl) ?_
  refine X.pushi (v := nI 0) iX7_allFruit_0 ?_
  refine X.istore iX7_allFruit_1 rfl rfl ?_
  refine X.pushi (v := nI 0) iX7_allFruit_2 ?_
  refine X.istore iX7_allFruit_3 rfl rfl ?_
  exact P 0 (Nat.zero_le _)
