/-! the class: an Orchard's and a Moment's methods that write -/
abbrev Mo : Type := (Nat → Int32) × (Nat → Int32) × Int32 × Int32 × Int32 × Int32 × Int32
abbrev Mo.mk (fr : Nat → Int32) (ln : Nat → Int32) (got : Int32) (paid : Int32) (lost : Int32) (day : Int32) (draw : Int32) : Mo := (fr, ln, got, paid, lost, day, draw)
abbrev Mo.fr (Z : Mo) : Nat → Int32 := Z.1
abbrev Mo.ln (Z : Mo) : Nat → Int32 := Z.2.1
abbrev Mo.got (Z : Mo) : Int32 := Z.2.2.1
abbrev Mo.paid (Z : Mo) : Int32 := Z.2.2.2.1
abbrev Mo.lost (Z : Mo) : Int32 := Z.2.2.2.2.1
abbrev Mo.day (Z : Mo) : Int32 := Z.2.2.2.2.2.1
abbrev Mo.draw (Z : Mo) : Int32 := Z.2.2.2.2.2.2
abbrev Oc : Type := Nat × Nat × Int32 × Int32 × (Nat → Int32) × (Nat → Int32) × (Nat → Int32) × (Nat → Int32) × (Nat → Int32)
abbrev Oc.mk (nT : Nat) (nL : Nat) (ba : Int32) (wa : Int32) (hi : Nat → Int32) (ri : Nat → Int32) (ki : Nat → Int32) (le : Nat → Int32) (pr : Nat → Int32) : Oc := (nT, nL, ba, wa, hi, ri, ki, le, pr)
abbrev Oc.nT (Z : Oc) : Nat := Z.1
abbrev Oc.nL (Z : Oc) : Nat := Z.2.1
abbrev Oc.ba (Z : Oc) : Int32 := Z.2.2.1
abbrev Oc.wa (Z : Oc) : Int32 := Z.2.2.2.1
abbrev Oc.hi (Z : Oc) : Nat → Int32 := Z.2.2.2.2.1
abbrev Oc.ri (Z : Oc) : Nat → Int32 := Z.2.2.2.2.2.1
abbrev Oc.ki (Z : Oc) : Nat → Int32 := Z.2.2.2.2.2.2.1
abbrev Oc.le (Z : Oc) : Nat → Int32 := Z.2.2.2.2.2.2.2.1
abbrev Oc.pr (Z : Oc) : Nat → Int32 := Z.2.2.2.2.2.2.2.2
abbrev IsM (h : XH) (m : Nat) (M : Mo) : Prop := MM h m M.fr M.ln M.got M.paid M.lost M.day M.draw
abbrev IsO (h : XH) (o : Nat) (O : Oc) : Prop := OR h o (nI O.nT) (nI O.nL) O.ba O.wa O.hi O.ri O.ki O.le O.pr
abbrev moS (m : Nat) (M : Mo) : List Value := mofs m M.got M.paid M.lost M.day M.draw
def setM (h : XH) (m : Nat) (M : Mo) : XH := fun i => if i = m then some (.inr (2, moS m M)) else if i = m + 1 then some (IA 6 M.fr) else if i = m + 2 then some (IA 4 M.ln) else h i
theorem sM0 (h : XH) (m : Nat) (M : Mo) : setM h m M m = some (.inr (2, moS m M)) := if_pos rfl
theorem sM1 (h : XH) (m : Nat) (M : Mo) : setM h m M (m + 1) = some (IA 6 M.fr) := by rw [setM, if_neg (by omega), if_pos rfl]
theorem sM2 (h : XH) (m : Nat) (M : Mo) : setM h m M (m + 2) = some (IA 4 M.ln) := by rw [setM, if_neg (by omega), if_neg (by omega), if_pos rfl]
theorem sMo (h : XH) {m i : Nat} (M : Mo) (hi : i < m ∨ m + 2 < i) : setM h m M i = h i := by rw [setM, if_neg (by omega), if_neg (by omega), if_neg (by omega)]
theorem sM_is (h : XH) (m : Nat) (M : Mo) : IsM (setM h m M) m M := ⟨sM0 h m M, sM1 h m M, sM2 h m M⟩
theorem IsM.set {h : XH} {m : Nat} {M : Mo} (H : IsM h m M) : setM h m M = h := by
  obtain ⟨h0, h1, h2⟩ := H
  funext i
  by_cases q0 : i = m
  · rw [q0, sM0, h0]
  · by_cases q1 : i = m + 1
    · rw [q1, sM1, h1]
    · by_cases q2 : i = m + 2
      · rw [q2, sM2, h2]
      · exact sMo h M (by omega)
theorem sM_eq {h p : XH} {m : Nat} {M : Mo} (h0 : p m = some (.inr (2, moS m M))) (h1 : p (m + 1) = some (IA 6 M.fr)) (h2 : p (m + 2) = some (IA 4 M.ln)) (h3 : ∀ i, i < m ∨ m + 2 < i → p i = h i) : p = setM h m M := by
  funext i
  by_cases q0 : i = m
  · rw [q0, sM0, h0]
  · by_cases q1 : i = m + 1
    · rw [q1, sM1, h1]
    · by_cases q2 : i = m + 2
      · rw [q2, sM2, h2]
      · rw [sMo h M (by omega)]
        exact h3 i (by omega)
theorem sM_fr (h : XH) (m : Nat) (M : Mo) (f : Nat → Int32) : xup (setM h m M) (m + 1) (IA 6 f) = setM h m (Mo.mk f M.ln M.got M.paid M.lost M.day M.draw) := sM_eq (by rw [xup_ne _ _ (by omega)]; exact sM0 h m M) (xup_eq _ _ _) (by rw [xup_ne _ _ (by omega)]; exact sM2 h m M) (fun i q => by rw [xup_ne _ _ (by omega)]; exact sMo h M q)
theorem sM_ln (h : XH) (m : Nat) (M : Mo) (f : Nat → Int32) : xup (setM h m M) (m + 2) (IA 4 f) = setM h m (Mo.mk M.fr f M.got M.paid M.lost M.day M.draw) := sM_eq (by rw [xup_ne _ _ (by omega)]; exact sM0 h m M) (by rw [xup_ne _ _ (by omega)]; exact sM1 h m M) (xup_eq _ _ _) (fun i q => by rw [xup_ne _ _ (by omega)]; exact sMo h M q)
theorem sM_ob (h : XH) (m : Nat) (M M' : Mo) (h1 : M'.fr = M.fr) (h2 : M'.ln = M.ln) : xup (setM h m M) m (.inr (2, moS m M')) = setM h m M' := sM_eq (xup_eq _ _ _) (by rw [xup_ne _ _ (by omega), h1]; exact sM1 h m M) (by rw [xup_ne _ _ (by omega), h2]; exact sM2 h m M) (fun i q => by rw [xup_ne _ _ (by omega)]; exact sMo h M q)
theorem sM_got (h : XH) (m : Nat) (M : Mo) (x : Int32) : xup (setM h m M) m (.inr (2, (moS m M).set 2 (.int x))) = setM h m (Mo.mk M.fr M.ln x M.paid M.lost M.day M.draw) := sM_ob h m M (Mo.mk M.fr M.ln x M.paid M.lost M.day M.draw) rfl rfl
theorem sM_paid (h : XH) (m : Nat) (M : Mo) (x : Int32) : xup (setM h m M) m (.inr (2, (moS m M).set 3 (.int x))) = setM h m (Mo.mk M.fr M.ln M.got x M.lost M.day M.draw) := sM_ob h m M (Mo.mk M.fr M.ln M.got x M.lost M.day M.draw) rfl rfl
theorem sM_lost (h : XH) (m : Nat) (M : Mo) (x : Int32) : xup (setM h m M) m (.inr (2, (moS m M).set 4 (.int x))) = setM h m (Mo.mk M.fr M.ln M.got M.paid x M.day M.draw) := sM_ob h m M (Mo.mk M.fr M.ln M.got M.paid x M.day M.draw) rfl rfl
theorem sM_day (h : XH) (m : Nat) (M : Mo) (x : Int32) : xup (setM h m M) m (.inr (2, (moS m M).set 5 (.int x))) = setM h m (Mo.mk M.fr M.ln M.got M.paid M.lost x M.draw) := sM_ob h m M (Mo.mk M.fr M.ln M.got M.paid M.lost x M.draw) rfl rfl
theorem sM_draw (h : XH) (m : Nat) (M : Mo) (x : Int32) : xup (setM h m M) m (.inr (2, (moS m M).set 6 (.int x))) = setM h m (Mo.mk M.fr M.ln M.got M.paid M.lost M.day x) := sM_ob h m M (Mo.mk M.fr M.ln M.got M.paid M.lost M.day x) rfl rfl
theorem sM_sM (h : XH) (m : Nat) (M M' : Mo) : setM (setM h m M) m M' = setM h m M' := sM_eq (sM0 _ _ _) (sM1 _ _ _) (sM2 _ _ _) (fun i q => by rw [sMo _ _ q, sMo _ _ q])
theorem IsO.off {h : XH} {o m : Nat} {O : Oc} (H : IsO h o O) (M : Mo) (q : m + 2 < o ∨ o + 5 < m) : IsO (setM h m M) o O := by
  obtain ⟨h0, h1, h2, h3, h4, h5⟩ := H
  exact ⟨by rw [sMo _ _ (by omega)]; exact h0, by rw [sMo _ _ (by omega)]; exact h1, by rw [sMo _ _ (by omega)]; exact h2, by rw [sMo _ _ (by omega)]; exact h3, by rw [sMo _ _ (by omega)]; exact h4, by rw [sMo _ _ (by omega)]; exact h5⟩
/-- a day of the class -/
def payM (O : Oc) (M : Mo) : Nat → Mo
  | 0 => M
  | k + 1 => if M.ln k = -4 then payM O M k else (Mo.mk (payM O M k).fr (payM O M k).ln (payM O M k).got ((payM O M k).paid + O.pr k) (payM O M k).lost (payM O M k).day (payM O M k).draw)
theorem payM_ln (O : Oc) (M : Mo) : ∀ k, (payM O M k).ln = M.ln
  | 0 => rfl
  | k + 1 => by
    unfold payM
    split
    · exact payM_ln O M k
    · exact payM_ln O M k
def atM (M : Mo) (t : Nat) : Int32 := bits (fun l => decide (M.ln l = nI t)) 4
def tkM (O : Oc) (M : Mo) (t : Nat) : Int32 := tkI O.hi O.ri O.ki O.le t O.nL M.day (atM M t) (M.fr t) O.ba
def stM (O : Oc) (M : Mo) (t : Nat) : Int32 := stI O.ri t M.day (M.fr t - tkM O M t) O.wa
def trM (O : Oc) (M : Mo) (t : Nat) : Mo := (Mo.mk (upd M.fr t (M.fr t - (tkM O M t + stM O M t))) M.ln (M.got + tkM O M t) M.paid (M.lost + stM O M t) M.day M.draw)
def trsM (O : Oc) (M : Mo) : Nat → Mo
  | 0 => M
  | k + 1 => trM O (trsM O M k) k
def passM (O : Oc) (M : Mo) : Mo := (Mo.mk (trsM O (payM O M O.nL) O.nT).fr (trsM O (payM O M O.nL) O.nT).ln (trsM O (payM O M O.nL) O.nT).got (trsM O (payM O M O.nL) O.nT).paid (trsM O (payM O M O.nL) O.nT).lost ((trsM O (payM O M O.nL) O.nT).day + nI 1) (trsM O (payM O M O.nL) O.nT).draw)
theorem c_X3_pass {d o m : Nat} {h : XH} {O : Oc} {M : Mo} (H : IsO h o O) (q : m + 2 < o ∨ o + 5 < m) (hk : KI O.ki O.nL) (hL : O.nL ≤ 4) (hT : O.nT ≤ 6) : MetV mX3_pass (d + 4, 0, 0) [.ref o, .ref m] (setM h m M) (setM h m (passM O M)) := by
  obtain ⟨h0, h1, h2, h3, h4, h5⟩ := id H
  have P2 : ∀ k, k ≤ O.nT → X xT mX3_pass (xR (d + 4, 0, 0)) (0, 0) 44 [some (.ref o), some (.ref m), some (.int (nI k)), none, none] [] (setM h m (trsM O (payM O M O.nL) k)) (fun v h' => v = none ∧ h' = setM h m (passM O M)) := by
    refine xloop O.nT ?_ ?_
    · refine X.iload iX3_pass_44 rfl ?_
      refine X.aload iX3_pass_45 rfl ?_
      refine X.getf iX3_pass_46 (by first | assumption | exact sM0 _ _ _ | exact sM1 _ _ _ | exact sM2 _ _ _ | rfl | repeat (first | assumption | exact xup_eq _ _ _ | exact sM0 _ _ _ | exact sM1 _ _ _ | exact sM2 _ _ _ | rw [xup_ne _ _ (by first | decide | omega | assumption)] | rw [sMo _ _ (by omega)])) rfl ?_
      refine X.cmge iX3_pass_49 (fun c49 => ?_) (fun c49 => ?_)
      · refine X.aload iX3_pass_136 rfl ?_
        refine X.dupa iX3_pass_137 ?_
        refine X.getf iX3_pass_138 (by first | assumption | exact sM0 _ _ _ | exact sM1 _ _ _ | exact sM2 _ _ _ | rfl | repeat (first | assumption | exact xup_eq _ _ _ | exact sM0 _ _ _ | exact sM1 _ _ _ | exact sM2 _ _ _ | rw [xup_ne _ _ (by first | decide | omega | assumption)] | rw [sMo _ _ (by omega)])) rfl ?_
        refine X.pushi (v := nI 1) iX3_pass_141 ?_
        refine X.iadd iX3_pass_142 ?_
        refine X.puti iX3_pass_143 (by first | assumption | exact sM0 _ _ _ | exact sM1 _ _ _ | exact sM2 _ _ _ | rfl | repeat (first | assumption | exact xup_eq _ _ _ | exact sM0 _ _ _ | exact sM1 _ _ _ | exact sM2 _ _ _ | rw [xup_ne _ _ (by first | decide | omega | assumption)] | rw [sMo _ _ (by omega)])) (Nat.le_of_ble_eq_true rfl) ?_
        rw [sM_day]
        exact X.vret iX3_pass_146 ⟨rfl, rfl⟩
      · exact absurd (Int32.le_refl _) c49
    · intro k hk' ih
      rw [trsM] at ih
      generalize trsM O (payM O M O.nL) k = N at ih ⊢
      have HO := H.off N q
      refine X.iload iX3_pass_44 rfl ?_
      refine X.aload iX3_pass_45 rfl ?_
      refine X.getf iX3_pass_46 (by first | assumption | exact sM0 _ _ _ | exact sM1 _ _ _ | exact sM2 _ _ _ | rfl | repeat (first | assumption | exact xup_eq _ _ _ | exact sM0 _ _ _ | exact sM1 _ _ _ | exact sM2 _ _ _ | rw [xup_ne _ _ (by first | decide | omega | assumption)] | rw [sMo _ _ (by omega)])) rfl ?_
      refine X.cmge iX3_pass_49 (fun c49 => ?_) (fun c49 => ?_)
      · exact absurd c49 (nI_ge hk' (by omega))
      · refine X.aload iX3_pass_52 rfl ?_
        refine X.iload iX3_pass_53 rfl ?_
        refine X.aload iX3_pass_54 rfl ?_
        refine X.getf iX3_pass_55 (by first | assumption | exact sM0 _ _ _ | exact sM1 _ _ _ | exact sM2 _ _ _ | rfl | repeat (first | assumption | exact xup_eq _ _ _ | exact sM0 _ _ _ | exact sM1 _ _ _ | exact sM2 _ _ _ | rw [xup_ne _ _ (by first | decide | omega | assumption)] | rw [sMo _ _ (by omega)])) rfl ?_
        refine X.aload iX3_pass_58 rfl ?_
        refine X.iload iX3_pass_59 rfl ?_
        refine X.callVi iX3_pass_60 (c_X2_leaningAt (d := d + 3) (sM_is h m N)) (by first | assumption | exact sM0 _ _ _ | exact sM1 _ _ _ | exact sM2 _ _ _ | rfl | repeat (first | assumption | exact xup_eq _ _ _ | exact sM0 _ _ _ | exact sM1 _ _ _ | exact sM2 _ _ _ | rw [xup_ne _ _ (by first | decide | omega | assumption)] | rw [sMo _ _ (by omega)])) rfl rfl (xfit _ _ _) (Nat.le_of_ble_eq_true rfl) ?_
        refine X.aload iX3_pass_63 rfl ?_
        refine X.getf iX3_pass_64 (by first | assumption | exact sM0 _ _ _ | exact sM1 _ _ _ | exact sM2 _ _ _ | rfl | repeat (first | assumption | exact xup_eq _ _ _ | exact sM0 _ _ _ | exact sM1 _ _ _ | exact sM2 _ _ _ | rw [xup_ne _ _ (by first | decide | omega | assumption)] | rw [sMo _ _ (by omega)])) rfl ?_
        refine X.iload iX3_pass_67 rfl ?_
        refine X.ialdE iX3_pass_68 (by first | assumption | exact sM0 _ _ _ | exact sM1 _ _ _ | exact sM2 _ _ _ | rfl | repeat (first | assumption | exact xup_eq _ _ _ | exact sM0 _ _ _ | exact sM1 _ _ _ | exact sM2 _ _ _ | rw [xup_ne _ _ (by first | decide | omega | assumption)] | rw [sMo _ _ (by omega)])) rfl (by omega) (by decide) ?_
        refine X.aload iX3_pass_69 rfl ?_
        refine X.getf iX3_pass_70 (by first | assumption | exact sM0 _ _ _ | exact sM1 _ _ _ | exact sM2 _ _ _ | rfl | repeat (first | assumption | exact xup_eq _ _ _ | exact sM0 _ _ _ | exact sM1 _ _ _ | exact sM2 _ _ _ | rw [xup_ne _ _ (by first | decide | omega | assumption)] | rw [sMo _ _ (by omega)])) rfl ?_
        refine X.callVi iX3_pass_73 (c_X3_taken (d := d) HO hk hL (by omega)) (by first | assumption | exact sM0 _ _ _ | exact sM1 _ _ _ | exact sM2 _ _ _ | rfl | repeat (first | assumption | exact xup_eq _ _ _ | exact sM0 _ _ _ | exact sM1 _ _ _ | exact sM2 _ _ _ | rw [xup_ne _ _ (by first | decide | omega | assumption)] | rw [sMo _ _ (by omega)])) rfl rfl (xfit _ _ _) (Nat.le_of_ble_eq_true rfl) ?_
        refine X.istore iX3_pass_76 rfl rfl ?_
        refine X.aload iX3_pass_77 rfl ?_
        refine X.iload iX3_pass_78 rfl ?_
        refine X.aload iX3_pass_79 rfl ?_
        refine X.getf iX3_pass_80 (by first | assumption | exact sM0 _ _ _ | exact sM1 _ _ _ | exact sM2 _ _ _ | rfl | repeat (first | assumption | exact xup_eq _ _ _ | exact sM0 _ _ _ | exact sM1 _ _ _ | exact sM2 _ _ _ | rw [xup_ne _ _ (by first | decide | omega | assumption)] | rw [sMo _ _ (by omega)])) rfl ?_
        refine X.aload iX3_pass_83 rfl ?_
        refine X.getf iX3_pass_84 (by first | assumption | exact sM0 _ _ _ | exact sM1 _ _ _ | exact sM2 _ _ _ | rfl | repeat (first | assumption | exact xup_eq _ _ _ | exact sM0 _ _ _ | exact sM1 _ _ _ | exact sM2 _ _ _ | rw [xup_ne _ _ (by first | decide | omega | assumption)] | rw [sMo _ _ (by omega)])) rfl ?_
        refine X.iload iX3_pass_87 rfl ?_
        refine X.ialdE iX3_pass_88 (by first | assumption | exact sM0 _ _ _ | exact sM1 _ _ _ | exact sM2 _ _ _ | rfl | repeat (first | assumption | exact xup_eq _ _ _ | exact sM0 _ _ _ | exact sM1 _ _ _ | exact sM2 _ _ _ | rw [xup_ne _ _ (by first | decide | omega | assumption)] | rw [sMo _ _ (by omega)])) rfl (by omega) (by decide) ?_
        refine X.iload iX3_pass_89 rfl ?_
        refine X.isub iX3_pass_90 ?_
        refine X.callVi iX3_pass_91 (c_X3_stung (d := d + 2) HO (by omega)) (by first | assumption | exact sM0 _ _ _ | exact sM1 _ _ _ | exact sM2 _ _ _ | rfl | repeat (first | assumption | exact xup_eq _ _ _ | exact sM0 _ _ _ | exact sM1 _ _ _ | exact sM2 _ _ _ | rw [xup_ne _ _ (by first | decide | omega | assumption)] | rw [sMo _ _ (by omega)])) rfl rfl (xfit _ _ _) (Nat.le_of_ble_eq_true rfl) ?_
        refine X.istore iX3_pass_94 rfl rfl ?_
        refine X.aload iX3_pass_96 rfl ?_
        refine X.dupa iX3_pass_97 ?_
        refine X.getf iX3_pass_98 (by first | assumption | exact sM0 _ _ _ | exact sM1 _ _ _ | exact sM2 _ _ _ | rfl | repeat (first | assumption | exact xup_eq _ _ _ | exact sM0 _ _ _ | exact sM1 _ _ _ | exact sM2 _ _ _ | rw [xup_ne _ _ (by first | decide | omega | assumption)] | rw [sMo _ _ (by omega)])) rfl ?_
        refine X.iload iX3_pass_101 rfl ?_
        refine X.iadd iX3_pass_102 ?_
        refine X.puti iX3_pass_103 (by first | assumption | exact sM0 _ _ _ | exact sM1 _ _ _ | exact sM2 _ _ _ | rfl | repeat (first | assumption | exact xup_eq _ _ _ | exact sM0 _ _ _ | exact sM1 _ _ _ | exact sM2 _ _ _ | rw [xup_ne _ _ (by first | decide | omega | assumption)] | rw [sMo _ _ (by omega)])) (Nat.le_of_ble_eq_true rfl) ?_
        rw [sM_got]
        refine X.aload iX3_pass_106 rfl ?_
        refine X.dupa iX3_pass_107 ?_
        refine X.getf iX3_pass_108 (by first | assumption | exact sM0 _ _ _ | exact sM1 _ _ _ | exact sM2 _ _ _ | rfl | repeat (first | assumption | exact xup_eq _ _ _ | exact sM0 _ _ _ | exact sM1 _ _ _ | exact sM2 _ _ _ | rw [xup_ne _ _ (by first | decide | omega | assumption)] | rw [sMo _ _ (by omega)])) rfl ?_
        refine X.iload iX3_pass_111 rfl ?_
        refine X.iadd iX3_pass_113 ?_
        refine X.puti iX3_pass_114 (by first | assumption | exact sM0 _ _ _ | exact sM1 _ _ _ | exact sM2 _ _ _ | rfl | repeat (first | assumption | exact xup_eq _ _ _ | exact sM0 _ _ _ | exact sM1 _ _ _ | exact sM2 _ _ _ | rw [xup_ne _ _ (by first | decide | omega | assumption)] | rw [sMo _ _ (by omega)])) (Nat.le_of_ble_eq_true rfl) ?_
        rw [sM_lost]
        refine X.aload iX3_pass_117 rfl ?_
        refine X.getf iX3_pass_118 (by first | assumption | exact sM0 _ _ _ | exact sM1 _ _ _ | exact sM2 _ _ _ | rfl | repeat (first | assumption | exact xup_eq _ _ _ | exact sM0 _ _ _ | exact sM1 _ _ _ | exact sM2 _ _ _ | rw [xup_ne _ _ (by first | decide | omega | assumption)] | rw [sMo _ _ (by omega)])) rfl ?_
        refine X.iload iX3_pass_121 rfl ?_
        refine X.dup2 iX3_pass_122 ?_
        refine X.ialdE iX3_pass_123 (by first | assumption | exact sM0 _ _ _ | exact sM1 _ _ _ | exact sM2 _ _ _ | rfl | repeat (first | assumption | exact xup_eq _ _ _ | exact sM0 _ _ _ | exact sM1 _ _ _ | exact sM2 _ _ _ | rw [xup_ne _ _ (by first | decide | omega | assumption)] | rw [sMo _ _ (by omega)])) rfl (by omega) (by decide) ?_
        refine X.iload iX3_pass_124 rfl ?_
        refine X.iload iX3_pass_125 rfl ?_
        refine X.iadd iX3_pass_127 ?_
        refine X.isub iX3_pass_128 ?_
        refine X.iastE iX3_pass_129 (by first | assumption | exact sM0 _ _ _ | exact sM1 _ _ _ | exact sM2 _ _ _ | rfl | repeat (first | assumption | exact xup_eq _ _ _ | exact sM0 _ _ _ | exact sM1 _ _ _ | exact sM2 _ _ _ | rw [xup_ne _ _ (by first | decide | omega | assumption)] | rw [sMo _ _ (by omega)])) rfl (by omega) (by decide) ?_
        refine X.iinc iX3_pass_130 rfl rfl rfl ?_
        refine X.goto iX3_pass_133 ?_
        rw [nI_1, sM_fr]
        exact X.unset 3 rfl (X.unset 4 rfl ih)
  have P1 : ∀ k, k ≤ O.nL → X xT mX3_pass (xR (d + 4, 0, 0)) (0, 0) 2 [some (.ref o), some (.ref m), some (.int (nI k)), none, none] [] (setM h m (payM O M k)) (fun v h' => v = none ∧ h' = setM h m (passM O M)) := by
    refine xloop O.nL ?_ ?_
    · refine X.iload iX3_pass_2 rfl ?_
      refine X.aload iX3_pass_3 rfl ?_
      refine X.getf iX3_pass_4 (by first | assumption | exact sM0 _ _ _ | exact sM1 _ _ _ | exact sM2 _ _ _ | rfl | repeat (first | assumption | exact xup_eq _ _ _ | exact sM0 _ _ _ | exact sM1 _ _ _ | exact sM2 _ _ _ | rw [xup_ne _ _ (by first | decide | omega | assumption)] | rw [sMo _ _ (by omega)])) rfl ?_
      refine X.cmge iX3_pass_7 (fun c7 => ?_) (fun c7 => ?_)
      · refine X.pushi (v := nI 0) iX3_pass_42 ?_
        refine X.istore iX3_pass_43 rfl rfl ?_
        exact P2 0 (Nat.zero_le _)
      · exact absurd (Int32.le_refl _) c7
    · intro k hk' ih
      rw [payM] at ih
      have el := payM_ln O M k
      generalize payM O M k = N at ih el ⊢
      have HO := H.off N q
      rw [← el] at ih
      refine X.iload iX3_pass_2 rfl ?_
      refine X.aload iX3_pass_3 rfl ?_
      refine X.getf iX3_pass_4 (by first | assumption | exact sM0 _ _ _ | exact sM1 _ _ _ | exact sM2 _ _ _ | rfl | repeat (first | assumption | exact xup_eq _ _ _ | exact sM0 _ _ _ | exact sM1 _ _ _ | exact sM2 _ _ _ | rw [xup_ne _ _ (by first | decide | omega | assumption)] | rw [sMo _ _ (by omega)])) rfl ?_
      refine X.cmge iX3_pass_7 (fun c7 => ?_) (fun c7 => ?_)
      · exact absurd c7 (nI_ge hk' (by omega))
      · refine X.aload iX3_pass_10 rfl ?_
        refine X.getf iX3_pass_11 (by first | assumption | exact sM0 _ _ _ | exact sM1 _ _ _ | exact sM2 _ _ _ | rfl | repeat (first | assumption | exact xup_eq _ _ _ | exact sM0 _ _ _ | exact sM1 _ _ _ | exact sM2 _ _ _ | rw [xup_ne _ _ (by first | decide | omega | assumption)] | rw [sMo _ _ (by omega)])) rfl ?_
        refine X.iload iX3_pass_14 rfl ?_
        refine X.ialdE iX3_pass_15 (by first | assumption | exact sM0 _ _ _ | exact sM1 _ _ _ | exact sM2 _ _ _ | rfl | repeat (first | assumption | exact xup_eq _ _ _ | exact sM0 _ _ _ | exact sM1 _ _ _ | exact sM2 _ _ _ | rw [xup_ne _ _ (by first | decide | omega | assumption)] | rw [sMo _ _ (by omega)])) rfl (by omega) (by decide) ?_
        refine X.pushi iX3_pass_16 ?_
        refine X.cmeq iX3_pass_18 (fun c18 => ?_) (fun c18 => ?_)
        · refine X.iinc iX3_pass_36 rfl rfl rfl ?_
          refine X.goto iX3_pass_39 ?_
          rw [nI_1]
          first
          | (rw [if_pos c18] at ih; exact ih)
          | (rw [if_neg c18] at ih; rw [sM_paid]; exact ih)
        · refine X.aload iX3_pass_21 rfl ?_
          refine X.dupa iX3_pass_22 ?_
          refine X.getf iX3_pass_23 (by first | assumption | exact sM0 _ _ _ | exact sM1 _ _ _ | exact sM2 _ _ _ | rfl | repeat (first | assumption | exact xup_eq _ _ _ | exact sM0 _ _ _ | exact sM1 _ _ _ | exact sM2 _ _ _ | rw [xup_ne _ _ (by first | decide | omega | assumption)] | rw [sMo _ _ (by omega)])) rfl ?_
          refine X.aload iX3_pass_26 rfl ?_
          refine X.getf iX3_pass_27 (by first | assumption | exact sM0 _ _ _ | exact sM1 _ _ _ | exact sM2 _ _ _ | rfl | repeat (first | assumption | exact xup_eq _ _ _ | exact sM0 _ _ _ | exact sM1 _ _ _ | exact sM2 _ _ _ | rw [xup_ne _ _ (by first | decide | omega | assumption)] | rw [sMo _ _ (by omega)])) rfl ?_
          refine X.iload iX3_pass_30 rfl ?_
          refine X.ialdE iX3_pass_31 (by first | assumption | exact sM0 _ _ _ | exact sM1 _ _ _ | exact sM2 _ _ _ | rfl | repeat (first | assumption | exact xup_eq _ _ _ | exact sM0 _ _ _ | exact sM1 _ _ _ | exact sM2 _ _ _ | rw [xup_ne _ _ (by first | decide | omega | assumption)] | rw [sMo _ _ (by omega)])) rfl (by omega) (by decide) ?_
          refine X.iadd iX3_pass_32 ?_
          refine X.puti iX3_pass_33 (by first | assumption | exact sM0 _ _ _ | exact sM1 _ _ _ | exact sM2 _ _ _ | rfl | repeat (first | assumption | exact xup_eq _ _ _ | exact sM0 _ _ _ | exact sM1 _ _ _ | exact sM2 _ _ _ | rw [xup_ne _ _ (by first | decide | omega | assumption)] | rw [sMo _ _ (by omega)])) (Nat.le_of_ble_eq_true rfl) ?_
          refine X.iinc iX3_pass_36 rfl rfl rfl ?_
          refine X.goto iX3_pass_39 ?_
          rw [nI_1]
          first
          | (rw [if_pos c18] at ih; exact ih)
          | (rw [if_neg c18] at ih; rw [sM_paid]; exact ih)
  refine MetX.of (by decide) rfl (Nat.le_of_ble_eq_true rfl) ?_
  refine X.pushi (v := nI 0) iX3_pass_0 ?_
  refine X.istore iX3_pass_1 rfl rfl ?_
  exact P1 0 (Nat.zero_le _)
