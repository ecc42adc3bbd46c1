/-! the class: a Tape, numbers and kinds -/
theorem isD_in {cl : Nat → Int32} {n p : Nat} (h : isD (nxt cl n p) = true) : sk cl n p < n ∧ nxt cl n p = cl (sk cl n p) := by
  by_cases q : sk cl n p < n
  · exact ⟨q, if_pos q⟩
  · rw [nxt, if_neg q] at h
    exact absurd h (by decide)
/-- a number: what it is, the place, the fault -/
def nbW (cl : Nat → Int32) (n : Nat) (lo hi : Int32) (p : Nat) (f : Int32) : Int32 := if f = 0 then (if isD (nxt cl n p) = true then nbrV cl n (sk cl n p) else nI 0) else nI 0
def nbP (cl : Nat → Int32) (n : Nat) (lo hi : Int32) (p : Nat) (f : Int32) : Nat := if f = 0 then (if isD (nxt cl n p) = true then nbrE cl n (sk cl n p) else sk cl n p) else p
def nbF (cl : Nat → Int32) (n : Nat) (lo hi : Int32) (p : Nat) (f : Int32) : Int32 := if f = 0 then (if isD (nxt cl n p) = true then (if inI (nbrV cl n (sk cl n p)) lo hi = true then 0 else -20 - nI (sk cl n p)) else -20 - nI (sk cl n p)) else f
theorem nb_end {d s n q r : Nat} {h : XH} {cl : Nat → Int32} {lo hi v : Int32} : X xT mX5_number (xR (d + 2, 0, 0)) (0, 0) 114 [some (.ref s), some (.int lo), some (.int hi), some (.int (nI q)), some (.int v)] [] (setT h s (Ta.mk cl n r 0)) (fun z h' => z = some (.int v) ∧ h' = setT h s (Ta.mk cl n r (if inI v lo hi = true then 0 else -20 - nI q))) := by
  refine X.iload iX5_number_114 rfl ?_
  refine X.iload iX5_number_116 rfl ?_
  refine X.iload iX5_number_117 rfl ?_
  refine X.callSi iX5_number_118 (c_X6_within (d + 1) _ v lo hi) rfl rfl (xfit _ _ _) (Nat.le_of_ble_eq_true rfl) ?_
  refine X.ifneB iX5_number_121 (fun c121 => ?_) (fun c121 => ?_)
  · refine X.iload iX5_number_129 rfl ?_
    first
    | (refine X.iret iX5_number_131 ⟨rfl, ?_⟩; rw [if_pos c121])
    | (refine X.iret iX5_number_131 ⟨rfl, ?_⟩; rw [if_neg (fun z => Bool.noConfusion (c121.symm.trans z))])
  · refine X.aload iX5_number_124 rfl ?_
    refine X.iload iX5_number_125 rfl ?_
    refine X.callVv iX5_number_126 (c_X5_fail0 (d := d + 1)) (by first | assumption | exact sT0 _ _ _ | exact sT1 _ _ _ | rfl) rfl rfl (xfit _ _ _) (Nat.le_of_ble_eq_true rfl) ?_
    refine X.iload iX5_number_129 rfl ?_
    first
    | (refine X.iret iX5_number_131 ⟨rfl, ?_⟩; rw [if_pos c121])
    | (refine X.iret iX5_number_131 ⟨rfl, ?_⟩; rw [if_neg (fun z => Bool.noConfusion (c121.symm.trans z))])
theorem nb_go {d s n q : Nat} {h : XH} {cl : Nat → Int32} {lo hi : Int32} (hn : n ≤ 90) (hq : q < n) : X xT mX5_number (xR (d + 2, 0, 0)) (0, 0) 29 [some (.ref s), some (.int lo), some (.int hi), none, none] [] (setT h s (Ta.mk cl n q 0)) (fun z h' => z = some (.int (nbrV cl n q)) ∧ h' = setT h s (Ta.mk cl n (nbrE cl n q) (if inI (nbrV cl n q) lo hi = true then 0 else -20 - nI q))) := by
  have e2 : ∀ (a b : Int32), (a - nI 48) * nI 10 + b - nI 48 = nI 10 * (a - nI 48) + b - nI 48 := fun a b => by rw [Int32.mul_comm]
  by_cases h1 : q + 1 < n
  · by_cases h2 : isD (cl (q + 1)) = true
    · have et : two cl n (q + 1) = true := by rw [two, decide_eq_true h1, h2]; rfl
      rw [nbrV, nbrE, if_pos et, if_pos et, ← e2]
      refine X.aload iX5_number_29 rfl ?_
      refine X.getf iX5_number_30 (by first | assumption | exact sT0 _ _ _ | exact sT1 _ _ _ | rfl) rfl ?_
      refine X.istore iX5_number_33 rfl rfl ?_
      refine X.aload iX5_number_34 rfl ?_
      refine X.getf iX5_number_35 (by first | assumption | exact sT0 _ _ _ | exact sT1 _ _ _ | rfl) rfl ?_
      refine X.aload iX5_number_38 rfl ?_
      refine X.getf iX5_number_39 (by first | assumption | exact sT0 _ _ _ | exact sT1 _ _ _ | rfl) rfl ?_
      refine X.caldE iX5_number_42 (by first | assumption | exact sT0 _ _ _ | exact sT1 _ _ _ | rfl) rfl (show q < 90 by omega) (by decide) ?_
      refine X.pushi (v := nI 48) iX5_number_43 ?_
      refine X.isub iX5_number_45 ?_
      refine X.istore iX5_number_46 rfl rfl ?_
      refine X.aload iX5_number_48 rfl ?_
      refine X.dupa iX5_number_49 ?_
      refine X.getf iX5_number_50 (by first | assumption | exact sT0 _ _ _ | exact sT1 _ _ _ | rfl) rfl ?_
      refine X.pushi (v := nI 1) iX5_number_53 ?_
      refine X.iadd iX5_number_54 ?_
      refine X.puti iX5_number_55 (by first | assumption | exact sT0 _ _ _ | exact sT1 _ _ _ | rfl) (Nat.le_of_ble_eq_true rfl) ?_
      rw [nI_add, sT_p]
      refine (show X xT mX5_number (xR (d + 2, 0, 0)) (0, 0) 58 [some (.ref s), some (.int lo), some (.int hi), some (.int (nI q)), some (.int (cl q - nI 48))] [] (setT h s (Ta.mk cl n (q + 1) 0)) _ from ?_)
      refine X.aload iX5_number_58 rfl ?_
      refine X.getf iX5_number_59 (by first | assumption | exact sT0 _ _ _ | exact sT1 _ _ _ | rfl) rfl ?_
      refine X.aload iX5_number_62 rfl ?_
      refine X.getf iX5_number_63 (by first | assumption | exact sT0 _ _ _ | exact sT1 _ _ _ | rfl) rfl ?_
      refine X.cmge iX5_number_66 (fun c66 => ?_) (fun c66 => ?_)
      · exact absurd c66 (nI_ge h1 (show n < 2 ^ 31 by omega))
      · refine X.aload iX5_number_69 rfl ?_
        refine X.getf iX5_number_70 (by first | assumption | exact sT0 _ _ _ | exact sT1 _ _ _ | rfl) rfl ?_
        refine X.aload iX5_number_73 rfl ?_
        refine X.getf iX5_number_74 (by first | assumption | exact sT0 _ _ _ | exact sT1 _ _ _ | rfl) rfl ?_
        refine X.caldE iX5_number_77 (by first | assumption | exact sT0 _ _ _ | exact sT1 _ _ _ | rfl) rfl (show q + 1 < 90 by omega) (by decide) ?_
        refine X.callSi iX5_number_78 (c_X5_isDigit d _ _) rfl rfl (xfit _ _ _) (Nat.le_of_ble_eq_true rfl) ?_
        refine X.ifeqB iX5_number_81 (fun c81 => ?_) (fun c81 => ?_)
        · exact absurd (c81.symm.trans h2) Bool.false_ne_true
        · refine X.iload iX5_number_84 rfl ?_
          refine X.pushi (v := nI 10) iX5_number_86 ?_
          refine X.imul iX5_number_88 ?_
          refine X.aload iX5_number_89 rfl ?_
          refine X.getf iX5_number_90 (by first | assumption | exact sT0 _ _ _ | exact sT1 _ _ _ | rfl) rfl ?_
          refine X.aload iX5_number_93 rfl ?_
          refine X.getf iX5_number_94 (by first | assumption | exact sT0 _ _ _ | exact sT1 _ _ _ | rfl) rfl ?_
          refine X.caldE iX5_number_97 (by first | assumption | exact sT0 _ _ _ | exact sT1 _ _ _ | rfl) rfl (show q + 1 < 90 by omega) (by decide) ?_
          refine X.iadd iX5_number_98 ?_
          refine X.pushi (v := nI 48) iX5_number_99 ?_
          refine X.isub iX5_number_101 ?_
          refine X.istore iX5_number_102 rfl rfl ?_
          refine X.aload iX5_number_104 rfl ?_
          refine X.dupa iX5_number_105 ?_
          refine X.getf iX5_number_106 (by first | assumption | exact sT0 _ _ _ | exact sT1 _ _ _ | rfl) rfl ?_
          refine X.pushi (v := nI 1) iX5_number_109 ?_
          refine X.iadd iX5_number_110 ?_
          refine X.puti iX5_number_111 (by first | assumption | exact sT0 _ _ _ | exact sT1 _ _ _ | rfl) (Nat.le_of_ble_eq_true rfl) ?_
          rw [nI_add, sT_p]
          exact nb_end
    · have et : ¬ two cl n (q + 1) = true := fun z => h2 (by rw [two, decide_eq_true h1] at z; exact z)
      rw [nbrV, nbrE, if_neg et, if_neg et]
      refine X.aload iX5_number_29 rfl ?_
      refine X.getf iX5_number_30 (by first | assumption | exact sT0 _ _ _ | exact sT1 _ _ _ | rfl) rfl ?_
      refine X.istore iX5_number_33 rfl rfl ?_
      refine X.aload iX5_number_34 rfl ?_
      refine X.getf iX5_number_35 (by first | assumption | exact sT0 _ _ _ | exact sT1 _ _ _ | rfl) rfl ?_
      refine X.aload iX5_number_38 rfl ?_
      refine X.getf iX5_number_39 (by first | assumption | exact sT0 _ _ _ | exact sT1 _ _ _ | rfl) rfl ?_
      refine X.caldE iX5_number_42 (by first | assumption | exact sT0 _ _ _ | exact sT1 _ _ _ | rfl) rfl (show q < 90 by omega) (by decide) ?_
      refine X.pushi (v := nI 48) iX5_number_43 ?_
      refine X.isub iX5_number_45 ?_
      refine X.istore iX5_number_46 rfl rfl ?_
      refine X.aload iX5_number_48 rfl ?_
      refine X.dupa iX5_number_49 ?_
      refine X.getf iX5_number_50 (by first | assumption | exact sT0 _ _ _ | exact sT1 _ _ _ | rfl) rfl ?_
      refine X.pushi (v := nI 1) iX5_number_53 ?_
      refine X.iadd iX5_number_54 ?_
      refine X.puti iX5_number_55 (by first | assumption | exact sT0 _ _ _ | exact sT1 _ _ _ | rfl) (Nat.le_of_ble_eq_true rfl) ?_
      rw [nI_add, sT_p]
      refine (show X xT mX5_number (xR (d + 2, 0, 0)) (0, 0) 58 [some (.ref s), some (.int lo), some (.int hi), some (.int (nI q)), some (.int (cl q - nI 48))] [] (setT h s (Ta.mk cl n (q + 1) 0)) _ from ?_)
      refine X.aload iX5_number_58 rfl ?_
      refine X.getf iX5_number_59 (by first | assumption | exact sT0 _ _ _ | exact sT1 _ _ _ | rfl) rfl ?_
      refine X.aload iX5_number_62 rfl ?_
      refine X.getf iX5_number_63 (by first | assumption | exact sT0 _ _ _ | exact sT1 _ _ _ | rfl) rfl ?_
      refine X.cmge iX5_number_66 (fun c66 => ?_) (fun c66 => ?_)
      · exact absurd c66 (nI_ge h1 (show n < 2 ^ 31 by omega))
      · refine X.aload iX5_number_69 rfl ?_
        refine X.getf iX5_number_70 (by first | assumption | exact sT0 _ _ _ | exact sT1 _ _ _ | rfl) rfl ?_
        refine X.aload iX5_number_73 rfl ?_
        refine X.getf iX5_number_74 (by first | assumption | exact sT0 _ _ _ | exact sT1 _ _ _ | rfl) rfl ?_
        refine X.caldE iX5_number_77 (by first | assumption | exact sT0 _ _ _ | exact sT1 _ _ _ | rfl) rfl (show q + 1 < 90 by omega) (by decide) ?_
        refine X.callSi iX5_number_78 (c_X5_isDigit d _ _) rfl rfl (xfit _ _ _) (Nat.le_of_ble_eq_true rfl) ?_
        refine X.ifeqB iX5_number_81 (fun c81 => ?_) (fun c81 => ?_)
        · exact nb_end
        · exact absurd c81 h2
  · have et : ¬ two cl n (q + 1) = true := fun z => by
      rw [two, decide_eq_false h1] at z
      exact Bool.false_ne_true z
    rw [nbrV, nbrE, if_neg et, if_neg et]
    refine X.aload iX5_number_29 rfl ?_
    refine X.getf iX5_number_30 (by first | assumption | exact sT0 _ _ _ | exact sT1 _ _ _ | rfl) rfl ?_
    refine X.istore iX5_number_33 rfl rfl ?_
    refine X.aload iX5_number_34 rfl ?_
    refine X.getf iX5_number_35 (by first | assumption | exact sT0 _ _ _ | exact sT1 _ _ _ | rfl) rfl ?_
    refine X.aload iX5_number_38 rfl ?_
    refine X.getf iX5_number_39 (by first | assumption | exact sT0 _ _ _ | exact sT1 _ _ _ | rfl) rfl ?_
    refine X.caldE iX5_number_42 (by first | assumption | exact sT0 _ _ _ | exact sT1 _ _ _ | rfl) rfl (show q < 90 by omega) (by decide) ?_
    refine X.pushi (v := nI 48) iX5_number_43 ?_
    refine X.isub iX5_number_45 ?_
    refine X.istore iX5_number_46 rfl rfl ?_
    refine X.aload iX5_number_48 rfl ?_
    refine X.dupa iX5_number_49 ?_
    refine X.getf iX5_number_50 (by first | assumption | exact sT0 _ _ _ | exact sT1 _ _ _ | rfl) rfl ?_
    refine X.pushi (v := nI 1) iX5_number_53 ?_
    refine X.iadd iX5_number_54 ?_
    refine X.puti iX5_number_55 (by first | assumption | exact sT0 _ _ _ | exact sT1 _ _ _ | rfl) (Nat.le_of_ble_eq_true rfl) ?_
    rw [nI_add, sT_p]
    refine (show X xT mX5_number (xR (d + 2, 0, 0)) (0, 0) 58 [some (.ref s), some (.int lo), some (.int hi), some (.int (nI q)), some (.int (cl q - nI 48))] [] (setT h s (Ta.mk cl n (q + 1) 0)) _ from ?_)
    refine X.aload iX5_number_58 rfl ?_
    refine X.getf iX5_number_59 (by first | assumption | exact sT0 _ _ _ | exact sT1 _ _ _ | rfl) rfl ?_
    refine X.aload iX5_number_62 rfl ?_
    refine X.getf iX5_number_63 (by first | assumption | exact sT0 _ _ _ | exact sT1 _ _ _ | rfl) rfl ?_
    refine X.cmge iX5_number_66 (fun c66 => ?_) (fun c66 => ?_)
    · exact nb_end
    · exact absurd (nI_le (show n ≤ q + 1 by omega) (show q + 1 < 2 ^ 31 by omega)) c66
theorem c_X5_number {d s n p : Nat} {h : XH} {cl : Nat → Int32} {f lo hi : Int32} (hn : n ≤ 90) (hp : p ≤ n) : MetH mX5_number (d + 2, 0, 0) [.ref s, .int lo, .int hi] (setT h s (Ta.mk cl n p f)) (nbW cl n lo hi p f) (setT h s (Ta.mk cl n (nbP cl n lo hi p f) (nbF cl n lo hi p f))) := by
  refine MetX.of (by decide) rfl (Nat.le_of_ble_eq_true rfl) ?_
  by_cases e : f = 0
  · subst e
    rw [nbP, nbF, nbW, if_pos rfl, if_pos rfl, if_pos rfl]
    by_cases hD : isD (nxt cl n p) = true
    · rw [if_pos hD, if_pos hD, if_pos hD]
      refine X.aload iX5_number_0 rfl ?_
      refine X.getf iX5_number_1 (by first | assumption | exact sT0 _ _ _ | exact sT1 _ _ _ | rfl) rfl ?_
      refine X.ifeq iX5_number_4 (fun c4 => ?_) (fun c4 => ?_)
      · refine X.aload iX5_number_9 rfl ?_
        refine X.callVi iX5_number_10 (c_X5_next (d := d + 1) (V := Ta.mk cl n p 0) hn hp) (by first | assumption | exact sT0 _ _ _ | exact sT1 _ _ _ | rfl) rfl rfl (xfit _ _ _) (Nat.le_of_ble_eq_true rfl) ?_
        refine X.callSi iX5_number_13 (c_X5_isDigit d _ (nxt cl n p)) rfl rfl (xfit _ _ _) (Nat.le_of_ble_eq_true rfl) ?_
        refine X.ifneB iX5_number_16 (fun c16 => ?_) (fun c16 => ?_)
        · exact nb_go hn (isD_in hD).1
        · exact absurd (c16.symm.trans hD) Bool.false_ne_true
      · exact absurd rfl c4
    · rw [if_neg hD, if_neg hD, if_neg hD]
      refine X.aload iX5_number_0 rfl ?_
      refine X.getf iX5_number_1 (by first | assumption | exact sT0 _ _ _ | exact sT1 _ _ _ | rfl) rfl ?_
      refine X.ifeq iX5_number_4 (fun c4 => ?_) (fun c4 => ?_)
      · refine X.aload iX5_number_9 rfl ?_
        refine X.callVi iX5_number_10 (c_X5_next (d := d + 1) (V := Ta.mk cl n p 0) hn hp) (by first | assumption | exact sT0 _ _ _ | exact sT1 _ _ _ | rfl) rfl rfl (xfit _ _ _) (Nat.le_of_ble_eq_true rfl) ?_
        refine X.callSi iX5_number_13 (c_X5_isDigit d _ (nxt cl n p)) rfl rfl (xfit _ _ _) (Nat.le_of_ble_eq_true rfl) ?_
        refine X.ifneB iX5_number_16 (fun c16 => ?_) (fun c16 => ?_)
        · exact absurd c16 hD
        · refine X.aload iX5_number_19 rfl ?_
          refine X.aload iX5_number_20 rfl ?_
          refine X.getf iX5_number_21 (by first | assumption | exact sT0 _ _ _ | exact sT1 _ _ _ | rfl) rfl ?_
          refine X.callVv iX5_number_24 (c_X5_fail0 (d := d + 1)) (by first | assumption | exact sT0 _ _ _ | exact sT1 _ _ _ | rfl) rfl rfl (xfit _ _ _) (Nat.le_of_ble_eq_true rfl) ?_
          refine X.pushi (v := nI 0) iX5_number_27 ?_
          exact X.iret iX5_number_28 ⟨rfl, rfl⟩
      · exact absurd rfl c4
  · rw [nbP, nbF, nbW, if_neg e, if_neg e, if_neg e]
    refine X.aload iX5_number_0 rfl ?_
    refine X.getf iX5_number_1 (by first | assumption | exact sT0 _ _ _ | exact sT1 _ _ _ | rfl) rfl ?_
    refine X.ifeq iX5_number_4 (fun c4 => ?_) (fun c4 => ?_)
    · exact absurd c4 e
    · refine X.pushi (v := nI 0) iX5_number_7 ?_
      exact X.iret iX5_number_8 ⟨rfl, rfl⟩
