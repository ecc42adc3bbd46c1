/-! the class: a text is read -/
theorem ctL_le {cl : Nat → Int32} {n : Nat} : ∀ g k p O M, p ≤ n → (ctL cl n g k p O M).1 ≤ n := by
  intro g
  induction g with
  | zero =>
    intro k p O M hp
    exact hp
  | succ g ih =>
    intro k p O M hp
    rw [ctL]
    have l5 := cT5_le (cl := cl) hp
    generalize (cT1 cl n p).1 = v1
    generalize (cT3 cl n p).1 = v3
    generalize cT5 cl n p = z at l5 ⊢
    split
    · split
      · split
        · exact ih _ _ _ _ (psP_le (by decide) l5)
        · show psP cl n z.2.1 (nI 44) ≤ n
          exact psP_le (by decide) l5
      · exact l5
    · exact l5
theorem ctL_nL {cl : Nat → Int32} {n : Nat} : ∀ g k p O M, (ctL cl n g k p O M).2.2.1.nL = Oc.nL O := by
  intro g
  induction g with
  | zero =>
    intro k p O M
    rfl
  | succ g ih =>
    intro k p O M
    rw [ctL]
    generalize (cT1 cl n p).1 = v1
    generalize (cT3 cl n p).1 = v3
    generalize cT5 cl n p = z
    split
    · split
      · split
        · exact ih _ _ _ _
        · rfl
      · rfl
    · rfl
theorem clL_le {cl : Nat → Int32} {n : Nat} : ∀ g k p O M, p ≤ n → (clL cl n g k p O M).1 ≤ n := by
  intro g
  induction g with
  | zero =>
    intro k p O M hp
    exact hp
  | succ g ih =>
    intro k p O M hp
    rw [clL]
    have l5 := cL4_le (cl := cl) (nT := O.nT) hp
    generalize (cL1 cl n p).1 = v1
    generalize (cL2 cl n p).1 = v2
    generalize (cL3 cl n p).1 = v3
    generalize cL4 cl n O.nT p = z at l5 ⊢
    split
    · split
      · split
        · exact ih _ _ _ _ (psP_le (by decide) l5)
        · show psP cl n z.2.1 (nI 44) ≤ n
          exact psP_le (by decide) l5
      · exact l5
    · exact l5
theorem nz20 {k : Nat} (hk : k ≤ 90) : ¬ (-20 - nI k : Int32) = 0 := by
  have := (by decide +kernel : ∀ k : Fin 91, ¬ (-20 - nI k.1 : Int32) = 0) ⟨k, by omega⟩
  exact this
/-- the answer, when trees and ladders are read -/
def rdR (cl : Nat → Int32) (n p : Nat) (f : Int32) (nT : Nat) : Int32 := if f = 0 then (if nxt cl n p = -1 then nI nT else -20 - nI (sk cl n p)) else f
theorem rd_end {d s o n p : Nat} {h : XH} {cl : Nat → Int32} {O : Oc} {M : Mo} {f : Int32} (hn : n ≤ 90) (hp : p ≤ n) (q : s + 1 < o ∨ o + 8 < s) : X xT mX5_read (xR (d + 4, 0, 0)) (0, 0) 40 [some (.ref s), some (.ref o)] [] (tpic h s o (Ta.mk cl n p f) O M) (fun v h' => v = some (.int (rdR cl n p f O.nT)) ∧ ∃ p' f', h' = tpic h s o (Ta.mk cl n p' f') O M) := by
  have hs := (sk_le (tp := cl) hp).2
  by_cases e : f = 0
  · subst e
    rw [rdR, if_pos rfl]
    by_cases e2 : nxt cl n p = -1
    · rw [if_pos e2]
      refine X.aload iX5_read_40 rfl ?_
      refine X.getf iX5_read_41 (by first | assumption | exact sT0 _ _ _ | exact sT1 _ _ _ | exact tp_o _ _ _ _ q | rfl) rfl ?_
      refine X.ifne iX5_read_44 (fun c44 => ?_) (fun c44 => ?_)
      · exact absurd rfl c44
      · refine X.aload iX5_read_47 rfl ?_
        refine X.callVi iX5_read_48 (c_X5_next (d := d + 3) (V := Ta.mk cl n p 0) hn hp) (by first | assumption | exact sT0 _ _ _ | exact sT1 _ _ _ | exact tp_o _ _ _ _ q | rfl) rfl rfl (xfit _ _ _) (Nat.le_of_ble_eq_true rfl) ?_
        refine X.pushi iX5_read_51 ?_
        refine X.cmeq iX5_read_52 (fun c52 => ?_) (fun c52 => ?_)
        · refine X.aload iX5_read_63 rfl ?_
          refine X.getf iX5_read_64 (by first | assumption | exact sT0 _ _ _ | exact sT1 _ _ _ | exact tp_o _ _ _ _ q | rfl) rfl ?_
          refine X.ifne iX5_read_67 (fun c67 => ?_) (fun c67 => ?_)
          · exact absurd rfl c67
          · refine X.aload iX5_read_70 rfl ?_
            refine X.getf iX5_read_71 (tp_o h _ _ _ q) rfl ?_
            refine X.goto iX5_read_74 ?_
            exact X.iret iX5_read_81 ⟨rfl, _, _, rfl⟩
        · exact absurd e2 c52
    · rw [if_neg e2]
      refine X.aload iX5_read_40 rfl ?_
      refine X.getf iX5_read_41 (by first | assumption | exact sT0 _ _ _ | exact sT1 _ _ _ | exact tp_o _ _ _ _ q | rfl) rfl ?_
      refine X.ifne iX5_read_44 (fun c44 => ?_) (fun c44 => ?_)
      · exact absurd rfl c44
      · refine X.aload iX5_read_47 rfl ?_
        refine X.callVi iX5_read_48 (c_X5_next (d := d + 3) (V := Ta.mk cl n p 0) hn hp) (by first | assumption | exact sT0 _ _ _ | exact sT1 _ _ _ | exact tp_o _ _ _ _ q | rfl) rfl rfl (xfit _ _ _) (Nat.le_of_ble_eq_true rfl) ?_
        refine X.pushi iX5_read_51 ?_
        refine X.cmeq iX5_read_52 (fun c52 => ?_) (fun c52 => ?_)
        · exact absurd c52 e2
        · refine X.aload iX5_read_55 rfl ?_
          refine X.aload iX5_read_56 rfl ?_
          refine X.getf iX5_read_57 (by first | assumption | exact sT0 _ _ _ | exact sT1 _ _ _ | exact tp_o _ _ _ _ q | rfl) rfl ?_
          refine X.callVv iX5_read_60 (c_X5_fail0 (d := d + 3)) (by first | assumption | exact sT0 _ _ _ | exact sT1 _ _ _ | exact tp_o _ _ _ _ q | rfl) rfl rfl (xfit _ _ _) (Nat.le_of_ble_eq_true rfl) ?_
          refine X.aload iX5_read_63 rfl ?_
          refine X.getf iX5_read_64 (by first | assumption | exact sT0 _ _ _ | exact sT1 _ _ _ | exact tp_o _ _ _ _ q | rfl) rfl ?_
          refine X.ifne iX5_read_67 (fun c67 => ?_) (fun c67 => ?_)
          · refine X.aload iX5_read_77 rfl ?_
            refine X.getf iX5_read_78 (by first | assumption | exact sT0 _ _ _ | exact sT1 _ _ _ | exact tp_o _ _ _ _ q | rfl) rfl ?_
            exact X.iret iX5_read_81 ⟨rfl, _, _, rfl⟩
          · exact absurd c67 (nz20 (show sk cl n p ≤ 90 by omega))
  · rw [rdR, if_neg e]
    refine X.aload iX5_read_40 rfl ?_
    refine X.getf iX5_read_41 (by first | assumption | exact sT0 _ _ _ | exact sT1 _ _ _ | exact tp_o _ _ _ _ q | rfl) rfl ?_
    refine X.ifne iX5_read_44 (fun c44 => ?_) (fun c44 => ?_)
    · refine X.aload iX5_read_63 rfl ?_
      refine X.getf iX5_read_64 (by first | assumption | exact sT0 _ _ _ | exact sT1 _ _ _ | exact tp_o _ _ _ _ q | rfl) rfl ?_
      refine X.ifne iX5_read_67 (fun c67 => ?_) (fun c67 => ?_)
      · refine X.aload iX5_read_77 rfl ?_
        refine X.getf iX5_read_78 (by first | assumption | exact sT0 _ _ _ | exact sT1 _ _ _ | exact tp_o _ _ _ _ q | rfl) rfl ?_
        exact X.iret iX5_read_81 ⟨rfl, _, _, rfl⟩
      · exact absurd c67 e
    · exact absurd c44 e
/-- perhaps ladders, behind the trees -/
def rdM (cl : Nat → Int32) (n p : Nat) (f : Int32) (O : Oc) (M : Mo) : Nat × Int32 × Oc × Mo :=
  if f = 0 then (if nxt cl n p = nI 59 then clL cl n 4 0 (psP cl n p (nI 59)) O M else (psP cl n p (nI 59), 0, O, M)) else (p, f, O, M)
theorem rd_mid {d s o n p : Nat} {h : XH} {cl : Nat → Int32} {O : Oc} {M : Mo} {f : Int32} (hn : n ≤ 90) (hp : p ≤ n) (q : s + 1 < o ∨ o + 8 < s) (e0 : O.nL = 0) : X xT mX5_read (xR (d + 4, 0, 0)) (0, 0) 19 [some (.ref s), some (.ref o)] [] (tpic h s o (Ta.mk cl n p f) O M) (fun v h' => v = some (.int (rdR cl n (rdM cl n p f O M).1 (rdM cl n p f O M).2.1 (rdM cl n p f O M).2.2.1.nT)) ∧ ∃ p' f', h' = tpic h s o (Ta.mk cl n p' f') (rdM cl n p f O M).2.2.1 (rdM cl n p f O M).2.2.2) := by
  have hP := psP_le (cl := cl) (c := nI 59) (by decide) hp
  by_cases e : f = 0
  · subst e
    by_cases e2 : nxt cl n p = nI 59
    · rw [show rdM cl n p 0 O M = clL cl n 4 0 (psP cl n p (nI 59)) O M by rw [rdM, if_pos rfl, if_pos e2]]
      have hL := clL_le (cl := cl) 4 0 (psP cl n p (nI 59)) O M hP
      have CL := c_X5_readLadders (d := d) (h := h) (cl := cl) (M := M) hn hP q e0
      generalize clL cl n 4 0 (psP cl n p (nI 59)) O M = r at hL CL ⊢
      obtain ⟨r1, r2, r3, r4⟩ := r
      refine X.aload iX5_read_19 rfl ?_
      refine X.getf iX5_read_20 (by first | assumption | exact sT0 _ _ _ | exact sT1 _ _ _ | exact tp_o _ _ _ _ q | rfl) rfl ?_
      refine X.ifne iX5_read_23 (fun c23 => ?_) (fun c23 => ?_)
      · exact absurd rfl c23
      · refine X.aload iX5_read_26 rfl ?_
        refine X.pushi (v := nI 59) iX5_read_27 ?_
        refine X.callVi iX5_read_29 (c_X5_passes (d := d + 2) (V := Ta.mk cl n p 0) (c := nI 59) hn hp) (by first | assumption | exact sT0 _ _ _ | exact sT1 _ _ _ | exact tp_o _ _ _ _ q | rfl) rfl rfl (xfit _ _ _) (Nat.le_of_ble_eq_true rfl) ?_
        refine X.ifeqB iX5_read_32 (fun c32 => ?_) (fun c32 => ?_)
        · exact absurd e2 (of_decide_eq_false c32)
        · refine X.aload iX5_read_35 rfl ?_
          refine X.aload iX5_read_36 rfl ?_
          refine X.callVv iX5_read_37 (CL) (by first | assumption | exact sT0 _ _ _ | exact sT1 _ _ _ | exact tp_o _ _ _ _ q | rfl) rfl rfl (xfit _ _ _) (Nat.le_of_ble_eq_true rfl) ?_
          exact rd_end hn hL q
    · rw [show rdM cl n p 0 O M = (psP cl n p (nI 59), 0, O, M) by rw [rdM, if_pos rfl, if_neg e2]]
      refine X.aload iX5_read_19 rfl ?_
      refine X.getf iX5_read_20 (by first | assumption | exact sT0 _ _ _ | exact sT1 _ _ _ | exact tp_o _ _ _ _ q | rfl) rfl ?_
      refine X.ifne iX5_read_23 (fun c23 => ?_) (fun c23 => ?_)
      · exact absurd rfl c23
      · refine X.aload iX5_read_26 rfl ?_
        refine X.pushi (v := nI 59) iX5_read_27 ?_
        refine X.callVi iX5_read_29 (c_X5_passes (d := d + 2) (V := Ta.mk cl n p 0) (c := nI 59) hn hp) (by first | assumption | exact sT0 _ _ _ | exact sT1 _ _ _ | exact tp_o _ _ _ _ q | rfl) rfl rfl (xfit _ _ _) (Nat.le_of_ble_eq_true rfl) ?_
        refine X.ifeqB iX5_read_32 (fun c32 => ?_) (fun c32 => ?_)
        · exact rd_end hn hP q
        · exact absurd (of_decide_eq_true c32) e2
  · rw [show rdM cl n p f O M = (p, f, O, M) by rw [rdM, if_neg e]]
    refine X.aload iX5_read_19 rfl ?_
    refine X.getf iX5_read_20 (by first | assumption | exact sT0 _ _ _ | exact sT1 _ _ _ | exact tp_o _ _ _ _ q | rfl) rfl ?_
    refine X.ifne iX5_read_23 (fun c23 => ?_) (fun c23 => ?_)
    · exact rd_end hn hp q
    · exact absurd c23 e
def rdO (O : Oc) : Oc := (Oc.mk 0 0 O.ba O.wa O.hi O.ri O.ki O.le O.pr)
def rdN0 (M : Mo) : Mo := (Mo.mk M.fr (cp (fun _ => -4) M.ln 4) M.got M.paid M.lost M.day M.draw)
def rdA (cl : Nat → Int32) (n : Nat) (O : Oc) (M : Mo) : Nat × Int32 × Oc × Mo := ctL cl n 6 0 0 (rdO O) (rdN0 M)
def rdB (cl : Nat → Int32) (n : Nat) (O : Oc) (M : Mo) : Nat × Int32 × Oc × Mo := rdM cl n (rdA cl n O M).1 (rdA cl n O M).2.1 (rdA cl n O M).2.2.1 (rdA cl n O M).2.2.2
def rdV (cl : Nat → Int32) (n : Nat) (O : Oc) (M : Mo) : Int32 := rdR cl n (rdB cl n O M).1 (rdB cl n O M).2.1 (rdB cl n O M).2.2.1.nT
theorem c_X5_read {d s o n p : Nat} {h : XH} {cl : Nat → Int32} {O : Oc} {M : Mo} {f : Int32} (hn : n ≤ 90) (q : s + 1 < o ∨ o + 8 < s) : MetX mX5_read (d + 4, 0, 0) [.ref s, .ref o] (tpic h s o (Ta.mk cl n p f) O M) (fun v h' => v = some (.int (rdV cl n O M)) ∧ ∃ p' f', h' = tpic h s o (Ta.mk cl n p' f') (rdB cl n O M).2.2.1 (rdB cl n O M).2.2.2) := by
  have hA : (rdA cl n O M).1 ≤ n := by
    rw [rdA]
    exact ctL_le 6 0 0 (rdO O) (rdN0 M) (Nat.zero_le _)
  have hB : (rdA cl n O M).2.2.1.nL = (rdO O).nL := by
    rw [rdA]
    exact ctL_nL 6 0 0 (rdO O) (rdN0 M)
  have CT := c_X5_readTrees (d := d) (h := h) (cl := cl) (O := rdO O) (M := rdN0 M) hn q rfl
  rw [show ctL cl n 6 0 0 (rdO O) (rdN0 M) = rdA cl n O M by rw [rdA]] at CT
  rw [rdV, rdB]
  generalize rdA cl n O M = r at hA hB CT ⊢
  obtain ⟨r1, r2, r3, r4⟩ := r
  have K := rd_mid (d := d) (h := h) (cl := cl) (p := r1) (f := r2) (O := r3) (M := r4) hn hA q hB
  refine MetX.of (by decide) rfl (Nat.le_of_ble_eq_true rfl) ?_
  refine X.aload iX5_read_0 rfl ?_
  refine X.pushi (v := nI 0) iX5_read_1 ?_
  refine X.puti iX5_read_2 (sT0 _ _ _) (Nat.le_of_ble_eq_true rfl) ?_
  refine X.heap (h' := tpic h s o (Ta.mk cl n 0 f) O M) (sT_p _ _ _ 0) ?_
  refine X.aload iX5_read_5 rfl ?_
  refine X.pushi (v := nI 0) iX5_read_6 ?_
  refine X.puti iX5_read_7 (sT0 _ _ _) (Nat.le_of_ble_eq_true rfl) ?_
  refine X.heap (h' := tpic h s o (Ta.mk cl n 0 0) O M) (sT_f _ _ _ 0) ?_
  refine X.aload iX5_read_10 rfl ?_
  refine X.callVv iX5_read_11 (g_clear (d := d + 2) q) (by first | assumption | exact sT0 _ _ _ | exact sT1 _ _ _ | exact tp_o _ _ _ _ q | rfl) rfl rfl (xfit _ _ _) (Nat.le_of_ble_eq_true rfl) ?_
  refine X.aload iX5_read_14 rfl ?_
  refine X.aload iX5_read_15 rfl ?_
  refine X.callVv iX5_read_16 (CT) (by first | assumption | exact sT0 _ _ _ | exact sT1 _ _ _ | exact tp_o _ _ _ _ q | rfl) rfl rfl (xfit _ _ _) (Nat.le_of_ble_eq_true rfl) ?_
  exact K
