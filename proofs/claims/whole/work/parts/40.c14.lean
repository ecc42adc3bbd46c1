/-! the class: ladders of a text -/
/-- perhaps a tree: which, the place, the fault -/
def ctV (cl : Nat → Int32) (n nT p : Nat) (f : Int32) : Int32 := if f = 0 then (if nxt cl n p = nI 61 then dgV cl n (nI 0) (nI nT - nI 1) (psP cl n p (nI 61)) 0 else -4) else -4
def ctP (cl : Nat → Int32) (n nT p : Nat) (f : Int32) : Nat := if f = 0 then (if nxt cl n p = nI 61 then dgP cl n (nI 0) (nI nT - nI 1) (psP cl n p (nI 61)) 0 else psP cl n p (nI 61)) else p
def ctF (cl : Nat → Int32) (n nT p : Nat) (f : Int32) : Int32 := if f = 0 then (if nxt cl n p = nI 61 then dgF cl n (nI 0) (nI nT - nI 1) (psP cl n p (nI 61)) 0 else 0) else f
theorem cl_tree {d s o n k p : Nat} {h : XH} {cl : Nat → Int32} {O : Oc} {M : Mo} {x4 x5 x6 f : Int32} {Q : Option Value → XH → Prop} (hn : n ≤ 90) (hp : p ≤ n) (q : s + 1 < o ∨ o + 8 < s)
    (K : ∀ x7, X xT mX5_readLadders (xR (d + 3, 0, 0)) (0, 0) 83 [some (.ref s), some (.ref o), some (.int (nI 1)), some (.int (nI k)), some (.int x4), some (.int x5), some (.int x6), some (.int x7), some (.int (ctV cl n O.nT p f))] [] (tpic h s o (Ta.mk cl n (ctP cl n O.nT p f) (ctF cl n O.nT p f)) O M) Q) :
    X xT mX5_readLadders (xR (d + 3, 0, 0)) (0, 0) 37 [some (.ref s), some (.ref o), some (.int (nI 1)), some (.int (nI k)), some (.int x4), some (.int x5), some (.int x6), none, none] [] (tpic h s o (Ta.mk cl n p f) O M) Q := by
  have zo : ∀ V, tpic h s o V O M o = some (.inr (3, ocS o O)) := fun V => by
    show setT (setA h o O M) s _ o = _
    rw [sTA _ _ _ _ q]
    exact (sA_O _ o O M).1
  by_cases e : f = 0
  · subst e
    rw [ctV, ctP, ctF, if_pos rfl, if_pos rfl, if_pos rfl] at K
    by_cases e2 : nxt cl n p = nI 61
    · rw [if_pos e2, if_pos e2, if_pos e2] at K
      refine X.aload iX5_readLadders_37 rfl ?_
      refine X.getf iX5_readLadders_38 (by first | assumption | exact sT0 _ _ _ | exact sT1 _ _ _ | rfl) rfl ?_
      refine X.ifne iX5_readLadders_41 (fun c41 => ?_) (fun c41 => ?_)
      · exact absurd rfl c41
      · refine X.aload iX5_readLadders_44 rfl ?_
        refine X.pushi (v := nI 61) iX5_readLadders_45 ?_
        refine X.callVi iX5_readLadders_47 (c_X5_passes (d := d + 1) (V := Ta.mk cl n p 0) (c := nI 61) hn hp) (by first | assumption | exact sT0 _ _ _ | exact sT1 _ _ _ | rfl) rfl rfl (xfit _ _ _) (Nat.le_of_ble_eq_true rfl) ?_
        refine X.ifeqB iX5_readLadders_50 (fun c50 => ?_) (fun c50 => ?_)
        · exact absurd e2 (of_decide_eq_false c50)
        · refine X.pushi (v := nI 1) iX5_readLadders_53 ?_
          refine X.goto iX5_readLadders_54 ?_
          refine X.istore iX5_readLadders_58 rfl rfl ?_
          refine X.iload iX5_readLadders_60 rfl ?_
          refine X.ifeq iX5_readLadders_62 (fun c62 => ?_) (fun c62 => ?_)
          · exact absurd c62 (by decide)
          · refine X.aload iX5_readLadders_65 rfl ?_
            refine X.pushi (v := nI 0) iX5_readLadders_66 ?_
            refine X.aload iX5_readLadders_67 rfl ?_
            refine X.getf iX5_readLadders_68 (zo _) rfl ?_
            refine X.pushi (v := nI 1) iX5_readLadders_71 ?_
            refine X.isub iX5_readLadders_72 ?_
            refine X.callVi iX5_readLadders_73 (c_X5_digit (d := d) (p := psP cl n p (nI 61)) (f := 0) hn (psP_le (by decide) hp)) (by first | assumption | exact sT0 _ _ _ | exact sT1 _ _ _ | rfl) rfl rfl (xfit _ _ _) (Nat.le_of_ble_eq_true rfl) ?_
            refine X.goto iX5_readLadders_76 ?_
            refine X.istore iX5_readLadders_81 rfl rfl ?_
            exact K _
    · rw [if_neg e2, if_neg e2, if_neg e2] at K
      refine X.aload iX5_readLadders_37 rfl ?_
      refine X.getf iX5_readLadders_38 (by first | assumption | exact sT0 _ _ _ | exact sT1 _ _ _ | rfl) rfl ?_
      refine X.ifne iX5_readLadders_41 (fun c41 => ?_) (fun c41 => ?_)
      · exact absurd rfl c41
      · refine X.aload iX5_readLadders_44 rfl ?_
        refine X.pushi (v := nI 61) iX5_readLadders_45 ?_
        refine X.callVi iX5_readLadders_47 (c_X5_passes (d := d + 1) (V := Ta.mk cl n p 0) (c := nI 61) hn hp) (by first | assumption | exact sT0 _ _ _ | exact sT1 _ _ _ | rfl) rfl rfl (xfit _ _ _) (Nat.le_of_ble_eq_true rfl) ?_
        refine X.ifeqB iX5_readLadders_50 (fun c50 => ?_) (fun c50 => ?_)
        · refine X.pushi (v := nI 0) iX5_readLadders_57 ?_
          refine X.istore iX5_readLadders_58 rfl rfl ?_
          refine X.iload iX5_readLadders_60 rfl ?_
          refine X.ifeq iX5_readLadders_62 (fun c62 => ?_) (fun c62 => ?_)
          · refine X.pushi iX5_readLadders_79 ?_
            refine X.istore iX5_readLadders_81 rfl rfl ?_
            exact K _
          · exact absurd rfl c62
        · exact absurd (of_decide_eq_true c50) e2
  · rw [ctV, ctP, ctF, if_neg e, if_neg e, if_neg e] at K
    refine X.aload iX5_readLadders_37 rfl ?_
    refine X.getf iX5_readLadders_38 (by first | assumption | exact sT0 _ _ _ | exact sT1 _ _ _ | rfl) rfl ?_
    refine X.ifne iX5_readLadders_41 (fun c41 => ?_) (fun c41 => ?_)
    · refine X.pushi (v := nI 0) iX5_readLadders_57 ?_
      refine X.istore iX5_readLadders_58 rfl rfl ?_
      refine X.iload iX5_readLadders_60 rfl ?_
      refine X.ifeq iX5_readLadders_62 (fun c62 => ?_) (fun c62 => ?_)
      · refine X.pushi iX5_readLadders_79 ?_
        refine X.istore iX5_readLadders_81 rfl rfl ?_
        exact K _
      · exact absurd rfl c62
    · exact absurd c41 e
/-- the pieces of a ladder -/
def cL1 (cl : Nat → Int32) (n p : Nat) : Int32 × Nat × Int32 := (kdV (nxt cl n p), kdP cl n p, kdF cl n p)
def cL2 (cl : Nat → Int32) (n p : Nat) : Int32 × Nat × Int32 := (dgV cl n (nI 1) (nI 9) (cL1 cl n p).2.1 (cL1 cl n p).2.2, dgP cl n (nI 1) (nI 9) (cL1 cl n p).2.1 (cL1 cl n p).2.2, dgF cl n (nI 1) (nI 9) (cL1 cl n p).2.1 (cL1 cl n p).2.2)
def cL3 (cl : Nat → Int32) (n p : Nat) : Int32 × Nat × Int32 := (dgV cl n (nI 0) (nI 9) (cL2 cl n p).2.1 (cL2 cl n p).2.2, dgP cl n (nI 0) (nI 9) (cL2 cl n p).2.1 (cL2 cl n p).2.2, dgF cl n (nI 0) (nI 9) (cL2 cl n p).2.1 (cL2 cl n p).2.2)
def cL4 (cl : Nat → Int32) (n nT p : Nat) : Int32 × Nat × Int32 := (ctV cl n nT (cL3 cl n p).2.1 (cL3 cl n p).2.2, ctP cl n nT (cL3 cl n p).2.1 (cL3 cl n p).2.2, ctF cl n nT (cL3 cl n p).2.1 (cL3 cl n p).2.2)
theorem kdB_in {cl : Nat → Int32} {n p : Nat} (h : kdB (nxt cl n p) = true) : sk cl n p < n := by
  by_cases q : sk cl n p < n
  · exact q
  · rw [nxt, if_neg q] at h
    exact absurd h (by decide)
theorem kdP_le {cl : Nat → Int32} {n p : Nat} (hp : p ≤ n) : kdP cl n p ≤ n := by
  unfold kdP
  split
  · rename_i q
    have := kdB_in q
    omega
  · exact (sk_le hp).2
theorem dgB_in {cl : Nat → Int32} {n p : Nat} {lo hi : Int32} (h : dgB cl n lo hi p = true) : sk cl n p < n := by
  rw [dgB, Bool.and_eq_true] at h
  exact (isD_in h.1).1
theorem dgP_le {cl : Nat → Int32} {n p : Nat} {lo hi f : Int32} (hp : p ≤ n) : dgP cl n lo hi p f ≤ n := by
  unfold dgP
  split
  · split
    · rename_i q
      have := dgB_in q
      omega
    · exact (sk_le hp).2
  · exact hp
theorem ctP_le {cl : Nat → Int32} {n nT p : Nat} {f : Int32} (hp : p ≤ n) : ctP cl n nT p f ≤ n := by
  unfold ctP
  split
  · split
    · exact dgP_le (psP_le (by decide) hp)
    · exact psP_le (by decide) hp
  · exact hp
theorem cL1_le {cl : Nat → Int32} {n p : Nat} (hp : p ≤ n) : (cL1 cl n p).2.1 ≤ n := by
  unfold cL1
  exact kdP_le hp
theorem cL2_le {cl : Nat → Int32} {n p : Nat} (hp : p ≤ n) : (cL2 cl n p).2.1 ≤ n := by
  have h4 := cL1_le (cl := cl) hp
  unfold cL2
  generalize cL1 cl n p = z at h4 ⊢
  exact dgP_le (lo := nI 1) (hi := nI 9) (f := z.2.2) h4
theorem cL3_le {cl : Nat → Int32} {n p : Nat} (hp : p ≤ n) : (cL3 cl n p).2.1 ≤ n := by
  have h4 := cL2_le (cl := cl) hp
  unfold cL3
  generalize cL2 cl n p = z at h4 ⊢
  exact dgP_le (lo := nI 0) (hi := nI 9) (f := z.2.2) h4
theorem cL4_le {cl : Nat → Int32} {n nT p : Nat} (hp : p ≤ n) : (cL4 cl n nT p).2.1 ≤ n := by
  have h4 := cL3_le (cl := cl) hp
  unfold cL4
  generalize cL3 cl n p = z at h4 ⊢
  exact ctP_le (nT := nT) (f := z.2.2) h4
theorem cl_body {d s o n k p p1 p2 p3 : Nat} {h : XH} {cl : Nat → Int32} {O : Oc} {M : Mo} {v1 v2 v3 f1 f2 f3 : Int32} {Q : Option Value → XH → Prop} (hn : n ≤ 90) (hp : p ≤ n)
    (a1 : kdV (nxt cl n p) = v1) (b1 : kdP cl n p = p1) (g1 : kdF cl n p = f1) (l1 : p1 ≤ n)
    (a2 : dgV cl n (nI 1) (nI 9) p1 f1 = v2) (b2 : dgP cl n (nI 1) (nI 9) p1 f1 = p2) (g2 : dgF cl n (nI 1) (nI 9) p1 f1 = f2) (l2 : p2 ≤ n)
    (a3 : dgV cl n (nI 0) (nI 9) p2 f2 = v3) (b3 : dgP cl n (nI 0) (nI 9) p2 f2 = p3) (g3 : dgF cl n (nI 0) (nI 9) p2 f2 = f3)
    (K : X xT mX5_readLadders (xR (d + 3, 0, 0)) (0, 0) 37 [some (.ref s), some (.ref o), some (.int (nI 1)), some (.int (nI k)), some (.int v1), some (.int v2), some (.int v3), none, none] [] (tpic h s o (Ta.mk cl n p3 f3) O M) Q) :
    X xT mX5_readLadders (xR (d + 3, 0, 0)) (0, 0) 13 [some (.ref s), some (.ref o), some (.int (nI 1)), some (.int (nI k)), none, none, none, none, none] [] (tpic h s o (Ta.mk cl n p 0) O M) Q := by
  refine X.aload iX5_readLadders_13 rfl ?_
  refine X.callVi iX5_readLadders_14 (c_X5_kindLetter (d := d + 1) hn hp) (by first | assumption | exact sT0 _ _ _ | exact sT1 _ _ _ | rfl) rfl rfl (xfit _ _ _) (Nat.le_of_ble_eq_true rfl) ?_
  rw [a1, b1, g1]
  refine X.istore iX5_readLadders_17 rfl rfl ?_
  refine X.aload iX5_readLadders_19 rfl ?_
  refine X.pushi (v := nI 1) iX5_readLadders_20 ?_
  refine X.pushi (v := nI 9) iX5_readLadders_21 ?_
  refine X.callVi iX5_readLadders_23 (c_X5_digit (d := d) hn l1) (by first | assumption | exact sT0 _ _ _ | exact sT1 _ _ _ | rfl) rfl rfl (xfit _ _ _) (Nat.le_of_ble_eq_true rfl) ?_
  rw [a2, b2, g2]
  refine X.istore iX5_readLadders_26 rfl rfl ?_
  refine X.aload iX5_readLadders_28 rfl ?_
  refine X.pushi (v := nI 0) iX5_readLadders_29 ?_
  refine X.pushi (v := nI 9) iX5_readLadders_30 ?_
  refine X.callVi iX5_readLadders_32 (c_X5_digit (d := d) hn l2) (by first | assumption | exact sT0 _ _ _ | exact sT1 _ _ _ | rfl) rfl rfl (xfit _ _ _) (Nat.le_of_ble_eq_true rfl) ?_
  rw [a3, b3, g3]
  refine X.istore iX5_readLadders_35 rfl rfl ?_
  exact K
