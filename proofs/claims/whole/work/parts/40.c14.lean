/-! the class: ladders of a text -/
/-- perhaps a tree: which, the place, the fault -/
def ctV (cl : Nat → Int32) (n nT p : Nat) (f : Int32) : Int32 := if f = 0 then (if nxt cl n p = nI 61 then dgV cl n (nI 0) (nI nT - nI 1) (psP cl n p (nI 61)) 0 else -4) else -4
def ctP (cl : Nat → Int32) (n nT p : Nat) (f : Int32) : Nat := if f = 0 then (if nxt cl n p = nI 61 then dgP cl n (nI 0) (nI nT - nI 1) (psP cl n p (nI 61)) 0 else psP cl n p (nI 61)) else p
def ctF (cl : Nat → Int32) (n nT p : Nat) (f : Int32) : Int32 := if f = 0 then (if nxt cl n p = nI 61 then dgF cl n (nI 0) (nI nT - nI 1) (psP cl n p (nI 61)) 0 else 0) else f
theorem cl_tree {d s o n k p : Nat} {h : XH} {cl : Nat → Int32} {O : Oc} {M : Mo} {x4 x5 x6 f : Int32} {Q : Option Value → XH → Prop} (hn : n ≤ 90) (hp : p ≤ n) (q : s + 1 < o ∨ o + 8 < s)
    (K : ∀ x7, X xT mX5_readLadders (xR (d + 3, 0, 0)) (0, 0) 83 [some (.ref s), some (.ref o), some (.int (nI 1)), some (.int (nI k)), some (.int x4), some (.int x5), some (.int x6), some (.int x7), some (.int (ctV cl n O.nT p f))] [] (tpic h s o (Ta.mk cl n (ctP cl n O.nT p f) (ctF cl n O.nT p f)) O M) Q) :
    X xT mX5_readLadders (xR (d + 3, 0, 0)) (0, 0) 37 [some (.ref s), some (.ref o), some (.int (nI 1)), some (.int (nI k)), some (.int x4), some (.int x5), some (.int x6), none, none] [] (tpic h s o (Ta.mk cl n p f) O M) Q := by
  have zo : ∀ V, tpic h s o V O M o = some (.inr (3, ocS o O)) := fun V => by
    show setT (setA h o O M) s _ o = _
    rw [sTA _ _ _ _ q]
    exact (sA_O _ o O M).1
  by_cases e : f = 0
  · subst e
    rw [ctV, ctP, ctF, if_pos rfl, if_pos rfl, if_pos rfl] at K
    by_cases e2 : nxt cl n p = nI 61
    · rw [if_pos e2, if_pos e2, if_pos e2] at K
      refine X.aload iX5_readLadders_37 rfl ?_
      refine X.getf iX5_readLadders_38 (by first | assumption | exact sT0 _ _ _ | exact sT1 _ _ _ | rfl) rfl ?_
      refine X.ifne iX5_readLadders_41 (fun c41 => ?_) (fun c41 => ?_)
      · exact absurd rfl c41
      · refine X.aload iX5_readLadders_44 rfl ?_
        refine X.pushi (v := nI 61) iX5_readLadders_45 ?_
        refine X.callVi iX5_readLadders_47 (c_X5_passes (d := d + 1) (V := Ta.mk cl n p 0) (c := nI 61) hn hp) (by first | assumption | exact sT0 _ _ _ | exact sT1 _ _ _ | rfl) rfl rfl (xfit _ _ _) (Nat.le_of_ble_eq_true rfl) ?_
        refine X.ifeqB iX5_readLadders_50 (fun c50 => ?_) (fun c50 => ?_)
        · exact absurd e2 (of_decide_eq_false c50)
        · refine X.pushi (v := nI 1) iX5_readLadders_53 ?_
          refine X.goto iX5_readLadders_54 ?_
          refine X.istore iX5_readLadders_58 rfl rfl ?_
          refine X.iload iX5_readLadders_60 rfl ?_
          refine X.ifeq iX5_readLadders_62 (fun c62 => ?_) (fun c62 => ?_)
          · exact absurd c62 (by decide)
          · refine X.aload iX5_readLadders_65 rfl ?_
            refine X.pushi (v := nI 0) iX5_readLadders_66 ?_
            refine X.aload iX5_readLadders_67 rfl ?_
            refine X.getf iX5_readLadders_68 (zo _) rfl ?_
            refine X.pushi (v := nI 1) iX5_readLadders_71 ?_
            refine X.isub iX5_readLadders_72 ?_
            refine X.callVi iX5_readLadders_73 (c_X5_digit (d := d) (p := psP cl n p (nI 61)) (f := 0) hn (psP_le (by decide) hp)) (by first | assumption | exact sT0 _ _ _ | exact sT1 _ _ _ | rfl) rfl rfl (xfit _ _ _) (Nat.le_of_ble_eq_true rfl) ?_
            refine X.goto iX5_readLadders_76 ?_
            refine X.istore iX5_readLadders_81 rfl rfl ?_
            exact K _
    · rw [if_neg e2, if_neg e2, if_neg e2] at K
      refine X.aload iX5_readLadders_37 rfl ?_
      refine X.getf iX5_readLadders_38 (by first | assumption | exact sT0 _ _ _ | exact sT1 _ _ _ | rfl) rfl ?_
      refine X.ifne iX5_readLadders_41 (fun c41 => ?_) (fun c41 => ?_)
      · exact absurd rfl c41
      · refine X.aload iX5_readLadders_44 rfl ?_
        refine X.pushi (v := nI 61) iX5_readLadders_45 ?_
        refine X.callVi iX5_readLadders_47 (c_X5_passes (d := d + 1) (V := Ta.mk cl n p 0) (c := nI 61) hn hp) (by first | assumption | exact sT0 _ _ _ | exact sT1 _ _ _ | rfl) rfl rfl (xfit _ _ _) (Nat.le_of_ble_eq_true rfl) ?_
        refine X.ifeqB iX5_readLadders_50 (fun c50 => ?_) (fun c50 => ?_)
        · refine X.pushi (v := nI 0) iX5_readLadders_57 ?_
          refine X.istore iX5_readLadders_58 rfl rfl ?_
          refine X.iload iX5_readLadders_60 rfl ?_
          refine X.ifeq iX5_readLadders_62 (fun c62 => ?_) (fun c62 => ?_)
          · refine X.pushi iX5_readLadders_79 ?_
            refine X.istore iX5_readLadders_81 rfl rfl ?_
            exact K _
          · exact absurd rfl c62
        · exact absurd (of_decide_eq_true c50) e2
  · rw [ctV, ctP, ctF, if_neg e, if_neg e, if_neg e] at K
    refine X.aload iX5_readLadders_37 rfl ?_
    refine X.getf iX5_readLadders_38 (by first | assumption | exact sT0 _ _ _ | exact sT1 _ _ _ | rfl) rfl ?_
    refine X.ifne iX5_readLadders_41 (fun c41 => ?_) (fun c41 => ?_)
    · refine X.pushi (v := nI 0) iX5_readLadders_57 ?_
      refine X.istore iX5_readLadders_58 rfl rfl ?_
      refine X.iload iX5_readLadders_60 rfl ?_
      refine X.ifeq iX5_readLadders_62 (fun c62 => ?_) (fun c62 => ?_)
      · refine X.pushi iX5_readLadders_79 ?_
        refine X.istore iX5_readLadders_81 rfl rfl ?_
        exact K _
      · exact absurd rfl c62
    · exact absurd c41 e
