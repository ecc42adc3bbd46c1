/-! the class: a Tape, the kinds -/
/-- a kind: which, the place, the fault -/
def kdV (x : Int32) : Int32 := if x = nI 112 then nI 0 else if x = nI 100 then nI 1 else if x = nI 116 then nI 2 else if x = nI 119 then nI 3 else if x = nI 108 then nI 4 else nI 0
def kdB (x : Int32) : Bool := decide (x = nI 112 ∨ x = nI 100 ∨ x = nI 116 ∨ x = nI 119 ∨ x = nI 108)
def kdP (cl : Nat → Int32) (n p : Nat) : Nat := if kdB (nxt cl n p) = true then sk cl n p + 1 else sk cl n p
def kdF (cl : Nat → Int32) (n p : Nat) : Int32 := if kdB (nxt cl n p) = true then 0 else -20 - nI (sk cl n p)
theorem lk_none {x : Int32} (q0 : x.toInt ≠ (112 : Nat)) (q1 : x.toInt ≠ (100 : Nat)) (q2 : x.toInt ≠ (116 : Nat)) (q3 : x.toInt ≠ (119 : Nat)) (q4 : x.toInt ≠ (108 : Nat)) : ((4 : Nat) : Int) + Op.lookupswitch.offset [(100, 64), (108, 100), (112, 52), (116, 76), (119, 88)] 112 x.toInt = ((116 : Nat) : Int) := by
  rw [Op.lookupswitch.offset_cons, if_neg (by omega), Op.lookupswitch.offset_cons, if_neg (by omega), Op.lookupswitch.offset_cons, if_neg (by omega), Op.lookupswitch.offset_cons, if_neg (by omega), Op.lookupswitch.offset_cons, if_neg (by omega), Op.lookupswitch.offset_nil]
  rfl
theorem c_X5_kindLetter {d s n p : Nat} {h : XH} {cl : Nat → Int32} (hn : n ≤ 90) (hp : p ≤ n) : MetH mX5_kindLetter (d + 1, 0, 0) [.ref s] (setT h s (Ta.mk cl n p 0)) (kdV (nxt cl n p)) (setT h s (Ta.mk cl n (kdP cl n p) (kdF cl n p))) := by
  refine MetX.of (by decide) rfl (Nat.le_of_ble_eq_true rfl) ?_
  refine X.aload iX5_kindLetter_0 rfl ?_
  refine X.callVi iX5_kindLetter_1 (c_X5_next (d := d) (V := Ta.mk cl n p 0) hn hp) (sT0 _ _ _) rfl rfl (xfit _ _ _) (Nat.le_of_ble_eq_true rfl) ?_
  refine (show X xT mX5_kindLetter (xR (d + 1, 0, 0)) (0, 0) 4 [some (.ref s)] [.int (nxt cl n p)] (setT h s (Ta.mk cl n (sk cl n p) 0)) _ from ?_)
  rw [kdP, kdF]
  generalize sk cl n p = q
  generalize nxt cl n p = x
  by_cases k0 : x = nI 112
  · subst k0
    refine X.look (tgt := 56) iX5_kindLetter_4 (by decide) ?_
    rw [show kdB (nI 112) = true from by decide, if_pos rfl, if_pos rfl, show kdV (nI 112) = nI 0 from by decide]
    refine X.aload iX5_kindLetter_56 rfl ?_
    refine X.dupa iX5_kindLetter_57 ?_
    refine X.getf iX5_kindLetter_58 (by first | assumption | exact sT0 _ _ _ | exact sT1 _ _ _ | rfl) rfl ?_
    refine X.pushi (v := nI 1) iX5_kindLetter_61 ?_
    refine X.iadd iX5_kindLetter_62 ?_
    refine X.puti iX5_kindLetter_63 (by first | assumption | exact sT0 _ _ _ | exact sT1 _ _ _ | rfl) (Nat.le_of_ble_eq_true rfl) ?_
    rw [nI_add, sT_p]
    refine X.pushi (v := nI 0) iX5_kindLetter_66 ?_
    exact X.iret iX5_kindLetter_67 ⟨rfl, rfl⟩
  by_cases k1 : x = nI 100
  · subst k1
    refine X.look (tgt := 68) iX5_kindLetter_4 (by decide) ?_
    rw [show kdB (nI 100) = true from by decide, if_pos rfl, if_pos rfl, show kdV (nI 100) = nI 1 from by decide]
    refine X.aload iX5_kindLetter_68 rfl ?_
    refine X.dupa iX5_kindLetter_69 ?_
    refine X.getf iX5_kindLetter_70 (by first | assumption | exact sT0 _ _ _ | exact sT1 _ _ _ | rfl) rfl ?_
    refine X.pushi (v := nI 1) iX5_kindLetter_73 ?_
    refine X.iadd iX5_kindLetter_74 ?_
    refine X.puti iX5_kindLetter_75 (by first | assumption | exact sT0 _ _ _ | exact sT1 _ _ _ | rfl) (Nat.le_of_ble_eq_true rfl) ?_
    rw [nI_add, sT_p]
    refine X.pushi (v := nI 1) iX5_kindLetter_78 ?_
    exact X.iret iX5_kindLetter_79 ⟨rfl, rfl⟩
  by_cases k2 : x = nI 116
  · subst k2
    refine X.look (tgt := 80) iX5_kindLetter_4 (by decide) ?_
    rw [show kdB (nI 116) = true from by decide, if_pos rfl, if_pos rfl, show kdV (nI 116) = nI 2 from by decide]
    refine X.aload iX5_kindLetter_80 rfl ?_
    refine X.dupa iX5_kindLetter_81 ?_
    refine X.getf iX5_kindLetter_82 (by first | assumption | exact sT0 _ _ _ | exact sT1 _ _ _ | rfl) rfl ?_
    refine X.pushi (v := nI 1) iX5_kindLetter_85 ?_
    refine X.iadd iX5_kindLetter_86 ?_
    refine X.puti iX5_kindLetter_87 (by first | assumption | exact sT0 _ _ _ | exact sT1 _ _ _ | rfl) (Nat.le_of_ble_eq_true rfl) ?_
    rw [nI_add, sT_p]
    refine X.pushi (v := nI 2) iX5_kindLetter_90 ?_
    exact X.iret iX5_kindLetter_91 ⟨rfl, rfl⟩
  by_cases k3 : x = nI 119
  · subst k3
    refine X.look (tgt := 92) iX5_kindLetter_4 (by decide) ?_
    rw [show kdB (nI 119) = true from by decide, if_pos rfl, if_pos rfl, show kdV (nI 119) = nI 3 from by decide]
    refine X.aload iX5_kindLetter_92 rfl ?_
    refine X.dupa iX5_kindLetter_93 ?_
    refine X.getf iX5_kindLetter_94 (by first | assumption | exact sT0 _ _ _ | exact sT1 _ _ _ | rfl) rfl ?_
    refine X.pushi (v := nI 1) iX5_kindLetter_97 ?_
    refine X.iadd iX5_kindLetter_98 ?_
    refine X.puti iX5_kindLetter_99 (by first | assumption | exact sT0 _ _ _ | exact sT1 _ _ _ | rfl) (Nat.le_of_ble_eq_true rfl) ?_
    rw [nI_add, sT_p]
    refine X.pushi (v := nI 3) iX5_kindLetter_102 ?_
    exact X.iret iX5_kindLetter_103 ⟨rfl, rfl⟩
  by_cases k4 : x = nI 108
  · subst k4
    refine X.look (tgt := 104) iX5_kindLetter_4 (by decide) ?_
    rw [show kdB (nI 108) = true from by decide, if_pos rfl, if_pos rfl, show kdV (nI 108) = nI 4 from by decide]
    refine X.aload iX5_kindLetter_104 rfl ?_
    refine X.dupa iX5_kindLetter_105 ?_
    refine X.getf iX5_kindLetter_106 (by first | assumption | exact sT0 _ _ _ | exact sT1 _ _ _ | rfl) rfl ?_
    refine X.pushi (v := nI 1) iX5_kindLetter_109 ?_
    refine X.iadd iX5_kindLetter_110 ?_
    refine X.puti iX5_kindLetter_111 (by first | assumption | exact sT0 _ _ _ | exact sT1 _ _ _ | rfl) (Nat.le_of_ble_eq_true rfl) ?_
    rw [nI_add, sT_p]
    refine X.pushi (v := nI 4) iX5_kindLetter_114 ?_
    exact X.iret iX5_kindLetter_115 ⟨rfl, rfl⟩
  have q0 := tne 112 (by decide) k0
  have q1 := tne 100 (by decide) k1
  have q2 := tne 116 (by decide) k2
  have q3 := tne 119 (by decide) k3
  have q4 := tne 108 (by decide) k4
  have kb : kdB x = false := decide_eq_false (fun z => by rcases z with z | z | z | z | z <;> contradiction)
  rw [kb, if_neg Bool.false_ne_true, if_neg Bool.false_ne_true, show kdV x = nI 0 from by rw [kdV, if_neg k0, if_neg k1, if_neg k2, if_neg k3, if_neg k4]]
  refine X.look (tgt := 116) iX5_kindLetter_4 (lk_none q0 q1 q2 q3 q4) ?_
  refine X.aload iX5_kindLetter_116 rfl ?_
  refine X.aload iX5_kindLetter_117 rfl ?_
  refine X.getf iX5_kindLetter_118 (by first | assumption | exact sT0 _ _ _ | exact sT1 _ _ _ | rfl) rfl ?_
  refine X.callVv iX5_kindLetter_121 (c_X5_fail0 (d := d)) (by first | assumption | exact sT0 _ _ _ | exact sT1 _ _ _ | rfl) rfl rfl (xfit _ _ _) (Nat.le_of_ble_eq_true rfl) ?_
  refine X.pushi (v := nI 0) iX5_kindLetter_124 ?_
  exact X.iret iX5_kindLetter_125 ⟨rfl, rfl⟩
/-! reading trees: what the loop has come to -/
def cT1 (cl : Nat → Int32) (n p : Nat) : Int32 × Nat × Int32 := (nbW cl n (nI 1) (nI 20) p 0, nbP cl n (nI 1) (nI 20) p 0, nbF cl n (nI 1) (nI 20) p 0)
def cT2 (cl : Nat → Int32) (n p : Nat) : Nat × Int32 := (dmP cl n (nI 58) (cT1 cl n p).2.1 (cT1 cl n p).2.2, dmF cl n (nI 58) (cT1 cl n p).2.1 (cT1 cl n p).2.2)
def cT3 (cl : Nat → Int32) (n p : Nat) : Int32 × Nat × Int32 := (nbW cl n (nI 0) (nI 99) (cT2 cl n p).1 (cT2 cl n p).2, nbP cl n (nI 0) (nI 99) (cT2 cl n p).1 (cT2 cl n p).2, nbF cl n (nI 0) (nI 99) (cT2 cl n p).1 (cT2 cl n p).2)
def cT4 (cl : Nat → Int32) (n p : Nat) : Nat × Int32 := (dmP cl n (nI 64) (cT3 cl n p).2.1 (cT3 cl n p).2.2, dmF cl n (nI 64) (cT3 cl n p).2.1 (cT3 cl n p).2.2)
def cT5 (cl : Nat → Int32) (n p : Nat) : Int32 × Nat × Int32 := (nbW cl n (nI 0) (nI 99) (cT4 cl n p).1 (cT4 cl n p).2, nbP cl n (nI 0) (nI 99) (cT4 cl n p).1 (cT4 cl n p).2, nbF cl n (nI 0) (nI 99) (cT4 cl n p).1 (cT4 cl n p).2)
theorem nbP_le {cl : Nat → Int32} {n p : Nat} {lo hi f : Int32} (hp : p ≤ n) : nbP cl n lo hi p f ≤ n := by
  unfold nbP
  split
  · split
    · rename_i q
      exact (nbrE_le (isD_in q).1).2
    · exact (sk_le hp).2
  · exact hp
theorem psP_le {cl : Nat → Int32} {n p : Nat} {c : Int32} (hc : ¬ -1 = c) (hp : p ≤ n) : psP cl n p c ≤ n := by
  unfold psP
  split
  · rename_i q
    have := nxt_in hc q
    omega
  · exact (sk_le hp).2
theorem dmP_le {cl : Nat → Int32} {n p : Nat} {c f : Int32} (hc : ¬ -1 = c) (hp : p ≤ n) : dmP cl n c p f ≤ n := by
  unfold dmP
  split
  · exact psP_le hc hp
  · exact hp
theorem cT1_le {cl : Nat → Int32} {n p : Nat} (hp : p ≤ n) : (cT1 cl n p).2.1 ≤ n := nbP_le (lo := nI 1) (hi := nI 20) (f := 0) hp
theorem cT2_le {cl : Nat → Int32} {n p : Nat} (hp : p ≤ n) : (cT2 cl n p).1 ≤ n := by
  have h4 := cT1_le (cl := cl) hp
  unfold cT2
  generalize cT1 cl n p = z at h4 ⊢
  exact dmP_le (c := nI 58) (f := z.2.2) (by decide) h4
theorem cT3_le {cl : Nat → Int32} {n p : Nat} (hp : p ≤ n) : (cT3 cl n p).2.1 ≤ n := by
  have h4 := cT2_le (cl := cl) hp
  unfold cT3
  generalize cT2 cl n p = z at h4 ⊢
  exact nbP_le (lo := nI 0) (hi := nI 99) (f := z.2) h4
theorem cT4_le {cl : Nat → Int32} {n p : Nat} (hp : p ≤ n) : (cT4 cl n p).1 ≤ n := by
  have h4 := cT3_le (cl := cl) hp
  unfold cT4
  generalize cT3 cl n p = z at h4 ⊢
  exact dmP_le (c := nI 64) (f := z.2.2) (by decide) h4
theorem cT5_le {cl : Nat → Int32} {n p : Nat} (hp : p ≤ n) : (cT5 cl n p).2.1 ≤ n := by
  have h4 := cT4_le (cl := cl) hp
  unfold cT5
  generalize cT4 cl n p = z at h4 ⊢
  exact nbP_le (lo := nI 0) (hi := nI 99) (f := z.2) h4
