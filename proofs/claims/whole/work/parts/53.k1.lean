/-! the class's own methods: what is told of trees and ladders -/
theorem has_is {n : Nat} (hn : n ≤ 6) (x : Int32) : hasI (nI n) x = decide (nI 0 ≤ x ∧ x ≤ nI n - nI 1) := by
  by_cases q : decide (nI 0 ≤ x ∧ x ≤ nI n - nI 1) = true
  · obtain ⟨t, ht, e⟩ := below hn rfl q
    rw [q, e]
    exact decide_eq_true ⟨nI_pos (by omega), nI_lt ht (by omega)⟩
  · rw [Bool.not_eq_true] at q
    rw [q]
    refine decide_eq_false (fun z => ?_)
    obtain ⟨j, hj, e⟩ := nI_of z.1
    have : j < n := (nI_ltI hj (by omega)).mp (by rw [← e]; exact z.2)
    rw [e, below_of hn this] at q
    exact Bool.noConfusion q
theorem has_T {O : Oc} {nw : Nat → Int32} (h : RO O nw) (x : Int32) : hasI (nI O.nT) x = isT nw x := by
  rw [isT, h.1]
  exact has_is h.2.2.1 x
theorem has_L {O : Oc} {nw : Nat → Int32} (h : RO O nw) (x : Int32) : hasI (nI O.nL) x = isL nw x := by
  rw [isL, h.2.1]
  exact has_is (by have := h.2.2.2.1; omega) x
theorem lnF_bits (nw : Nat → Int32) (x : Int32) : ∀ k, lnF nw x k = bits (fun l => decide (nw (30 + 4 * l) = x)) k
  | 0 => rfl
  | k + 1 => by
    rw [lnF, bits, lnF_bits nw x k]
    by_cases q : nw (30 + 4 * k) = x
    · rw [if_pos q, if_pos (decide_eq_true q)]
    · rw [if_neg q, if_neg (by rw [decide_eq_false q]; decide)]
theorem rcF_bits (nw : Nat → Int32) (t : Nat) (day : Int32) (lean : Bool) : ∀ k, rcF nw t day lean k = bits (fun l => decide (rcI nw l t day = true ∧ (lean = true → nw (30 + 4 * l) = nI t))) k
  | 0 => rfl
  | k + 1 => by
    rw [rcF, bits, rcF_bits nw t day lean k]
    by_cases q : rcI nw k t day = true ∧ (lean = true → nw (30 + 4 * k) = nI t)
    · rw [if_pos q, if_pos (decide_eq_true q)]
    · rw [if_neg q, if_neg (by rw [decide_eq_false q]; decide)]
theorem trF_bits (nw : Nat → Int32) (l : Nat) (day : Int32) : ∀ k, trF nw l day k = bits (fun t => rcI nw l t day) k
  | 0 => rfl
  | k + 1 => by rw [trF, bits, trF_bits nw l day k]
theorem at_ln {O : Oc} {M : Mo} {nw : Nat → Int32} {t : Nat} (h : RO O nw) (h2 : RM O.nT O.nL M nw) (ht : t < 2 ^ 31) : bits (fun l => decide (M.ln l = nI t)) 4 = lnF nw (nI t) O.nL := by
  have hL := h.2.2.2.1
  have e := bits_ext (fun l => decide (nw (30 + 4 * l) = nI t)) (n := O.nL) (4 - O.nL) (by omega)
  rw [show O.nL + (4 - O.nL) = 4 by omega] at e
  rw [lnF_bits, ← e]
  refine bits_cong 4 (fun l hl => ?_)
  by_cases q : l < O.nL
  · rw [decide_eq_true q, Bool.true_and, (h2.2.2.2.2.2.2.1 l q).1]
  · rw [decide_eq_false q, Bool.false_and, h2.2.2.2.2.2.2.2 l (by omega) hl]
    exact decide_eq_false (fun z => nI_n4 ht z.symm)
theorem re_ln {O : Oc} {M : Mo} {nw : Nat → Int32} {t : Nat} {s day : Int32} {lean : Bool} (h : RO O nw) (ht : t < O.nT) (hs : ∀ l, l < O.nL → tst s l = decide (lean = true → nw (30 + 4 * l) = nI t)) : bits (rsB O.hi O.ki O.le t day s) O.nL = rcF nw t day lean O.nL := by
  rw [rcF_bits]
  refine bits_cong _ (fun l hl => ?_)
  obtain ⟨k1, k2, -⟩ := h.2.2.2.2.2.2.2.2.2 l hl
  rw [rsB, hs l hl, (h.2.2.2.2.2.2.2.2.1 t ht).1, k1, k2, Bool.decide_and, Bool.and_comm]
  congr 1
  unfold rcI
  rw [Bool.decide_eq_true]
theorem of_tab {d t : Nat} {w : Int32} {nw : Nat → Int32} {h : XH} {O : Oc} {M : Mo} {V : Hi} {KO : Oc} {KM : Mo} {KV : Hi} {kp : Bool} {T : Ta} {S : Nat → Sh} (H : CI h O M V KO KM KV kp T S) (h1 : RO O nw) (h2 : RM O.nT O.nL M nw) (ht : t < O.nT) : X xT mX6_of (xR (d + 3, 0, 0)) (0, 0) 13 [some (.ref 0), some (.int (nI t)), some (.int w)] [] h (fun v h' => v = some (.int (if isT nw (nI t) = true ∧ inI w (nI 0) (nI 4) = true then (if w < nI 3 then nw (9 + 3 * (nI t).toNatClampNeg + w.toNatClampNeg) else if w = nI 3 then lnF nw (nI t) O.nL else rcF nw (nI t).toNatClampNeg (nw 2) true O.nL) else -1)) ∧ h' = h) := by
  have hT := h1.2.2.1
  have hL := h1.2.2.2.1
  have eT := isT_of (RM.wf h1 h2) ht
  obtain ⟨r1, r2⟩ := h1.2.2.2.2.2.2.2.2.1 t ht
  have r3 := (h2.2.2.2.2.2.1 t ht).1
  have RC := c_X3_reaching (d := d) (t := t) (day := M.day) (s := bits (fun l => decide (M.ln l = nI t)) 4) H.cO h1.ki hL (by omega)
  rw [re_ln (M := M) (lean := true) h1 ht (fun l hl => by rw [show tst (bits (fun l => decide (M.ln l = nI t)) 4) l = decide (M.ln l = nI t) from at_tst (by omega), (h2.2.2.2.2.2.2.1 l hl).1]; simp), h2.1] at RC
  rw [nI_clamp (show t < 2 ^ 31 by omega), eT]
  refine X.iload iX6_of_13 rfl ?_
  by_cases k0 : w = nI 0
  · subst k0
    rw [if_pos ⟨rfl, by decide⟩, if_pos (by decide), nI_clamp (by decide)]
    refine X.tabIn iX6_of_14 0 rfl (by decide) ?_
    refine X.aload iX6_of_48 rfl ?_
    refine X.getf iX6_of_49 (by first | exact H.c0 | exact H.cO.1 | exact H.cO.2.1 | exact H.cO.2.2.1 | exact H.cO.2.2.2.1 | exact H.cO.2.2.2.2.1 | exact H.cO.2.2.2.2.2 | exact H.cM.1 | exact H.cM.2.1 | exact H.cM.2.2 | exact H.cV.1 | exact H.cT.1 | exact H.cT.2) rfl ?_
    refine X.getf iX6_of_52 (by first | exact H.c0 | exact H.cO.1 | exact H.cO.2.1 | exact H.cO.2.2.1 | exact H.cO.2.2.2.1 | exact H.cO.2.2.2.2.1 | exact H.cO.2.2.2.2.2 | exact H.cM.1 | exact H.cM.2.1 | exact H.cM.2.2 | exact H.cV.1 | exact H.cT.1 | exact H.cT.2) rfl ?_
    refine X.iload iX6_of_55 rfl ?_
    refine X.ialdN iX6_of_56 (by first | exact H.c0 | exact H.cO.1 | exact H.cO.2.1 | exact H.cO.2.2.1 | exact H.cO.2.2.2.1 | exact H.cO.2.2.2.2.1 | exact H.cO.2.2.2.2.2 | exact H.cM.1 | exact H.cM.2.1 | exact H.cM.2.2 | exact H.cV.1 | exact H.cT.1 | exact H.cT.2) (by omega) (by decide) ?_
    exact X.iret iX6_of_57 ⟨(by rw [r1]; rfl), rfl⟩
  by_cases k1 : w = nI 1
  · subst k1
    rw [if_pos ⟨rfl, by decide⟩, if_pos (by decide), nI_clamp (by decide)]
    refine X.tabIn iX6_of_14 1 rfl (by decide) ?_
    refine X.aload iX6_of_58 rfl ?_
    refine X.getf iX6_of_59 (by first | exact H.c0 | exact H.cO.1 | exact H.cO.2.1 | exact H.cO.2.2.1 | exact H.cO.2.2.2.1 | exact H.cO.2.2.2.2.1 | exact H.cO.2.2.2.2.2 | exact H.cM.1 | exact H.cM.2.1 | exact H.cM.2.2 | exact H.cV.1 | exact H.cT.1 | exact H.cT.2) rfl ?_
    refine X.getf iX6_of_62 (by first | exact H.c0 | exact H.cO.1 | exact H.cO.2.1 | exact H.cO.2.2.1 | exact H.cO.2.2.2.1 | exact H.cO.2.2.2.2.1 | exact H.cO.2.2.2.2.2 | exact H.cM.1 | exact H.cM.2.1 | exact H.cM.2.2 | exact H.cV.1 | exact H.cT.1 | exact H.cT.2) rfl ?_
    refine X.getf iX6_of_65 (by first | exact H.c0 | exact H.cO.1 | exact H.cO.2.1 | exact H.cO.2.2.1 | exact H.cO.2.2.2.1 | exact H.cO.2.2.2.2.1 | exact H.cO.2.2.2.2.2 | exact H.cM.1 | exact H.cM.2.1 | exact H.cM.2.2 | exact H.cV.1 | exact H.cT.1 | exact H.cT.2) rfl ?_
    refine X.iload iX6_of_68 rfl ?_
    refine X.ialdN iX6_of_69 (by first | exact H.c0 | exact H.cO.1 | exact H.cO.2.1 | exact H.cO.2.2.1 | exact H.cO.2.2.2.1 | exact H.cO.2.2.2.2.1 | exact H.cO.2.2.2.2.2 | exact H.cM.1 | exact H.cM.2.1 | exact H.cM.2.2 | exact H.cV.1 | exact H.cT.1 | exact H.cT.2) (by omega) (by decide) ?_
    exact X.iret iX6_of_70 ⟨(by rw [r3]), rfl⟩
  by_cases k2 : w = nI 2
  · subst k2
    rw [if_pos ⟨rfl, by decide⟩, if_pos (by decide), nI_clamp (by decide)]
    refine X.tabIn iX6_of_14 2 rfl (by decide) ?_
    refine X.aload iX6_of_71 rfl ?_
    refine X.getf iX6_of_72 (by first | exact H.c0 | exact H.cO.1 | exact H.cO.2.1 | exact H.cO.2.2.1 | exact H.cO.2.2.2.1 | exact H.cO.2.2.2.2.1 | exact H.cO.2.2.2.2.2 | exact H.cM.1 | exact H.cM.2.1 | exact H.cM.2.2 | exact H.cV.1 | exact H.cT.1 | exact H.cT.2) rfl ?_
    refine X.getf iX6_of_75 (by first | exact H.c0 | exact H.cO.1 | exact H.cO.2.1 | exact H.cO.2.2.1 | exact H.cO.2.2.2.1 | exact H.cO.2.2.2.2.1 | exact H.cO.2.2.2.2.2 | exact H.cM.1 | exact H.cM.2.1 | exact H.cM.2.2 | exact H.cV.1 | exact H.cT.1 | exact H.cT.2) rfl ?_
    refine X.iload iX6_of_78 rfl ?_
    refine X.ialdN iX6_of_79 (by first | exact H.c0 | exact H.cO.1 | exact H.cO.2.1 | exact H.cO.2.2.1 | exact H.cO.2.2.2.1 | exact H.cO.2.2.2.2.1 | exact H.cO.2.2.2.2.2 | exact H.cM.1 | exact H.cM.2.1 | exact H.cM.2.2 | exact H.cV.1 | exact H.cT.1 | exact H.cT.2) (by omega) (by decide) ?_
    exact X.iret iX6_of_80 ⟨(by rw [r2, show 9 + 3 * t + 2 = 11 + 3 * t by omega]), rfl⟩
  by_cases k3 : w = nI 3
  · subst k3
    rw [if_pos ⟨rfl, by decide⟩, if_neg (by decide), if_pos rfl]
    refine X.tabIn iX6_of_14 3 rfl (by decide) ?_
    refine X.aload iX6_of_81 rfl ?_
    refine X.getf iX6_of_82 (by first | exact H.c0 | exact H.cO.1 | exact H.cO.2.1 | exact H.cO.2.2.1 | exact H.cO.2.2.2.1 | exact H.cO.2.2.2.2.1 | exact H.cO.2.2.2.2.2 | exact H.cM.1 | exact H.cM.2.1 | exact H.cM.2.2 | exact H.cV.1 | exact H.cT.1 | exact H.cT.2) rfl ?_
    refine X.getf iX6_of_85 (by first | exact H.c0 | exact H.cO.1 | exact H.cO.2.1 | exact H.cO.2.2.1 | exact H.cO.2.2.2.1 | exact H.cO.2.2.2.2.1 | exact H.cO.2.2.2.2.2 | exact H.cM.1 | exact H.cM.2.1 | exact H.cM.2.2 | exact H.cV.1 | exact H.cT.1 | exact H.cT.2) rfl ?_
    refine X.iload iX6_of_88 rfl ?_
    refine X.callVi iX6_of_89 (c_X2_leaningAt (d := d + 2) H.cM) (by first | exact H.c0 | exact H.cO.1 | exact H.cO.2.1 | exact H.cO.2.2.1 | exact H.cO.2.2.2.1 | exact H.cO.2.2.2.2.1 | exact H.cO.2.2.2.2.2 | exact H.cM.1 | exact H.cM.2.1 | exact H.cM.2.2 | exact H.cV.1 | exact H.cT.1 | exact H.cT.2) rfl rfl (xfit _ _ _) (Nat.le_of_ble_eq_true rfl) ?_
    exact X.iret iX6_of_92 ⟨(by rw [at_ln h1 h2 (by omega)]), rfl⟩
  by_cases k4 : w = nI 4
  · subst k4
    rw [if_pos ⟨rfl, by decide⟩, if_neg (by decide), if_neg (by decide)]
    refine X.tabIn iX6_of_14 4 rfl (by decide) ?_
    refine X.aload iX6_of_93 rfl ?_
    refine X.getf iX6_of_94 (by first | exact H.c0 | exact H.cO.1 | exact H.cO.2.1 | exact H.cO.2.2.1 | exact H.cO.2.2.2.1 | exact H.cO.2.2.2.2.1 | exact H.cO.2.2.2.2.2 | exact H.cM.1 | exact H.cM.2.1 | exact H.cM.2.2 | exact H.cV.1 | exact H.cT.1 | exact H.cT.2) rfl ?_
    refine X.iload iX6_of_97 rfl ?_
    refine X.aload iX6_of_98 rfl ?_
    refine X.getf iX6_of_99 (by first | exact H.c0 | exact H.cO.1 | exact H.cO.2.1 | exact H.cO.2.2.1 | exact H.cO.2.2.2.1 | exact H.cO.2.2.2.2.1 | exact H.cO.2.2.2.2.2 | exact H.cM.1 | exact H.cM.2.1 | exact H.cM.2.2 | exact H.cV.1 | exact H.cT.1 | exact H.cT.2) rfl ?_
    refine X.getf iX6_of_102 (by first | exact H.c0 | exact H.cO.1 | exact H.cO.2.1 | exact H.cO.2.2.1 | exact H.cO.2.2.2.1 | exact H.cO.2.2.2.2.1 | exact H.cO.2.2.2.2.2 | exact H.cM.1 | exact H.cM.2.1 | exact H.cM.2.2 | exact H.cV.1 | exact H.cT.1 | exact H.cT.2) rfl ?_
    refine X.getf iX6_of_105 (by first | exact H.c0 | exact H.cO.1 | exact H.cO.2.1 | exact H.cO.2.2.1 | exact H.cO.2.2.2.1 | exact H.cO.2.2.2.2.1 | exact H.cO.2.2.2.2.2 | exact H.cM.1 | exact H.cM.2.1 | exact H.cM.2.2 | exact H.cV.1 | exact H.cT.1 | exact H.cT.2) rfl ?_
    rw [h2.1]
    refine X.aload iX6_of_108 rfl ?_
    refine X.getf iX6_of_109 (by first | exact H.c0 | exact H.cO.1 | exact H.cO.2.1 | exact H.cO.2.2.1 | exact H.cO.2.2.2.1 | exact H.cO.2.2.2.2.1 | exact H.cO.2.2.2.2.2 | exact H.cM.1 | exact H.cM.2.1 | exact H.cM.2.2 | exact H.cV.1 | exact H.cT.1 | exact H.cT.2) rfl ?_
    refine X.getf iX6_of_112 (by first | exact H.c0 | exact H.cO.1 | exact H.cO.2.1 | exact H.cO.2.2.1 | exact H.cO.2.2.2.1 | exact H.cO.2.2.2.2.1 | exact H.cO.2.2.2.2.2 | exact H.cM.1 | exact H.cM.2.1 | exact H.cM.2.2 | exact H.cV.1 | exact H.cT.1 | exact H.cT.2) rfl ?_
    refine X.iload iX6_of_115 rfl ?_
    refine X.callVi iX6_of_116 (c_X2_leaningAt (d := d + 2) H.cM) (by first | exact H.c0 | exact H.cO.1 | exact H.cO.2.1 | exact H.cO.2.2.1 | exact H.cO.2.2.2.1 | exact H.cO.2.2.2.2.1 | exact H.cO.2.2.2.2.2 | exact H.cM.1 | exact H.cM.2.1 | exact H.cM.2.2 | exact H.cV.1 | exact H.cT.1 | exact H.cT.2) rfl rfl (xfit _ _ _) (Nat.le_of_ble_eq_true rfl) ?_
    refine X.callVi iX6_of_119 (RC) (by first | exact H.c0 | exact H.cO.1 | exact H.cO.2.1 | exact H.cO.2.2.1 | exact H.cO.2.2.2.1 | exact H.cO.2.2.2.2.1 | exact H.cO.2.2.2.2.2 | exact H.cM.1 | exact H.cM.2.1 | exact H.cM.2.2 | exact H.cV.1 | exact H.cT.1 | exact H.cT.2) rfl rfl (xfit _ _ _) (Nat.le_of_ble_eq_true rfl) ?_
    exact X.iret iX6_of_122 ⟨rfl, rfl⟩
  have q0 := tne 0 (by decide) k0
  have q1 := tne 1 (by decide) k1
  have q2 := tne 2 (by decide) k2
  have q3 := tne 3 (by decide) k3
  have q4 := tne 4 (by decide) k4
  rw [if_neg (fun z => by
    obtain ⟨n, -, hn, en⟩ := inI_nat (by decide) (by decide) z.2
    rw [en, nI_toInt (by omega)] at q0 q1 q2 q3 q4
    omega)]
  refine X.tabOut iX6_of_14 (by show w.toInt < 0 ∨ 0 + 5 ≤ w.toInt; omega) ?_
  refine X.pushi iX6_of_123 ?_
  exact X.iret iX6_of_124 ⟨rfl, rfl⟩
theorem c_X6_of {d : Nat} {t w : Int32} {nw : Nat → Int32} {h : XH} {O : Oc} {M : Mo} {V : Hi} {KO : Oc} {KM : Mo} {KV : Hi} {kp : Bool} {T : Ta} {S : Nat → Sh} (H : CI h O M V KO KM KV kp T S) (h1 : RO O nw) (h2 : RM O.nT O.nL M nw) : MetI mX6_of (d + 3, 0, 0) [.ref 0, .int t, .int w] h (ofF nw O.nL t w) := by
  refine MetX.of (by decide) rfl (Nat.le_of_ble_eq_true rfl) ?_
  rw [ofF]
  have HT := c_X3_hasTree (d := d + 2) (t := t) H.cO
  rw [has_T h1] at HT
  refine X.aload iX6_of_0 rfl ?_
  refine X.getf iX6_of_1 (by first | exact H.c0 | exact H.cO.1 | exact H.cO.2.1 | exact H.cO.2.2.1 | exact H.cO.2.2.2.1 | exact H.cO.2.2.2.2.1 | exact H.cO.2.2.2.2.2 | exact H.cM.1 | exact H.cM.2.1 | exact H.cM.2.2 | exact H.cV.1 | exact H.cT.1 | exact H.cT.2) rfl ?_
  refine X.iload iX6_of_4 rfl ?_
  refine X.callVi iX6_of_5 (HT) (by first | exact H.c0 | exact H.cO.1 | exact H.cO.2.1 | exact H.cO.2.2.1 | exact H.cO.2.2.2.1 | exact H.cO.2.2.2.2.1 | exact H.cO.2.2.2.2.2 | exact H.cM.1 | exact H.cM.2.1 | exact H.cM.2.2 | exact H.cV.1 | exact H.cT.1 | exact H.cT.2) rfl rfl (xfit _ _ _) (Nat.le_of_ble_eq_true rfl) ?_
  refine X.ifneB iX6_of_8 (fun c8 => ?_) (fun c8 => ?_)
  · obtain ⟨t', ht, rfl⟩ := isT_nat (RM.wf h1 h2) c8
    exact of_tab H h1 h2 ht
  · refine X.pushi iX6_of_11 ?_
    exact X.iret iX6_of_12 ⟨(by rw [if_neg (fun q => Bool.noConfusion (c8.symm.trans q.1))]), rfl⟩
