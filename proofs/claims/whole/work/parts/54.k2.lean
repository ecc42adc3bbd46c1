/-! the class's own methods: what is told of trees and ladders, the rest -/
theorem at_tab {d l : Nat} {w : Int32} {nw : Nat → Int32} {h : XH} {O : Oc} {M : Mo} {V : Hi} {KO : Oc} {KM : Mo} {KV : Hi} {kp : Bool} {T : Ta} {S : Nat → Sh} (H : CI h O M V KO KM KV kp T S) (h1 : RO O nw) (h2 : RM O.nT O.nL M nw) (hl : l < O.nL) : X xT mX6_at (xR (d + 4, 0, 0)) (0, 0) 13 [some (.ref 0), some (.int (nI l)), some (.int w)] [] h (fun v h' => v = some (.int (if isL nw (nI l) = true ∧ inI w (nI 0) (nI 5) = true then (if w < nI 4 then nw (27 + 4 * (nI l).toNatClampNeg + w.toNatClampNeg) else if w = nI 4 then reachI (nw (27 + 4 * (nI l).toNatClampNeg + 0)) (nw (27 + 4 * (nI l).toNatClampNeg + 1)) (nw 2) else trF nw (nI l).toNatClampNeg (nw 2) O.nT) else -1)) ∧ h' = h) := by
  have hT := h1.2.2.1
  have hL := h1.2.2.2.1
  have eL := isL_of (RM.wf h1 h2) hl
  obtain ⟨r1, r2, r3, -⟩ := h1.2.2.2.2.2.2.2.2.2 l hl
  have r4 := (h2.2.2.2.2.2.2.1 l hl).1
  have RC := c_X3_reach (d := d + 1) (l := l) (day := M.day) H.cO h1.ki hl hL
  have TR := c_X3_treesInReach (d := d) (l := l) (day := M.day) H.cO h1.ki hl hL hT
  rw [bits_cong (c := fun t => rcI nw l t M.day) O.nT (fun t ht => by rw [(h1.2.2.2.2.2.2.2.2.1 t ht).1, r1, r2]; rfl), ← trF_bits, h2.1] at TR
  rw [r1, r2, h2.1] at RC
  rw [nI_clamp (show l < 2 ^ 31 by omega), eL]
  refine X.iload iX6_at_13 rfl ?_
  by_cases k0 : w = nI 0
  · subst k0
    rw [if_pos ⟨rfl, by decide⟩, if_pos (by decide), nI_clamp (by decide)]
    refine X.tabIn iX6_at_14 0 rfl (by decide) ?_
    refine X.aload iX6_at_52 rfl ?_
    refine X.getf iX6_at_53 (by first | exact H.c0 | exact H.cO.1 | exact H.cO.2.1 | exact H.cO.2.2.1 | exact H.cO.2.2.2.1 | exact H.cO.2.2.2.2.1 | exact H.cO.2.2.2.2.2 | exact H.cM.1 | exact H.cM.2.1 | exact H.cM.2.2 | exact H.cV.1 | exact H.cT.1 | exact H.cT.2) rfl ?_
    refine X.getf iX6_at_56 (by first | exact H.c0 | exact H.cO.1 | exact H.cO.2.1 | exact H.cO.2.2.1 | exact H.cO.2.2.2.1 | exact H.cO.2.2.2.2.1 | exact H.cO.2.2.2.2.2 | exact H.cM.1 | exact H.cM.2.1 | exact H.cM.2.2 | exact H.cV.1 | exact H.cT.1 | exact H.cT.2) rfl ?_
    refine X.iload iX6_at_59 rfl ?_
    refine X.ialdN iX6_at_60 (by first | exact H.c0 | exact H.cO.1 | exact H.cO.2.1 | exact H.cO.2.2.1 | exact H.cO.2.2.2.1 | exact H.cO.2.2.2.2.1 | exact H.cO.2.2.2.2.2 | exact H.cM.1 | exact H.cM.2.1 | exact H.cM.2.2 | exact H.cV.1 | exact H.cT.1 | exact H.cT.2) (by omega) (by decide) ?_
    exact X.iret iX6_at_61 ⟨(by rw [r1]; rfl), rfl⟩
  by_cases k1 : w = nI 1
  · subst k1
    rw [if_pos ⟨rfl, by decide⟩, if_pos (by decide), nI_clamp (by decide)]
    refine X.tabIn iX6_at_14 1 rfl (by decide) ?_
    refine X.aload iX6_at_62 rfl ?_
    refine X.getf iX6_at_63 (by first | exact H.c0 | exact H.cO.1 | exact H.cO.2.1 | exact H.cO.2.2.1 | exact H.cO.2.2.2.1 | exact H.cO.2.2.2.2.1 | exact H.cO.2.2.2.2.2 | exact H.cM.1 | exact H.cM.2.1 | exact H.cM.2.2 | exact H.cV.1 | exact H.cT.1 | exact H.cT.2) rfl ?_
    refine X.getf iX6_at_66 (by first | exact H.c0 | exact H.cO.1 | exact H.cO.2.1 | exact H.cO.2.2.1 | exact H.cO.2.2.2.1 | exact H.cO.2.2.2.2.1 | exact H.cO.2.2.2.2.2 | exact H.cM.1 | exact H.cM.2.1 | exact H.cM.2.2 | exact H.cV.1 | exact H.cT.1 | exact H.cT.2) rfl ?_
    refine X.iload iX6_at_69 rfl ?_
    refine X.ialdN iX6_at_70 (by first | exact H.c0 | exact H.cO.1 | exact H.cO.2.1 | exact H.cO.2.2.1 | exact H.cO.2.2.2.1 | exact H.cO.2.2.2.2.1 | exact H.cO.2.2.2.2.2 | exact H.cM.1 | exact H.cM.2.1 | exact H.cM.2.2 | exact H.cV.1 | exact H.cT.1 | exact H.cT.2) (by omega) (by decide) ?_
    exact X.iret iX6_at_71 ⟨(by rw [r2, show 27 + 4 * l + 1 = 28 + 4 * l by omega]), rfl⟩
  by_cases k2 : w = nI 2
  · subst k2
    rw [if_pos ⟨rfl, by decide⟩, if_pos (by decide), nI_clamp (by decide)]
    refine X.tabIn iX6_at_14 2 rfl (by decide) ?_
    refine X.aload iX6_at_72 rfl ?_
    refine X.getf iX6_at_73 (by first | exact H.c0 | exact H.cO.1 | exact H.cO.2.1 | exact H.cO.2.2.1 | exact H.cO.2.2.2.1 | exact H.cO.2.2.2.2.1 | exact H.cO.2.2.2.2.2 | exact H.cM.1 | exact H.cM.2.1 | exact H.cM.2.2 | exact H.cV.1 | exact H.cT.1 | exact H.cT.2) rfl ?_
    refine X.getf iX6_at_76 (by first | exact H.c0 | exact H.cO.1 | exact H.cO.2.1 | exact H.cO.2.2.1 | exact H.cO.2.2.2.1 | exact H.cO.2.2.2.2.1 | exact H.cO.2.2.2.2.2 | exact H.cM.1 | exact H.cM.2.1 | exact H.cM.2.2 | exact H.cV.1 | exact H.cT.1 | exact H.cT.2) rfl ?_
    refine X.iload iX6_at_79 rfl ?_
    refine X.ialdN iX6_at_80 (by first | exact H.c0 | exact H.cO.1 | exact H.cO.2.1 | exact H.cO.2.2.1 | exact H.cO.2.2.2.1 | exact H.cO.2.2.2.2.1 | exact H.cO.2.2.2.2.2 | exact H.cM.1 | exact H.cM.2.1 | exact H.cM.2.2 | exact H.cV.1 | exact H.cT.1 | exact H.cT.2) (by omega) (by decide) ?_
    exact X.iret iX6_at_81 ⟨(by rw [r3]), rfl⟩
  by_cases k3 : w = nI 3
  · subst k3
    rw [if_pos ⟨rfl, by decide⟩, if_pos (by decide), nI_clamp (by decide)]
    refine X.tabIn iX6_at_14 3 rfl (by decide) ?_
    refine X.aload iX6_at_82 rfl ?_
    refine X.getf iX6_at_83 (by first | exact H.c0 | exact H.cO.1 | exact H.cO.2.1 | exact H.cO.2.2.1 | exact H.cO.2.2.2.1 | exact H.cO.2.2.2.2.1 | exact H.cO.2.2.2.2.2 | exact H.cM.1 | exact H.cM.2.1 | exact H.cM.2.2 | exact H.cV.1 | exact H.cT.1 | exact H.cT.2) rfl ?_
    refine X.getf iX6_at_86 (by first | exact H.c0 | exact H.cO.1 | exact H.cO.2.1 | exact H.cO.2.2.1 | exact H.cO.2.2.2.1 | exact H.cO.2.2.2.2.1 | exact H.cO.2.2.2.2.2 | exact H.cM.1 | exact H.cM.2.1 | exact H.cM.2.2 | exact H.cV.1 | exact H.cT.1 | exact H.cT.2) rfl ?_
    refine X.getf iX6_at_89 (by first | exact H.c0 | exact H.cO.1 | exact H.cO.2.1 | exact H.cO.2.2.1 | exact H.cO.2.2.2.1 | exact H.cO.2.2.2.2.1 | exact H.cO.2.2.2.2.2 | exact H.cM.1 | exact H.cM.2.1 | exact H.cM.2.2 | exact H.cV.1 | exact H.cT.1 | exact H.cT.2) rfl ?_
    refine X.iload iX6_at_92 rfl ?_
    refine X.ialdN iX6_at_93 (by first | exact H.c0 | exact H.cO.1 | exact H.cO.2.1 | exact H.cO.2.2.1 | exact H.cO.2.2.2.1 | exact H.cO.2.2.2.2.1 | exact H.cO.2.2.2.2.2 | exact H.cM.1 | exact H.cM.2.1 | exact H.cM.2.2 | exact H.cV.1 | exact H.cT.1 | exact H.cT.2) (by omega) (by decide) ?_
    exact X.iret iX6_at_94 ⟨(by rw [r4, show 27 + 4 * l + 3 = 30 + 4 * l by omega]), rfl⟩
  by_cases k4 : w = nI 4
  · subst k4
    rw [if_pos ⟨rfl, by decide⟩, if_neg (by decide), if_pos rfl]
    refine X.tabIn iX6_at_14 4 rfl (by decide) ?_
    refine X.aload iX6_at_95 rfl ?_
    refine X.getf iX6_at_96 (by first | exact H.c0 | exact H.cO.1 | exact H.cO.2.1 | exact H.cO.2.2.1 | exact H.cO.2.2.2.1 | exact H.cO.2.2.2.2.1 | exact H.cO.2.2.2.2.2 | exact H.cM.1 | exact H.cM.2.1 | exact H.cM.2.2 | exact H.cV.1 | exact H.cT.1 | exact H.cT.2) rfl ?_
    refine X.iload iX6_at_99 rfl ?_
    refine X.aload iX6_at_100 rfl ?_
    refine X.getf iX6_at_101 (by first | exact H.c0 | exact H.cO.1 | exact H.cO.2.1 | exact H.cO.2.2.1 | exact H.cO.2.2.2.1 | exact H.cO.2.2.2.2.1 | exact H.cO.2.2.2.2.2 | exact H.cM.1 | exact H.cM.2.1 | exact H.cM.2.2 | exact H.cV.1 | exact H.cT.1 | exact H.cT.2) rfl ?_
    refine X.getf iX6_at_104 (by first | exact H.c0 | exact H.cO.1 | exact H.cO.2.1 | exact H.cO.2.2.1 | exact H.cO.2.2.2.1 | exact H.cO.2.2.2.2.1 | exact H.cO.2.2.2.2.2 | exact H.cM.1 | exact H.cM.2.1 | exact H.cM.2.2 | exact H.cV.1 | exact H.cT.1 | exact H.cT.2) rfl ?_
    refine X.getf iX6_at_107 (by first | exact H.c0 | exact H.cO.1 | exact H.cO.2.1 | exact H.cO.2.2.1 | exact H.cO.2.2.2.1 | exact H.cO.2.2.2.2.1 | exact H.cO.2.2.2.2.2 | exact H.cM.1 | exact H.cM.2.1 | exact H.cM.2.2 | exact H.cV.1 | exact H.cT.1 | exact H.cT.2) rfl ?_
    rw [h2.1]
    refine X.callVi iX6_at_110 (RC) (by first | exact H.c0 | exact H.cO.1 | exact H.cO.2.1 | exact H.cO.2.2.1 | exact H.cO.2.2.2.1 | exact H.cO.2.2.2.2.1 | exact H.cO.2.2.2.2.2 | exact H.cM.1 | exact H.cM.2.1 | exact H.cM.2.2 | exact H.cV.1 | exact H.cT.1 | exact H.cT.2) rfl rfl (xfit _ _ _) (Nat.le_of_ble_eq_true rfl) ?_
    exact X.iret iX6_at_113 ⟨(by rw [show 27 + 4 * l + 1 = 28 + 4 * l by omega]; rfl), rfl⟩
  by_cases k5 : w = nI 5
  · subst k5
    rw [if_pos ⟨rfl, by decide⟩, if_neg (by decide), if_neg (by decide)]
    refine X.tabIn iX6_at_14 5 rfl (by decide) ?_
    refine X.aload iX6_at_114 rfl ?_
    refine X.getf iX6_at_115 (by first | exact H.c0 | exact H.cO.1 | exact H.cO.2.1 | exact H.cO.2.2.1 | exact H.cO.2.2.2.1 | exact H.cO.2.2.2.2.1 | exact H.cO.2.2.2.2.2 | exact H.cM.1 | exact H.cM.2.1 | exact H.cM.2.2 | exact H.cV.1 | exact H.cT.1 | exact H.cT.2) rfl ?_
    refine X.iload iX6_at_118 rfl ?_
    refine X.aload iX6_at_119 rfl ?_
    refine X.getf iX6_at_120 (by first | exact H.c0 | exact H.cO.1 | exact H.cO.2.1 | exact H.cO.2.2.1 | exact H.cO.2.2.2.1 | exact H.cO.2.2.2.2.1 | exact H.cO.2.2.2.2.2 | exact H.cM.1 | exact H.cM.2.1 | exact H.cM.2.2 | exact H.cV.1 | exact H.cT.1 | exact H.cT.2) rfl ?_
    refine X.getf iX6_at_123 (by first | exact H.c0 | exact H.cO.1 | exact H.cO.2.1 | exact H.cO.2.2.1 | exact H.cO.2.2.2.1 | exact H.cO.2.2.2.2.1 | exact H.cO.2.2.2.2.2 | exact H.cM.1 | exact H.cM.2.1 | exact H.cM.2.2 | exact H.cV.1 | exact H.cT.1 | exact H.cT.2) rfl ?_
    refine X.getf iX6_at_126 (by first | exact H.c0 | exact H.cO.1 | exact H.cO.2.1 | exact H.cO.2.2.1 | exact H.cO.2.2.2.1 | exact H.cO.2.2.2.2.1 | exact H.cO.2.2.2.2.2 | exact H.cM.1 | exact H.cM.2.1 | exact H.cM.2.2 | exact H.cV.1 | exact H.cT.1 | exact H.cT.2) rfl ?_
    rw [h2.1]
    refine X.callVi iX6_at_129 (TR) (by first | exact H.c0 | exact H.cO.1 | exact H.cO.2.1 | exact H.cO.2.2.1 | exact H.cO.2.2.2.1 | exact H.cO.2.2.2.2.1 | exact H.cO.2.2.2.2.2 | exact H.cM.1 | exact H.cM.2.1 | exact H.cM.2.2 | exact H.cV.1 | exact H.cT.1 | exact H.cT.2) rfl rfl (xfit _ _ _) (Nat.le_of_ble_eq_true rfl) ?_
    exact X.iret iX6_at_132 ⟨rfl, rfl⟩
  have q0 := tne 0 (by decide) k0
  have q1 := tne 1 (by decide) k1
  have q2 := tne 2 (by decide) k2
  have q3 := tne 3 (by decide) k3
  have q4 := tne 4 (by decide) k4
  have q5 := tne 5 (by decide) k5
  rw [if_neg (fun z => by
    obtain ⟨n, -, hn, en⟩ := inI_nat (by decide) (by decide) z.2
    rw [en, nI_toInt (by omega)] at q0 q1 q2 q3 q4 q5
    omega)]
  refine X.tabOut iX6_at_14 (by show w.toInt < 0 ∨ 0 + 6 ≤ w.toInt; omega) ?_
  refine X.pushi iX6_at_133 ?_
  exact X.iret iX6_at_134 ⟨rfl, rfl⟩
theorem c_X6_at {d : Nat} {l w : Int32} {nw : Nat → Int32} {h : XH} {O : Oc} {M : Mo} {V : Hi} {KO : Oc} {KM : Mo} {KV : Hi} {kp : Bool} {T : Ta} {S : Nat → Sh} (H : CI h O M V KO KM KV kp T S) (h1 : RO O nw) (h2 : RM O.nT O.nL M nw) : MetI mX6_at (d + 4, 0, 0) [.ref 0, .int l, .int w] h (atF nw O.nT l w) := by
  refine MetX.of (by decide) rfl (Nat.le_of_ble_eq_true rfl) ?_
  rw [atF]
  have HT := c_X3_hasLadder (d := d + 3) (t := l) H.cO
  rw [has_L h1] at HT
  refine X.aload iX6_at_0 rfl ?_
  refine X.getf iX6_at_1 (by first | exact H.c0 | exact H.cO.1 | exact H.cO.2.1 | exact H.cO.2.2.1 | exact H.cO.2.2.2.1 | exact H.cO.2.2.2.2.1 | exact H.cO.2.2.2.2.2 | exact H.cM.1 | exact H.cM.2.1 | exact H.cM.2.2 | exact H.cV.1 | exact H.cT.1 | exact H.cT.2) rfl ?_
  refine X.iload iX6_at_4 rfl ?_
  refine X.callVi iX6_at_5 (HT) (by first | exact H.c0 | exact H.cO.1 | exact H.cO.2.1 | exact H.cO.2.2.1 | exact H.cO.2.2.2.1 | exact H.cO.2.2.2.2.1 | exact H.cO.2.2.2.2.2 | exact H.cM.1 | exact H.cM.2.1 | exact H.cM.2.2 | exact H.cV.1 | exact H.cT.1 | exact H.cT.2) rfl rfl (xfit _ _ _) (Nat.le_of_ble_eq_true rfl) ?_
  refine X.ifneB iX6_at_8 (fun c8 => ?_) (fun c8 => ?_)
  · obtain ⟨l', hl, rfl⟩ := isL_nat (RM.wf h1 h2) c8
    exact at_tab H h1 h2 hl
  · refine X.pushi iX6_at_11 ?_
    exact X.iret iX6_at_12 ⟨(by rw [if_neg (fun q => Bool.noConfusion (c8.symm.trans q.1))]), rfl⟩
theorem fsum_F {nT nL : Nat} {M : Mo} {nw : Nat → Int32} (h2 : RM nT nL M nw) : ∀ k, k ≤ nT → fsum M.fr k = sumF nw k
  | 0, _ => rfl
  | k + 1, hk => by rw [fsum, sumF, fsum_F h2 k (by omega), (h2.2.2.2.2.2.1 k (by omega)).1]
theorem c_X6_count {d : Nat} {w un : Int32} {nw : Nat → Int32} {h : XH} {O : Oc} {M : Mo} {V : Hi} {KO : Oc} {KM : Mo} {KV : Hi} {kp : Bool} {T : Ta} {S : Nat → Sh} (H : CI h O M V KO KM KV kp T S) (h1 : RO O nw) (h2 : RM O.nT O.nL M nw) (eu : un = nI V.known) : MetI mX6_count (d + 1, 0, 0) [.ref 0, .int w] h (countF nw O.nT un w) := by
  have hT := h1.2.2.1
  have FA := c_X3_fruitOfAll (d := d) H.cO H.cM hT
  rw [fsum_F h2 O.nT (Nat.le_refl _)] at FA
  refine MetX.of (by decide) rfl (Nat.le_of_ble_eq_true rfl) ?_
  rw [countF]
  refine X.iload iX6_count_0 rfl ?_
  by_cases k0 : w = nI 0
  · subst k0
    rw [if_pos (by decide), nI_clamp (by decide)]
    refine X.tabIn iX6_count_1 0 rfl (by decide) ?_
    refine X.aload iX6_count_56 rfl ?_
    refine X.getf iX6_count_57 (by first | exact H.c0 | exact H.cO.1 | exact H.cO.2.1 | exact H.cO.2.2.1 | exact H.cO.2.2.2.1 | exact H.cO.2.2.2.2.1 | exact H.cO.2.2.2.2.2 | exact H.cM.1 | exact H.cM.2.1 | exact H.cM.2.2 | exact H.cV.1 | exact H.cT.1 | exact H.cT.2) rfl ?_
    refine X.getf iX6_count_60 (by first | exact H.c0 | exact H.cO.1 | exact H.cO.2.1 | exact H.cO.2.2.1 | exact H.cO.2.2.2.1 | exact H.cO.2.2.2.2.1 | exact H.cO.2.2.2.2.2 | exact H.cM.1 | exact H.cM.2.1 | exact H.cM.2.2 | exact H.cV.1 | exact H.cT.1 | exact H.cT.2) rfl ?_
    exact X.iret iX6_count_63 ⟨(by rw [h1.1]), rfl⟩
  by_cases k1 : w = nI 1
  · subst k1
    rw [if_pos (by decide), nI_clamp (by decide)]
    refine X.tabIn iX6_count_1 1 rfl (by decide) ?_
    refine X.aload iX6_count_64 rfl ?_
    refine X.getf iX6_count_65 (by first | exact H.c0 | exact H.cO.1 | exact H.cO.2.1 | exact H.cO.2.2.1 | exact H.cO.2.2.2.1 | exact H.cO.2.2.2.2.1 | exact H.cO.2.2.2.2.2 | exact H.cM.1 | exact H.cM.2.1 | exact H.cM.2.2 | exact H.cV.1 | exact H.cT.1 | exact H.cT.2) rfl ?_
    refine X.getf iX6_count_68 (by first | exact H.c0 | exact H.cO.1 | exact H.cO.2.1 | exact H.cO.2.2.1 | exact H.cO.2.2.2.1 | exact H.cO.2.2.2.2.1 | exact H.cO.2.2.2.2.2 | exact H.cM.1 | exact H.cM.2.1 | exact H.cM.2.2 | exact H.cV.1 | exact H.cT.1 | exact H.cT.2) rfl ?_
    exact X.iret iX6_count_71 ⟨(by rw [h1.2.1]), rfl⟩
  by_cases k2 : w = nI 2
  · subst k2
    rw [if_pos (by decide), nI_clamp (by decide)]
    refine X.tabIn iX6_count_1 2 rfl (by decide) ?_
    refine X.aload iX6_count_72 rfl ?_
    refine X.getf iX6_count_73 (by first | exact H.c0 | exact H.cO.1 | exact H.cO.2.1 | exact H.cO.2.2.1 | exact H.cO.2.2.2.1 | exact H.cO.2.2.2.2.1 | exact H.cO.2.2.2.2.2 | exact H.cM.1 | exact H.cM.2.1 | exact H.cM.2.2 | exact H.cV.1 | exact H.cT.1 | exact H.cT.2) rfl ?_
    refine X.getf iX6_count_76 (by first | exact H.c0 | exact H.cO.1 | exact H.cO.2.1 | exact H.cO.2.2.1 | exact H.cO.2.2.2.1 | exact H.cO.2.2.2.2.1 | exact H.cO.2.2.2.2.2 | exact H.cM.1 | exact H.cM.2.1 | exact H.cM.2.2 | exact H.cV.1 | exact H.cT.1 | exact H.cT.2) rfl ?_
    refine X.getf iX6_count_79 (by first | exact H.c0 | exact H.cO.1 | exact H.cO.2.1 | exact H.cO.2.2.1 | exact H.cO.2.2.2.1 | exact H.cO.2.2.2.2.1 | exact H.cO.2.2.2.2.2 | exact H.cM.1 | exact H.cM.2.1 | exact H.cM.2.2 | exact H.cV.1 | exact H.cT.1 | exact H.cT.2) rfl ?_
    exact X.iret iX6_count_82 ⟨(by rw [h2.1]), rfl⟩
  by_cases k3 : w = nI 3
  · subst k3
    rw [if_pos (by decide), nI_clamp (by decide)]
    refine X.tabIn iX6_count_1 3 rfl (by decide) ?_
    refine X.aload iX6_count_83 rfl ?_
    refine X.getf iX6_count_84 (by first | exact H.c0 | exact H.cO.1 | exact H.cO.2.1 | exact H.cO.2.2.1 | exact H.cO.2.2.2.1 | exact H.cO.2.2.2.2.1 | exact H.cO.2.2.2.2.2 | exact H.cM.1 | exact H.cM.2.1 | exact H.cM.2.2 | exact H.cV.1 | exact H.cT.1 | exact H.cT.2) rfl ?_
    refine X.getf iX6_count_87 (by first | exact H.c0 | exact H.cO.1 | exact H.cO.2.1 | exact H.cO.2.2.1 | exact H.cO.2.2.2.1 | exact H.cO.2.2.2.2.1 | exact H.cO.2.2.2.2.2 | exact H.cM.1 | exact H.cM.2.1 | exact H.cM.2.2 | exact H.cV.1 | exact H.cT.1 | exact H.cT.2) rfl ?_
    refine X.getf iX6_count_90 (by first | exact H.c0 | exact H.cO.1 | exact H.cO.2.1 | exact H.cO.2.2.1 | exact H.cO.2.2.2.1 | exact H.cO.2.2.2.2.1 | exact H.cO.2.2.2.2.2 | exact H.cM.1 | exact H.cM.2.1 | exact H.cM.2.2 | exact H.cV.1 | exact H.cT.1 | exact H.cT.2) rfl ?_
    exact X.iret iX6_count_93 ⟨(by rw [h2.2.1]), rfl⟩
  by_cases k4 : w = nI 4
  · subst k4
    rw [if_pos (by decide), nI_clamp (by decide)]
    refine X.tabIn iX6_count_1 4 rfl (by decide) ?_
    refine X.aload iX6_count_94 rfl ?_
    refine X.getf iX6_count_95 (by first | exact H.c0 | exact H.cO.1 | exact H.cO.2.1 | exact H.cO.2.2.1 | exact H.cO.2.2.2.1 | exact H.cO.2.2.2.2.1 | exact H.cO.2.2.2.2.2 | exact H.cM.1 | exact H.cM.2.1 | exact H.cM.2.2 | exact H.cV.1 | exact H.cT.1 | exact H.cT.2) rfl ?_
    refine X.getf iX6_count_98 (by first | exact H.c0 | exact H.cO.1 | exact H.cO.2.1 | exact H.cO.2.2.1 | exact H.cO.2.2.2.1 | exact H.cO.2.2.2.2.1 | exact H.cO.2.2.2.2.2 | exact H.cM.1 | exact H.cM.2.1 | exact H.cM.2.2 | exact H.cV.1 | exact H.cT.1 | exact H.cT.2) rfl ?_
    refine X.getf iX6_count_101 (by first | exact H.c0 | exact H.cO.1 | exact H.cO.2.1 | exact H.cO.2.2.1 | exact H.cO.2.2.2.1 | exact H.cO.2.2.2.2.1 | exact H.cO.2.2.2.2.2 | exact H.cM.1 | exact H.cM.2.1 | exact H.cM.2.2 | exact H.cV.1 | exact H.cT.1 | exact H.cT.2) rfl ?_
    exact X.iret iX6_count_104 ⟨(by rw [h2.2.2.1]), rfl⟩
  by_cases k5 : w = nI 5
  · subst k5
    rw [if_pos (by decide), nI_clamp (by decide)]
    refine X.tabIn iX6_count_1 5 rfl (by decide) ?_
    refine X.aload iX6_count_105 rfl ?_
    refine X.getf iX6_count_106 (by first | exact H.c0 | exact H.cO.1 | exact H.cO.2.1 | exact H.cO.2.2.1 | exact H.cO.2.2.2.1 | exact H.cO.2.2.2.2.1 | exact H.cO.2.2.2.2.2 | exact H.cM.1 | exact H.cM.2.1 | exact H.cM.2.2 | exact H.cV.1 | exact H.cT.1 | exact H.cT.2) rfl ?_
    refine X.getf iX6_count_109 (by first | exact H.c0 | exact H.cO.1 | exact H.cO.2.1 | exact H.cO.2.2.1 | exact H.cO.2.2.2.1 | exact H.cO.2.2.2.2.1 | exact H.cO.2.2.2.2.2 | exact H.cM.1 | exact H.cM.2.1 | exact H.cM.2.2 | exact H.cV.1 | exact H.cT.1 | exact H.cT.2) rfl ?_
    refine X.getf iX6_count_112 (by first | exact H.c0 | exact H.cO.1 | exact H.cO.2.1 | exact H.cO.2.2.1 | exact H.cO.2.2.2.1 | exact H.cO.2.2.2.2.1 | exact H.cO.2.2.2.2.2 | exact H.cM.1 | exact H.cM.2.1 | exact H.cM.2.2 | exact H.cV.1 | exact H.cT.1 | exact H.cT.2) rfl ?_
    exact X.iret iX6_count_115 ⟨(by rw [h2.2.2.2.1]), rfl⟩
  by_cases k6 : w = nI 6
  · subst k6
    rw [if_neg (by decide), if_pos rfl]
    refine X.tabIn iX6_count_1 6 rfl (by decide) ?_
    refine X.aload iX6_count_116 rfl ?_
    refine X.getf iX6_count_117 (by first | exact H.c0 | exact H.cO.1 | exact H.cO.2.1 | exact H.cO.2.2.1 | exact H.cO.2.2.2.1 | exact H.cO.2.2.2.2.1 | exact H.cO.2.2.2.2.2 | exact H.cM.1 | exact H.cM.2.1 | exact H.cM.2.2 | exact H.cV.1 | exact H.cT.1 | exact H.cT.2) rfl ?_
    refine X.aload iX6_count_120 rfl ?_
    refine X.getf iX6_count_121 (by first | exact H.c0 | exact H.cO.1 | exact H.cO.2.1 | exact H.cO.2.2.1 | exact H.cO.2.2.2.1 | exact H.cO.2.2.2.2.1 | exact H.cO.2.2.2.2.2 | exact H.cM.1 | exact H.cM.2.1 | exact H.cM.2.2 | exact H.cV.1 | exact H.cT.1 | exact H.cT.2) rfl ?_
    refine X.getf iX6_count_124 (by first | exact H.c0 | exact H.cO.1 | exact H.cO.2.1 | exact H.cO.2.2.1 | exact H.cO.2.2.2.1 | exact H.cO.2.2.2.2.1 | exact H.cO.2.2.2.2.2 | exact H.cM.1 | exact H.cM.2.1 | exact H.cM.2.2 | exact H.cV.1 | exact H.cT.1 | exact H.cT.2) rfl ?_
    refine X.callVi iX6_count_127 (FA) (by first | exact H.c0 | exact H.cO.1 | exact H.cO.2.1 | exact H.cO.2.2.1 | exact H.cO.2.2.2.1 | exact H.cO.2.2.2.2.1 | exact H.cO.2.2.2.2.2 | exact H.cM.1 | exact H.cM.2.1 | exact H.cM.2.2 | exact H.cV.1 | exact H.cT.1 | exact H.cT.2) rfl rfl (xfit _ _ _) (Nat.le_of_ble_eq_true rfl) ?_
    exact X.iret iX6_count_130 ⟨rfl, rfl⟩
  by_cases k7 : w = nI 7
  · subst k7
    rw [if_neg (by decide), if_neg (by decide), if_pos rfl]
    refine X.tabIn iX6_count_1 7 rfl (by decide) ?_
    refine X.aload iX6_count_131 rfl ?_
    refine X.getf iX6_count_132 (by first | exact H.c0 | exact H.cO.1 | exact H.cO.2.1 | exact H.cO.2.2.1 | exact H.cO.2.2.2.1 | exact H.cO.2.2.2.2.1 | exact H.cO.2.2.2.2.2 | exact H.cM.1 | exact H.cM.2.1 | exact H.cM.2.2 | exact H.cV.1 | exact H.cT.1 | exact H.cT.2) rfl ?_
    refine X.getf iX6_count_135 (by first | exact H.c0 | exact H.cO.1 | exact H.cO.2.1 | exact H.cO.2.2.1 | exact H.cO.2.2.2.1 | exact H.cO.2.2.2.2.1 | exact H.cO.2.2.2.2.2 | exact H.cM.1 | exact H.cM.2.1 | exact H.cM.2.2 | exact H.cV.1 | exact H.cT.1 | exact H.cT.2) rfl ?_
    exact X.iret iX6_count_138 ⟨(by rw [h1.2.2.2.2.1]), rfl⟩
  by_cases k8 : w = nI 8
  · subst k8
    rw [if_neg (by decide), if_neg (by decide), if_neg (by decide), if_pos rfl]
    refine X.tabIn iX6_count_1 8 rfl (by decide) ?_
    refine X.aload iX6_count_139 rfl ?_
    refine X.getf iX6_count_140 (by first | exact H.c0 | exact H.cO.1 | exact H.cO.2.1 | exact H.cO.2.2.1 | exact H.cO.2.2.2.1 | exact H.cO.2.2.2.2.1 | exact H.cO.2.2.2.2.2 | exact H.cM.1 | exact H.cM.2.1 | exact H.cM.2.2 | exact H.cV.1 | exact H.cT.1 | exact H.cT.2) rfl ?_
    refine X.getf iX6_count_143 (by first | exact H.c0 | exact H.cO.1 | exact H.cO.2.1 | exact H.cO.2.2.1 | exact H.cO.2.2.2.1 | exact H.cO.2.2.2.2.1 | exact H.cO.2.2.2.2.2 | exact H.cM.1 | exact H.cM.2.1 | exact H.cM.2.2 | exact H.cV.1 | exact H.cT.1 | exact H.cT.2) rfl ?_
    exact X.iret iX6_count_146 ⟨(by rw [h1.2.2.2.2.2.1]), rfl⟩
  by_cases k9 : w = nI 9
  · subst k9
    rw [if_neg (by decide), if_neg (by decide), if_neg (by decide), if_neg (by decide), if_pos rfl]
    refine X.tabIn iX6_count_1 9 rfl (by decide) ?_
    refine X.aload iX6_count_147 rfl ?_
    refine X.getf iX6_count_148 (by first | exact H.c0 | exact H.cO.1 | exact H.cO.2.1 | exact H.cO.2.2.1 | exact H.cO.2.2.2.1 | exact H.cO.2.2.2.2.1 | exact H.cO.2.2.2.2.2 | exact H.cM.1 | exact H.cM.2.1 | exact H.cM.2.2 | exact H.cV.1 | exact H.cT.1 | exact H.cT.2) rfl ?_
    refine X.getf iX6_count_151 (by first | exact H.c0 | exact H.cO.1 | exact H.cO.2.1 | exact H.cO.2.2.1 | exact H.cO.2.2.2.1 | exact H.cO.2.2.2.2.1 | exact H.cO.2.2.2.2.2 | exact H.cM.1 | exact H.cM.2.1 | exact H.cM.2.2 | exact H.cV.1 | exact H.cT.1 | exact H.cT.2) rfl ?_
    exact X.iret iX6_count_154 ⟨(by rw [eu]), rfl⟩
  have q0 := tne 0 (by decide) k0
  have q1 := tne 1 (by decide) k1
  have q2 := tne 2 (by decide) k2
  have q3 := tne 3 (by decide) k3
  have q4 := tne 4 (by decide) k4
  have q5 := tne 5 (by decide) k5
  have q6 := tne 6 (by decide) k6
  have q7 := tne 7 (by decide) k7
  have q8 := tne 8 (by decide) k8
  have q9 := tne 9 (by decide) k9
  rw [if_neg (fun z => by
    obtain ⟨n, -, hn, en⟩ := inI_nat (by decide) (by decide) z
    rw [en, nI_toInt (by omega)] at q0 q1 q2 q3 q4 q5
    omega), if_neg k6, if_neg k7, if_neg k8, if_neg k9]
  refine X.tabOut iX6_count_1 (by show w.toInt < 0 ∨ 0 + 10 ≤ w.toInt; omega) ?_
  refine X.pushi iX6_count_155 ?_
  exact X.iret iX6_count_156 ⟨rfl, rfl⟩
theorem tst_15 (l : Nat) (hl : l < 4) : tst (nI 15) l = true := (by decide +kernel : ∀ l : Fin 4, tst (nI 15) l.1 = true) ⟨l, hl⟩
theorem c_X6_reached {d : Nat} {t n : Int32} {nw : Nat → Int32} {h : XH} {O : Oc} {M : Mo} {V : Hi} {KO : Oc} {KM : Mo} {KV : Hi} {kp : Bool} {T : Ta} {S : Nat → Sh} (H : CI h O M V KO KM KV kp T S) (h1 : RO O nw) (h2 : RM O.nT O.nL M nw) : MetI mX6_reached (d + 3, 0, 0) [.ref 0, .int t, .int n] h (reachedF nw O.nL t n) := by
  have hT := h1.2.2.1
  have hL := h1.2.2.2.1
  refine MetX.of (by decide) rfl (Nat.le_of_ble_eq_true rfl) ?_
  rw [reachedF]
  have HT := c_X3_hasTree (d := d + 2) (t := t) H.cO
  rw [has_T h1] at HT
  refine X.aload iX6_reached_0 rfl ?_
  refine X.getf iX6_reached_1 (by first | exact H.c0 | exact H.cO.1 | exact H.cO.2.1 | exact H.cO.2.2.1 | exact H.cO.2.2.2.1 | exact H.cO.2.2.2.2.1 | exact H.cO.2.2.2.2.2 | exact H.cM.1 | exact H.cM.2.1 | exact H.cM.2.2 | exact H.cV.1 | exact H.cT.1 | exact H.cT.2) rfl ?_
  refine X.iload iX6_reached_4 rfl ?_
  refine X.callVi iX6_reached_5 (HT) (by first | exact H.c0 | exact H.cO.1 | exact H.cO.2.1 | exact H.cO.2.2.1 | exact H.cO.2.2.2.1 | exact H.cO.2.2.2.2.1 | exact H.cO.2.2.2.2.2 | exact H.cM.1 | exact H.cM.2.1 | exact H.cM.2.2 | exact H.cV.1 | exact H.cT.1 | exact H.cT.2) rfl rfl (xfit _ _ _) (Nat.le_of_ble_eq_true rfl) ?_
  refine X.ifeqB iX6_reached_8 (fun c8 => ?_) (fun c8 => ?_)
  · refine X.pushi iX6_reached_21 ?_
    first
    | (refine X.iret iX6_reached_22 ⟨?_, rfl⟩; rw [if_neg (fun q => Bool.noConfusion (c18.symm.trans q.2))])
    | (refine X.iret iX6_reached_22 ⟨?_, rfl⟩; rw [if_neg (fun q => Bool.noConfusion (c8.symm.trans q.1))])
  · refine X.iload iX6_reached_11 rfl ?_
    refine X.pushi (v := nI 0) iX6_reached_12 ?_
    refine X.pushi (v := nI 60) iX6_reached_13 ?_
    refine X.callSi iX6_reached_15 (c_X6_within (d + 2) h n (nI 0) (nI 60)) rfl rfl (xfit _ _ _) (Nat.le_of_ble_eq_true rfl) ?_
    refine X.ifneB iX6_reached_18 (fun c18 => ?_) (fun c18 => ?_)
    · obtain ⟨t', ht, rfl⟩ := isT_nat (RM.wf h1 h2) c8
      rw [if_pos (And.intro c8 c18), nI_clamp (show t' < 2 ^ 31 by omega)]
      have RC := c_X3_reaching (d := d) (t := t') (day := M.day + n) (s := nI 15) H.cO h1.ki hL (by omega)
      rw [re_ln (M := M) (lean := false) h1 ht (fun l hl => by rw [tst_15 l (by omega)]; simp), h2.1] at RC
      refine X.aload iX6_reached_23 rfl ?_
      refine X.getf iX6_reached_24 (by first | exact H.c0 | exact H.cO.1 | exact H.cO.2.1 | exact H.cO.2.2.1 | exact H.cO.2.2.2.1 | exact H.cO.2.2.2.2.1 | exact H.cO.2.2.2.2.2 | exact H.cM.1 | exact H.cM.2.1 | exact H.cM.2.2 | exact H.cV.1 | exact H.cT.1 | exact H.cT.2) rfl ?_
      refine X.iload iX6_reached_27 rfl ?_
      refine X.aload iX6_reached_28 rfl ?_
      refine X.getf iX6_reached_29 (by first | exact H.c0 | exact H.cO.1 | exact H.cO.2.1 | exact H.cO.2.2.1 | exact H.cO.2.2.2.1 | exact H.cO.2.2.2.2.1 | exact H.cO.2.2.2.2.2 | exact H.cM.1 | exact H.cM.2.1 | exact H.cM.2.2 | exact H.cV.1 | exact H.cT.1 | exact H.cT.2) rfl ?_
      refine X.getf iX6_reached_32 (by first | exact H.c0 | exact H.cO.1 | exact H.cO.2.1 | exact H.cO.2.2.1 | exact H.cO.2.2.2.1 | exact H.cO.2.2.2.2.1 | exact H.cO.2.2.2.2.2 | exact H.cM.1 | exact H.cM.2.1 | exact H.cM.2.2 | exact H.cV.1 | exact H.cT.1 | exact H.cT.2) rfl ?_
      refine X.getf iX6_reached_35 (by first | exact H.c0 | exact H.cO.1 | exact H.cO.2.1 | exact H.cO.2.2.1 | exact H.cO.2.2.2.1 | exact H.cO.2.2.2.2.1 | exact H.cO.2.2.2.2.2 | exact H.cM.1 | exact H.cM.2.1 | exact H.cM.2.2 | exact H.cV.1 | exact H.cT.1 | exact H.cT.2) rfl ?_
      rw [h2.1]
      refine X.iload iX6_reached_38 rfl ?_
      refine X.iadd iX6_reached_39 ?_
      refine X.pushi (v := nI 15) iX6_reached_40 ?_
      refine X.callVi iX6_reached_42 (RC) (by first | exact H.c0 | exact H.cO.1 | exact H.cO.2.1 | exact H.cO.2.2.1 | exact H.cO.2.2.2.1 | exact H.cO.2.2.2.2.1 | exact H.cO.2.2.2.2.2 | exact H.cM.1 | exact H.cM.2.1 | exact H.cM.2.2 | exact H.cV.1 | exact H.cT.1 | exact H.cT.2) rfl rfl (xfit _ _ _) (Nat.le_of_ble_eq_true rfl) ?_
      exact X.iret iX6_reached_45 ⟨rfl, rfl⟩
    · refine X.pushi iX6_reached_21 ?_
      first
      | (refine X.iret iX6_reached_22 ⟨?_, rfl⟩; rw [if_neg (fun q => Bool.noConfusion (c18.symm.trans q.2))])
      | (refine X.iret iX6_reached_22 ⟨?_, rfl⟩; rw [if_neg (fun q => Bool.noConfusion (c8.symm.trans q.1))])
