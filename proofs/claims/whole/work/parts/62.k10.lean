/-! the class's own methods: luck -/
theorem c_X6_luck_bad {d : Nat} {h : XH} {g c w : Int32} (hb : inI g (nI 0) (nI 150) = false ∨ inI c (nI 0) (nI 10) = false ∨ inI w (nI 0) (nI 1) = false) : MetI mX6_luck (d + 1, 0, 0) [.ref 0, .int g, .int c, .int w] h (-1) := by
  refine MetX.of (by decide) rfl (Nat.le_of_ble_eq_true rfl) ?_
  refine X.iload iX6_luck_0 rfl ?_
  refine X.pushi (v := nI 0) iX6_luck_1 ?_
  refine X.pushi (v := nI 150) iX6_luck_2 ?_
  refine X.callSi iX6_luck_5 (c_X6_within d h g (nI 0) (nI 150)) rfl rfl (xfit _ _ _) (Nat.le_of_ble_eq_true rfl) ?_
  refine X.ifeqB iX6_luck_8 (fun c8 => ?_) (fun c8 => ?_)
  · refine X.pushi iX6_luck_30 ?_
    exact X.iret iX6_luck_31 ⟨rfl, rfl⟩
  · refine X.iload iX6_luck_11 rfl ?_
    refine X.pushi (v := nI 0) iX6_luck_12 ?_
    refine X.pushi (v := nI 10) iX6_luck_13 ?_
    refine X.callSi iX6_luck_15 (c_X6_within d h c (nI 0) (nI 10)) rfl rfl (xfit _ _ _) (Nat.le_of_ble_eq_true rfl) ?_
    refine X.ifeqB iX6_luck_18 (fun c18 => ?_) (fun c18 => ?_)
    · refine X.pushi iX6_luck_30 ?_
      exact X.iret iX6_luck_31 ⟨rfl, rfl⟩
    · refine X.iload iX6_luck_21 rfl ?_
      refine X.pushi (v := nI 0) iX6_luck_22 ?_
      refine X.pushi (v := nI 1) iX6_luck_23 ?_
      refine X.callSi iX6_luck_24 (c_X6_within d h w (nI 0) (nI 1)) rfl rfl (xfit _ _ _) (Nat.le_of_ble_eq_true rfl) ?_
      refine X.ifneB iX6_luck_27 (fun c27 => ?_) (fun c27 => ?_)
      · exact absurd hb (fun z => z.elim (fun y => Bool.noConfusion (c8.symm.trans y)) (fun y => y.elim (fun x => Bool.noConfusion (c18.symm.trans x)) (fun x => Bool.noConfusion (c27.symm.trans x))))
      · refine X.pushi iX6_luck_30 ?_
        exact X.iret iX6_luck_31 ⟨rfl, rfl⟩
theorem c_X6_luck {d c w : Nat} {g : Int32} {nw : Nat → Int32} {h : XH} {O : Oc} {M : Mo} {V : Hi} {KO : Oc} {KM : Mo} {KV : Hi} {kp : Bool} {T : Ta} {S : Nat → Sh} (H : CI h O M V KO KM KV kp T S) (h1 : RO O nw) (h2 : RM O.nT O.nL M nw) (hg : inI g (nI 0) (nI 150) = true) (hc : c ≤ 10) (hw : w ≤ 1) : MetI mX6_luck (d + 5, 0, 0) [.ref 0, .int g, .int (nI c), .int (nI w)] h (luckF nw O.nT O.nL c g w) ∧ 0 < (lkS nw O.nT O.nL c g (2 ^ O.nL)).2 := by
  have hT := h1.2.2.1
  have hL := h1.2.2.2.1
  obtain ⟨m, hm2, hm, em, hbit⟩ := bits_num (awB M.ln) hL
  have LS := luck_sum (nw := nw) (got := fun p => gtS O M (nI p) O.nT) (nT := O.nT) (g := g) hL hm2 hc (fun l hl => by
    rw [← (h2.2.2.2.2.2.2.1 l hl).1, ← hbit l hl]
    constructor
    · intro e q
      exact of_decide_eq_true q e
    · intro q
      by_cases e : M.ln l = -4
      · exact e
      · exact absurd (decide_eq_true e) q) (fun p hp hs => luck_own h1 h2 hm hbit hp hs)
  refine ⟨?_, LS.2⟩
  have le := lkS_le (nw := nw) (nT := O.nT) (nL := O.nL) (g := g) hc (2 ^ O.nL)
  have l16 := p16 hL
  have l10 : 10 ^ O.nL ≤ 10 ^ 4 := Nat.pow_le_pow_right (by decide) hL
  have lm : 2 ^ O.nL * 10 ^ O.nL ≤ 16 * 10 ^ 4 := Nat.mul_le_mul l16 l10
  have pos := LS.2
  rw [luckF]
  rw [LS.1] at le pos ⊢
  have LW := c_X3_leaningAnywhere (d := d + 4) H.cO H.cM hL
  rw [em] at LW
  have P : ∀ p, p ≤ 16 → X xT mX6_luck (xR (d + 5, 0, 0)) (0, 0) 50 [some (.ref 0), some (.int g), some (.int (nI c)), some (.int (nI w)), some (.int (nI m)), some (.int (nI (luA (fun p => gtS O M (nI p) O.nT) g m c p).1)), some (.int (nI (luA (fun p => gtS O M (nI p) O.nT) g m c p).2)), some (.int (nI p)), none] [] h (fun v h' => v = some (.int (nI ((if w = 0 then (luA (fun p => gtS O M (nI p) O.nT) g m c 16).1 else (luA (fun p => gtS O M (nI p) O.nT) g m c 16).2) / Nat.gcd (luA (fun p => gtS O M (nI p) O.nT) g m c 16).1 (luA (fun p => gtS O M (nI p) O.nT) g m c 16).2))) ∧ h' = h) := by
    refine xloop 16 ?_ ?_
    · generalize luA (fun p => gtS O M (nI p) O.nT) g m c 16 = AB at le pos
      obtain ⟨A, B⟩ := AB
      have hA : A < 2 ^ 31 := by omega
      have hB : B < 2 ^ 31 := by omega
      have gp : 0 < Nat.gcd A B := Nat.gcd_pos_of_pos_right A pos
      have gl : Nat.gcd A B ≤ B := Nat.gcd_le_right A pos
      by_cases w0 : w = 0
      · rw [if_pos w0]
        refine X.iload iX6_luck_50 rfl ?_
        refine X.pushi (v := nI 16) iX6_luck_52 ?_
        refine X.cmge iX6_luck_54 (fun c54 => ?_) (fun c54 => ?_)
        · refine X.iload iX6_luck_114 rfl ?_
          refine X.iload iX6_luck_116 rfl ?_
          refine X.callSi iX6_luck_118 (c_X6_commonDivisor (d := d + 3) hA hB pos) rfl rfl (xfit _ _ _) (Nat.le_of_ble_eq_true rfl) ?_
          refine X.istore iX6_luck_121 rfl rfl ?_
          refine X.iload iX6_luck_123 rfl ?_
          refine X.ifne iX6_luck_124 (fun c124 => ?_) (fun c124 => ?_)
          · exact absurd (by rw [w0]; exact nI_0) c124
          · refine X.iload iX6_luck_127 rfl ?_
            refine X.goto iX6_luck_129 ?_
            refine X.iload iX6_luck_134 rfl ?_
            refine X.idiv iX6_luck_136 (nI_ne0 gp (by omega)) ?_
            rw [pk_div hA gp (by omega)]
            exact X.iret iX6_luck_137 ⟨rfl, rfl⟩
        · exact absurd (Int32.le_refl _) c54
      · rw [if_neg w0]
        refine X.iload iX6_luck_50 rfl ?_
        refine X.pushi (v := nI 16) iX6_luck_52 ?_
        refine X.cmge iX6_luck_54 (fun c54 => ?_) (fun c54 => ?_)
        · refine X.iload iX6_luck_114 rfl ?_
          refine X.iload iX6_luck_116 rfl ?_
          refine X.callSi iX6_luck_118 (c_X6_commonDivisor (d := d + 3) hA hB pos) rfl rfl (xfit _ _ _) (Nat.le_of_ble_eq_true rfl) ?_
          refine X.istore iX6_luck_121 rfl rfl ?_
          refine X.iload iX6_luck_123 rfl ?_
          refine X.ifne iX6_luck_124 (fun c124 => ?_) (fun c124 => ?_)
          · refine X.iload iX6_luck_132 rfl ?_
            refine X.iload iX6_luck_134 rfl ?_
            refine X.idiv iX6_luck_136 (nI_ne0 gp (by omega)) ?_
            rw [pk_div hB gp (by omega)]
            exact X.iret iX6_luck_137 ⟨rfl, rfl⟩
          · exact absurd c124 (nI_ne0 (by omega) (by omega))
        · exact absurd (Int32.le_refl _) c54
    · intro p hp ih
      rw [luA] at ih
      by_cases q : p &&& m = p
      · rw [if_pos q] at ih
        by_cases r : g ≤ gtS O M (nI p) O.nT
        · rw [if_pos r] at ih
          refine X.iload iX6_luck_50 rfl ?_
          refine X.pushi (v := nI 16) iX6_luck_52 ?_
          refine X.cmge iX6_luck_54 (fun c54 => ?_) (fun c54 => ?_)
          · exact absurd c54 (nI_ge hp (by decide))
          · refine X.iload iX6_luck_57 rfl ?_
            refine X.iload iX6_luck_59 rfl ?_
            refine X.pushi iX6_luck_61 ?_
            refine X.ixor iX6_luck_62 ?_
            refine X.iand iX6_luck_63 ?_
            refine X.ifne iX6_luck_64 (fun c64 => ?_) (fun c64 => ?_)
            · exact absurd ((sub0 m p hm hp).mpr q) c64
            · refine X.iload iX6_luck_67 rfl ?_
              refine X.iload iX6_luck_69 rfl ?_
              refine X.iload iX6_luck_71 rfl ?_
              refine X.callSi iX6_luck_72 (c_X6_waysToBe (d := d + 4) (by omega) (by omega) hc) rfl rfl (xfit _ _ _) (Nat.le_of_ble_eq_true rfl) ?_
              refine X.istore iX6_luck_75 rfl rfl ?_
              refine X.iload iX6_luck_77 rfl ?_
              refine X.iload iX6_luck_79 rfl ?_
              refine X.iadd iX6_luck_81 ?_
              rw [nI_add]
              refine X.istore iX6_luck_82 rfl rfl ?_
              refine X.iload iX6_luck_84 rfl ?_
              refine X.aload iX6_luck_86 rfl ?_
              refine X.getf iX6_luck_87 (by first | exact H.c0 | exact H.cO.1 | exact H.cM.1 | assumption) rfl ?_
              refine X.iload iX6_luck_90 rfl ?_
              refine X.callVi iX6_luck_92 (c_X3_gotToday (d := d) (M := M) H.cO H.cM h1.ki hL hT) (by first | exact H.c0 | exact H.cO.1 | exact H.cM.1 | assumption) rfl rfl (xfit _ _ _) (Nat.le_of_ble_eq_true rfl) ?_
              refine X.iload iX6_luck_95 rfl ?_
              refine X.cmlt iX6_luck_96 (fun c96 => ?_) (fun c96 => ?_)
              · exact absurd c96 (Int32.not_lt.mpr r)
              · refine X.iload iX6_luck_99 rfl ?_
                refine X.goto iX6_luck_101 ?_
                refine X.iadd iX6_luck_105 ?_
                rw [nI_add]
                refine X.istore iX6_luck_106 rfl rfl ?_
                refine X.iinc iX6_luck_108 rfl rfl rfl ?_
                refine X.goto iX6_luck_111 ?_
                rw [nI_1]
                exact X.unset 8 rfl ih
        · rw [if_neg r, Nat.add_zero] at ih
          refine X.iload iX6_luck_50 rfl ?_
          refine X.pushi (v := nI 16) iX6_luck_52 ?_
          refine X.cmge iX6_luck_54 (fun c54 => ?_) (fun c54 => ?_)
          · exact absurd c54 (nI_ge hp (by decide))
          · refine X.iload iX6_luck_57 rfl ?_
            refine X.iload iX6_luck_59 rfl ?_
            refine X.pushi iX6_luck_61 ?_
            refine X.ixor iX6_luck_62 ?_
            refine X.iand iX6_luck_63 ?_
            refine X.ifne iX6_luck_64 (fun c64 => ?_) (fun c64 => ?_)
            · exact absurd ((sub0 m p hm hp).mpr q) c64
            · refine X.iload iX6_luck_67 rfl ?_
              refine X.iload iX6_luck_69 rfl ?_
              refine X.iload iX6_luck_71 rfl ?_
              refine X.callSi iX6_luck_72 (c_X6_waysToBe (d := d + 4) (by omega) (by omega) hc) rfl rfl (xfit _ _ _) (Nat.le_of_ble_eq_true rfl) ?_
              refine X.istore iX6_luck_75 rfl rfl ?_
              refine X.iload iX6_luck_77 rfl ?_
              refine X.iload iX6_luck_79 rfl ?_
              refine X.iadd iX6_luck_81 ?_
              rw [nI_add]
              refine X.istore iX6_luck_82 rfl rfl ?_
              refine X.iload iX6_luck_84 rfl ?_
              refine X.aload iX6_luck_86 rfl ?_
              refine X.getf iX6_luck_87 (by first | exact H.c0 | exact H.cO.1 | exact H.cM.1 | assumption) rfl ?_
              refine X.iload iX6_luck_90 rfl ?_
              refine X.callVi iX6_luck_92 (c_X3_gotToday (d := d) (M := M) H.cO H.cM h1.ki hL hT) (by first | exact H.c0 | exact H.cO.1 | exact H.cM.1 | assumption) rfl rfl (xfit _ _ _) (Nat.le_of_ble_eq_true rfl) ?_
              refine X.iload iX6_luck_95 rfl ?_
              refine X.cmlt iX6_luck_96 (fun c96 => ?_) (fun c96 => ?_)
              · refine X.pushi (v := nI 0) iX6_luck_104 ?_
                refine X.iadd iX6_luck_105 ?_
                rw [nI_add, Nat.add_zero]
                refine X.istore iX6_luck_106 rfl rfl ?_
                refine X.iinc iX6_luck_108 rfl rfl rfl ?_
                refine X.goto iX6_luck_111 ?_
                rw [nI_1]
                exact X.unset 8 rfl ih
              · exact absurd (Int32.not_le.mp r) c96
      · rw [if_neg q] at ih
        refine X.iload iX6_luck_50 rfl ?_
        refine X.pushi (v := nI 16) iX6_luck_52 ?_
        refine X.cmge iX6_luck_54 (fun c54 => ?_) (fun c54 => ?_)
        · exact absurd c54 (nI_ge hp (by decide))
        · refine X.iload iX6_luck_57 rfl ?_
          refine X.iload iX6_luck_59 rfl ?_
          refine X.pushi iX6_luck_61 ?_
          refine X.ixor iX6_luck_62 ?_
          refine X.iand iX6_luck_63 ?_
          refine X.ifne iX6_luck_64 (fun c64 => ?_) (fun c64 => ?_)
          · refine X.iinc iX6_luck_108 rfl rfl rfl ?_
            refine X.goto iX6_luck_111 ?_
            rw [nI_1]
            exact ih
          · exact absurd ((sub0 m p hm hp).mp c64) q
  refine MetX.of (by decide) rfl (Nat.le_of_ble_eq_true rfl) ?_
  refine X.iload iX6_luck_0 rfl ?_
  refine X.pushi (v := nI 0) iX6_luck_1 ?_
  refine X.pushi (v := nI 150) iX6_luck_2 ?_
  refine X.callSi iX6_luck_5 (c_X6_within (d + 4) h g (nI 0) (nI 150)) rfl rfl (xfit _ _ _) (Nat.le_of_ble_eq_true rfl) ?_
  refine X.ifeqB iX6_luck_8 (fun c8 => ?_) (fun c8 => ?_)
  · exact absurd (c8.symm.trans hg) (by decide)
  · refine X.iload iX6_luck_11 rfl ?_
    refine X.pushi (v := nI 0) iX6_luck_12 ?_
    refine X.pushi (v := nI 10) iX6_luck_13 ?_
    refine X.callSi iX6_luck_15 (c_X6_within (d + 4) h (nI c) (nI 0) (nI 10)) rfl rfl (xfit _ _ _) (Nat.le_of_ble_eq_true rfl) ?_
    refine X.ifeqB iX6_luck_18 (fun c18 => ?_) (fun c18 => ?_)
    · exact absurd (c18.symm.trans (inI_of (Nat.zero_le _) hc (by decide))) (by decide)
    · refine X.iload iX6_luck_21 rfl ?_
      refine X.pushi (v := nI 0) iX6_luck_22 ?_
      refine X.pushi (v := nI 1) iX6_luck_23 ?_
      refine X.callSi iX6_luck_24 (c_X6_within (d + 4) h (nI w) (nI 0) (nI 1)) rfl rfl (xfit _ _ _) (Nat.le_of_ble_eq_true rfl) ?_
      refine X.ifneB iX6_luck_27 (fun c27 => ?_) (fun c27 => ?_)
      · refine X.aload iX6_luck_32 rfl ?_
        refine X.getf iX6_luck_33 (by first | exact H.c0 | exact H.cO.1 | exact H.cM.1 | assumption) rfl ?_
        refine X.callVi iX6_luck_36 (LW) (by first | exact H.c0 | exact H.cO.1 | exact H.cM.1 | assumption) rfl rfl (xfit _ _ _) (Nat.le_of_ble_eq_true rfl) ?_
        refine X.istore iX6_luck_39 rfl rfl ?_
        refine X.pushi (v := nI 0) iX6_luck_41 ?_
        refine X.istore iX6_luck_42 rfl rfl ?_
        refine X.pushi (v := nI 0) iX6_luck_44 ?_
        refine X.istore iX6_luck_45 rfl rfl ?_
        refine X.pushi (v := nI 0) iX6_luck_47 ?_
        refine X.istore iX6_luck_48 rfl rfl ?_
        exact P 0 (Nat.zero_le _)
      · exact absurd (c27.symm.trans (inI_of (Nat.zero_le _) hw (by decide))) (by decide)
